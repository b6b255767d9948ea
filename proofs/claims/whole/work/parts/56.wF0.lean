set_option maxHeartbeats 4000000 in
set_option maxRecDepth 100000 in
theorem tX6_in (l : Launch) (D : va_G) (cI cJ cG : ClassId)  (Hs : Heap) (y0 : Int32) (y1 : Int32) (y2 : Int32)  (out : Int32) (hf : fX6_in y0 y1 y2 = some out) : Met l yX6_in wsX6_in ({ frames := 0, cells := 0, slots := 0, locals := 0 }) (va_Pc [.int y0, .int y1, .int y2] (rP D (tyL cI cJ cG) [] Hs)) (rQi out Hs) 0 0 (fun _ => False) := by
  refine Met.ofW (cc := cX6_in) (maxL := 3) (ret := (some .boolean)) (by decide) rfl ?_
  intro p e s m args below meth c s₁ B hml hv
  obtain ⟨rfl, rfl, hP, hK⟩ := hv
  have hx := B.exec
  have hb := B.bytes
  have hr := B.returns
  have hts := atoms_spec (ws := wsX6_in) B.pre
  have hown : s.vm.findClass RX6 = some m.cls := findClass_of_methodNamed B.named
  have hlocks := B.notSynchronized
  have hS : va_S (fun _ => False) s.heap s.heap [] := va_S.rf
  have hl := lv_entry ([.int y0, .int y1, .int y2]) (n := 3) (Nat.le_of_ble_eq_true rfl)
  rw [lg_entry_eq]
  generalize (lg_sl ([.int y0, .int y1, .int y2]) ++ List.replicate (3 - (lg_sl ([.int y0, .int y1, .int y2])).length) Slot.unset).toArray = ls at hl ⊢
  have hl : lv_has ls 3 [(0, .int y0), (1, .int y1), (2, .int y2)] := hl
  generalize hQQ : MQ below _ _ s 0 0 _ = QQ
  replace hQQ := hQQ.symm
  unfold fX6_in at hf
  refine lv_iload_n hx hb dX6_in_0 rfl (lv_at hl 0 rfl) ?_
  refine lv_iload_n hx hb dX6_in_1 rfl (lv_at hl 1 rfl) ?_
  refine lv_icmp_lt (tgt := 14) hx hb dX6_in_2 (by decide) (fun c2 => ?_) (fun c2 => ?_)
  · have hf := ifp hf c2
    refine lv_iconst (v := (0 : Int32)) hx hb dX6_in_14 (by decide) ?_
    rw [hQQ]
    exact W.zret (v := (0 : Int32)) hx hb hr rfl (fun t ht hW => ⟨⟨(0 : Int32), (), rfl, Option.some.inj hf, ht⟩, rF ht⟩) hS.2.2 dX6_in_15
  · have hf := ifn hf c2
    refine lv_iload_n hx hb dX6_in_5 rfl (lv_at hl 0 rfl) ?_
    refine lv_iload_n hx hb dX6_in_6 rfl (lv_at hl 2 rfl) ?_
    refine lv_icmp_gt (tgt := 14) hx hb dX6_in_7 (by decide) (fun c7 => ?_) (fun c7 => ?_)
    · have hf := ifp hf c7
      refine lv_iconst (v := (0 : Int32)) hx hb dX6_in_14 (by decide) ?_
      rw [hQQ]
      exact W.zret (v := (0 : Int32)) hx hb hr rfl (fun t ht hW => ⟨⟨(0 : Int32), (), rfl, Option.some.inj hf, ht⟩, rF ht⟩) hS.2.2 dX6_in_15
    · have hf := ifn hf c7
      refine lv_iconst (v := (1 : Int32)) hx hb dX6_in_10 (by decide) ?_
      refine lv_goto (tgt := 15) hx hb dX6_in_11 (by decide) ?_
      rw [hQQ]
      exact W.zret (v := (1 : Int32)) hx hb hr rfl (fun t ht hW => ⟨⟨(1 : Int32), (), rfl, Option.some.inj hf, ht⟩, rF ht⟩) hS.2.2 dX6_in_15

set_option maxHeartbeats 4000000 in
set_option maxRecDepth 100000 in
theorem tX6_isLine (l : Launch) (D : va_G) (cI cJ cG : ClassId) (aF aF_kinds aF_vs aF_ws aF_roles aF_partner aF_lineOf aF_rank aF_behind aF_before aF_ways aF_inputOf aF_answer aF_values aF_printedRow aF_wasValues aF_wasPrinted aF_due aF_takenPlace aF_against : Nat) (Hs : Heap) (y1 : Int32) (F_lines : Int32) (F_model : Int32) (F_inputs : Int32) (F_size : Int32) (F_hints : Int32) (F_hasRun : Int32) (F_printedMany : Int32) (F_keptBits : Int32) (F_keptMany : Int32) (F_takenMany : Int32) (F_change : Int32) (F_who : Int32) (F_where : Int32) (F_h : Int64) (out : Int32) (hf : fX6_isLine y1 F_lines = some out) : Met l yX6_isLine wsX6_isLine ({ frames := 1, cells := 0, slots := 0, locals := 22 }) (va_Pc [.ref aF, .int y1] (rP D (tyL cI cJ cG) [(aF, .inr (6, [.int F_lines, .ref aF_kinds, .ref aF_vs, .ref aF_ws, .ref aF_roles, .ref aF_partner, .int F_model, .ref aF_lineOf, .ref aF_rank, .ref aF_behind, .ref aF_before, .ref aF_ways, .int F_inputs, .ref aF_inputOf, .int F_size, .ref aF_answer, .int F_hints, .int F_hasRun, .ref aF_values, .int F_printedMany, .ref aF_printedRow, .ref aF_wasValues, .ref aF_wasPrinted, .ref aF_due, .int F_keptBits, .int F_keptMany, .int F_takenMany, .ref aF_takenPlace, .ref aF_against, .int F_change, .int F_who, .int F_where, .long F_h]))] Hs)) (rQi out Hs) 0 0 (fun _ => False) := by
  refine Met.ofW (cc := cX6_isLine) (maxL := 2) (ret := (some .boolean)) (by decide) rfl ?_
  intro p e s m args below meth c s₁ B hml hv
  obtain ⟨rfl, rfl, hP, hK⟩ := hv
  have hx := B.exec
  have hb := B.bytes
  have hr := B.returns
  have hts := atoms_spec (ws := wsX6_isLine) B.pre
  have hown : s.vm.findClass RX6 = some m.cls := findClass_of_methodNamed B.named
  have hlocks := B.notSynchronized
  have iX6 : ∀ w ∈ wsX60, w ∈ wsX6_isLine := by decide +kernel
  have k68 := hts (.fieldLink RX6 68 "BlockMarkerModel" "lines" "I") (by decide +kernel)
  have hS : va_S (fun _ => False) s.heap s.heap [] := va_S.rf
  have hl := lv_entry ([.ref aF, .int y1]) (n := 2) (Nat.le_of_ble_eq_true rfl)
  rw [lg_entry_eq]
  generalize (lg_sl ([.ref aF, .int y1]) ++ List.replicate (2 - (lg_sl ([.ref aF, .int y1])).length) Slot.unset).toArray = ls at hl ⊢
  have hl : lv_has ls 2 [(0, .ref aF), (1, .int y1)] := hl
  generalize hQQ : MQ below _ _ s 0 0 _ = QQ
  replace hQQ := hQQ.symm
  unfold fX6_isLine at hf
  refine lv_iload_n hx hb dX6_isLine_0 rfl (lv_at hl 1 rfl) ?_
  refine lv_iconst (v := (0 : Int32)) hx hb dX6_isLine_1 (by decide) ?_
  refine lv_aload_n hx hb dX6_isLine_2 rfl (lv_at hl 0 rfl) ?_
  refine va_get (D := D) (ci := 6) (v := .int F_lines) (C := RX6) (T := TX6) (N := 33) hx hb hts iX6 hown hK.1 hP 0 rfl rfl 0 (by decide) k68 (fun _ h9 => h9) rfl dX6_isLine_3 ?_
  refine lv_iconst (v := (1 : Int32)) hx hb dX6_isLine_6 (by decide) ?_
  refine lv_isub hx hb dX6_isLine_7 ?_
  refine bnd hf (fun o8 e8 hf => ?_)
  refine rdSi (As := [.int y1, .int (0 : Int32), .int (F_lines - (1 : Int32))]) (rest := []) ⟨hx, hb, hml, hown, hts⟩ (tX6_in l D cI cJ cG  s.heap y1 (0 : Int32) (F_lines - (1 : Int32))  o8 e8) (va_cwS 3 hts gX6_isLine_X6_in rfl rfl rfl (by decide +kernel) ⟨Nat.le_of_ble_eq_true rfl, Nat.le_of_ble_eq_true rfl⟩) hK (hP.sub (ws' := []) [] rfl) rfl hl.1 rfl (lv_room (Nat.le_of_ble_eq_true rfl)) dX6_isLine_8 ⟨Nat.le_of_ble_eq_true rfl, Nat.le_of_ble_eq_true rfl⟩ hS (fun locs hS => ?_)
  refine ckE hf (fun h11 hf => ?_)
  rw [hQQ]
  exact W.zret (v := o8) hx hb hr (z01 h11) (fun t ht hW => ⟨⟨o8, (), rfl, Option.some.inj hf, ht⟩, rF ht⟩) hS.2.2 dX6_isLine_11

set_option maxHeartbeats 4000000 in
set_option maxRecDepth 100000 in
theorem tX6_fits (l : Launch) (D : va_G) (cI cJ cG : ClassId)  (Hs : Heap) (y0 : Int32) (y1 : Int32) (y2 : Int32)  (out : Int32) (hf : fX6_fits y0 y1 y2 = some out) : Met l yX6_fits wsX6_fits ({ frames := 1, cells := 0, slots := 0, locals := 22 }) (va_Pc [.int y0, .int y1, .int y2] (rP D (tyL cI cJ cG) [] Hs)) (rQi out Hs) 0 0 (fun _ => False) := by
  refine Met.ofW (cc := cX6_fits) (maxL := 4) (ret := (some .boolean)) (by decide) rfl ?_
  intro p e s m args below meth c s₁ B hml hv
  obtain ⟨rfl, rfl, hP, hK⟩ := hv
  have hx := B.exec
  have hb := B.bytes
  have hr := B.returns
  have hts := atoms_spec (ws := wsX6_fits) B.pre
  have hown : s.vm.findClass RX6 = some m.cls := findClass_of_methodNamed B.named
  have hlocks := B.notSynchronized
  have hS : va_S (fun _ => False) s.heap s.heap [] := va_S.rf
  have hl := lv_entry ([.int y0, .int y1, .int y2]) (n := 4) (Nat.le_of_ble_eq_true rfl)
  rw [lg_entry_eq]
  generalize (lg_sl ([.int y0, .int y1, .int y2]) ++ List.replicate (4 - (lg_sl ([.int y0, .int y1, .int y2])).length) Slot.unset).toArray = ls at hl ⊢
  have hl : lv_has ls 4 [(0, .int y0), (1, .int y1), (2, .int y2)] := hl
  generalize hQQ : MQ below _ _ s 0 0 _ = QQ
  replace hQQ := hQQ.symm
  have b_28 : ∀ (x0 : Int32) (x1 : Int32) (t0 : Int32), fX6_fits_b28  x0 x1 t0 = some out → ∀ (locs : List Loc) (ls : Array Slot), va_S (fun _ => False) s.heap s.heap locs → lv_has ls 4 [(0, .int x0), (1, .int x1)] → W p l e (headSpec wsX6_fits { frames := 1, cells := 0, slots := 0, locals := 22 }).room s m ([.int y0, .int y1, .int y2] : List Value).toArray below meth c s.heap locs 0 0 QQ (F0 m 28 ls [.int t0]) := by
    intro  x0 x1 t0 hf locs ls hS hl
    unfold fX6_fits_b28 at hf
    refine lv_istore_n (lv' := [(3, .int t0), (0, .int x0), (1, .int x1)]) hx hb dX6_fits_28 rfl hl (by decide) rfl (fun ls hl => ?_)
    refine lv_iload_n hx hb dX6_fits_29 rfl (lv_at hl 1 rfl) ?_
    refine lv_iconst (v := (0 : Int32)) hx hb dX6_fits_30 (by decide) ?_
    refine lv_bipush (v := (6 : Int32)) hx hb dX6_fits_31 (by decide) ?_
    refine bnd hf (fun o33 e33 hf => ?_)
    refine rdSi (As := [.int x0, .int (0 : Int32), .int (6 : Int32)]) (rest := []) ⟨hx, hb, hml, hown, hts⟩ (tX6_in l D cI cJ cG  s.heap x0 (0 : Int32) (6 : Int32)  o33 e33) (va_cwS 3 hts gX6_fits_X6_in rfl rfl rfl (by decide +kernel) ⟨Nat.le_of_ble_eq_true rfl, Nat.le_of_ble_eq_true rfl⟩) hK (hP.sub (ws' := []) [] rfl) rfl hl.1 rfl (lv_room (Nat.le_of_ble_eq_true rfl)) dX6_fits_33 ⟨Nat.le_of_ble_eq_true rfl, Nat.le_of_ble_eq_true rfl⟩ hS (fun locs hS => ?_)
    refine lv_if_eq (tgt := 61) hx hb dX6_fits_36 (by decide) (fun c36 => ?_) (fun c36 => ?_)
    · have hf := ifp hf c36
      refine lv_iconst (v := (0 : Int32)) hx hb dX6_fits_61 (by decide) ?_
      rw [hQQ]
      exact W.zret (v := (0 : Int32)) hx hb hr rfl (fun t ht hW => ⟨⟨(0 : Int32), (), rfl, Option.some.inj hf, ht⟩, rF ht⟩) hS.2.2 dX6_fits_62
    · have hf := ifn hf c36
      refine lv_iload_n hx hb dX6_fits_39 rfl (lv_at hl 0 rfl) ?_
      refine lv_if_eq (tgt := 61) hx hb dX6_fits_40 (by decide) (fun c40 => ?_) (fun c40 => ?_)
      · have hf := ifp hf c40
        refine lv_iconst (v := (0 : Int32)) hx hb dX6_fits_61 (by decide) ?_
        rw [hQQ]
        exact W.zret (v := (0 : Int32)) hx hb hr rfl (fun t ht hW => ⟨⟨(0 : Int32), (), rfl, Option.some.inj hf, ht⟩, rF ht⟩) hS.2.2 dX6_fits_62
      · have hf := ifn hf c40
        refine lv_iload_n hx hb dX6_fits_43 rfl (lv_at hl 1 rfl) ?_
        refine lv_iconst (v := (5 : Int32)) hx hb dX6_fits_44 (by decide) ?_
        refine lv_icmp_eq (tgt := 57) hx hb dX6_fits_45 (by decide) (fun c45 => ?_) (fun c45 => ?_)
        · have hf := ifp hf c45
          refine lv_iconst (v := (1 : Int32)) hx hb dX6_fits_57 (by decide) ?_
          refine lv_goto (tgt := 62) hx hb dX6_fits_58 (by decide) ?_
          rw [hQQ]
          exact W.zret (v := (1 : Int32)) hx hb hr rfl (fun t ht hW => ⟨⟨(1 : Int32), (), rfl, Option.some.inj hf, ht⟩, rF ht⟩) hS.2.2 dX6_fits_62
        · have hf := ifn hf c45
          refine lv_iload_n hx hb dX6_fits_48 rfl (lv_at hl 2 rfl) ?_
          refine lv_iconst (v := (0 : Int32)) hx hb dX6_fits_49 (by decide) ?_
          refine lv_iconst (v := (5 : Int32)) hx hb dX6_fits_50 (by decide) ?_
          refine bnd hf (fun o51 e51 hf => ?_)
          refine rdSi (As := [.int x1, .int (0 : Int32), .int (5 : Int32)]) (rest := []) ⟨hx, hb, hml, hown, hts⟩ (tX6_in l D cI cJ cG  s.heap x1 (0 : Int32) (5 : Int32)  o51 e51) (va_cwS 3 hts gX6_fits_X6_in rfl rfl rfl (by decide +kernel) ⟨Nat.le_of_ble_eq_true rfl, Nat.le_of_ble_eq_true rfl⟩) hK (hP.sub (ws' := []) [] rfl) rfl hl.1 rfl (lv_room (Nat.le_of_ble_eq_true rfl)) dX6_fits_51 ⟨Nat.le_of_ble_eq_true rfl, Nat.le_of_ble_eq_true rfl⟩ hS (fun locs hS => ?_)
          refine lv_if_eq (tgt := 61) hx hb dX6_fits_54 (by decide) (fun c54 => ?_) (fun c54 => ?_)
          · have hf := ifp hf c54
            refine lv_iconst (v := (0 : Int32)) hx hb dX6_fits_61 (by decide) ?_
            rw [hQQ]
            exact W.zret (v := (0 : Int32)) hx hb hr rfl (fun t ht hW => ⟨⟨(0 : Int32), (), rfl, Option.some.inj hf, ht⟩, rF ht⟩) hS.2.2 dX6_fits_62
          · have hf := ifn hf c54
            refine lv_iconst (v := (1 : Int32)) hx hb dX6_fits_57 (by decide) ?_
            refine lv_goto (tgt := 62) hx hb dX6_fits_58 (by decide) ?_
            rw [hQQ]
            exact W.zret (v := (1 : Int32)) hx hb hr rfl (fun t ht hW => ⟨⟨(1 : Int32), (), rfl, Option.some.inj hf, ht⟩, rF ht⟩) hS.2.2 dX6_fits_62
  unfold fX6_fits at hf
  refine lv_iload_n hx hb dX6_fits_0 rfl (lv_at hl 0 rfl) ?_
  refine lv_if_eq (tgt := 23) hx hb dX6_fits_1 (by decide) (fun c1 => ?_) (fun c1 => ?_)
  · have hf := ifp hf c1
    refine lv_iconst (v := (1 : Int32)) hx hb dX6_fits_23 (by decide) ?_
    refine lv_goto (tgt := 28) hx hb dX6_fits_24 (by decide) ?_
    exact b_28 y0 y1 (1 : Int32) hf _ _ hS (lv_sub hl [0, 1] rfl)
  · have hf := ifn hf c1
    refine lv_iload_n hx hb dX6_fits_4 rfl (lv_at hl 0 rfl) ?_
    refine lv_iconst (v := (4 : Int32)) hx hb dX6_fits_5 (by decide) ?_
    refine lv_icmp_eq (tgt := 23) hx hb dX6_fits_6 (by decide) (fun c6 => ?_) (fun c6 => ?_)
    · have hf := ifp hf c6
      refine lv_iconst (v := (1 : Int32)) hx hb dX6_fits_23 (by decide) ?_
      refine lv_goto (tgt := 28) hx hb dX6_fits_24 (by decide) ?_
      exact b_28 y0 y1 (1 : Int32) hf _ _ hS (lv_sub hl [0, 1] rfl)
    · have hf := ifn hf c6
      refine lv_iload_n hx hb dX6_fits_9 rfl (lv_at hl 0 rfl) ?_
      refine lv_iconst (v := (5 : Int32)) hx hb dX6_fits_10 (by decide) ?_
      refine lv_icmp_eq (tgt := 23) hx hb dX6_fits_11 (by decide) (fun c11 => ?_) (fun c11 => ?_)
      · have hf := ifp hf c11
        refine lv_iconst (v := (1 : Int32)) hx hb dX6_fits_23 (by decide) ?_
        refine lv_goto (tgt := 28) hx hb dX6_fits_24 (by decide) ?_
        exact b_28 y0 y1 (1 : Int32) hf _ _ hS (lv_sub hl [0, 1] rfl)
      · have hf := ifn hf c11
        refine lv_iload_n hx hb dX6_fits_14 rfl (lv_at hl 2 rfl) ?_
        refine lv_iconst (v := (0 : Int32)) hx hb dX6_fits_15 (by decide) ?_
        refine lv_iconst (v := (5 : Int32)) hx hb dX6_fits_16 (by decide) ?_
        refine bnd hf (fun o17 e17 hf => ?_)
        refine rdSi (As := [.int y2, .int (0 : Int32), .int (5 : Int32)]) (rest := []) ⟨hx, hb, hml, hown, hts⟩ (tX6_in l D cI cJ cG  s.heap y2 (0 : Int32) (5 : Int32)  o17 e17) (va_cwS 3 hts gX6_fits_X6_in rfl rfl rfl (by decide +kernel) ⟨Nat.le_of_ble_eq_true rfl, Nat.le_of_ble_eq_true rfl⟩) hK (hP.sub (ws' := []) [] rfl) rfl hl.1 rfl (lv_room (Nat.le_of_ble_eq_true rfl)) dX6_fits_17 ⟨Nat.le_of_ble_eq_true rfl, Nat.le_of_ble_eq_true rfl⟩ hS (fun locs hS => ?_)
        refine lv_if_eq (tgt := 27) hx hb dX6_fits_20 (by decide) (fun c20 => ?_) (fun c20 => ?_)
        · have hf := ifp hf c20
          refine lv_iconst (v := (0 : Int32)) hx hb dX6_fits_27 (by decide) ?_
          exact b_28 y0 y1 (0 : Int32) hf _ _ hS (lv_sub hl [0, 1] rfl)
        · have hf := ifn hf c20
          refine lv_iconst (v := (1 : Int32)) hx hb dX6_fits_23 (by decide) ?_
          refine lv_goto (tgt := 28) hx hb dX6_fits_24 (by decide) ?_
          exact b_28 y0 y1 (1 : Int32) hf _ _ hS (lv_sub hl [0, 1] rfl)

set_option maxHeartbeats 4000000 in
set_option maxRecDepth 100000 in
theorem tX6_come (l : Launch) (D : va_G) (cI cJ cG : ClassId) (aF aF_kinds aF_vs aF_ws aF_roles aF_partner aF_lineOf aF_rank aF_behind aF_before aF_ways aF_inputOf aF_answer aF_values aF_printedRow aF_wasValues aF_wasPrinted aF_due aF_takenPlace aF_against : Nat) (sz : Nat) (y1 : Int32) (y2 : Int32) (y3 : Int32) (y4 : Int32) (F_lines : Int32) (F_model : Int32) (F_inputs : Int32) (F_size : Int32) (F_hints : Int32) (F_hasRun : Int32) (F_printedMany : Int32) (F_keptBits : Int32) (F_keptMany : Int32) (F_takenMany : Int32) (F_change : Int32) (F_who : Int32) (F_where : Int32) (F_h : Int64) (F_kinds : (Nat → Int32)) (F_vs : (Nat → Int32)) (F_ws : (Nat → Int32)) (F_roles : (Nat → Int32)) (F_partner : (Nat → Int32)) (out : Int32 × Int32 × (Nat → Int32) × (Nat → Int32) × (Nat → Int32) × (Nat → Int32) × (Nat → Int32)) (hf : fX6_come y1 y2 y3 y4 F_lines F_kinds F_vs F_ws F_roles F_partner = some out) : Met l yX6_come wsX6_come ({ frames := 0, cells := 0, slots := 0, locals := 0 }) (va_Pc [.ref aF, .int y1, .int y2, .int y3, .int y4] (wP D (tyL cI cJ cG) [(aF, .inr (6, [.int F_lines, .ref aF_kinds, .ref aF_vs, .ref aF_ws, .ref aF_roles, .ref aF_partner, .int F_model, .ref aF_lineOf, .ref aF_rank, .ref aF_behind, .ref aF_before, .ref aF_ways, .int F_inputs, .ref aF_inputOf, .int F_size, .ref aF_answer, .int F_hints, .int F_hasRun, .ref aF_values, .int F_printedMany, .ref aF_printedRow, .ref aF_wasValues, .ref aF_wasPrinted, .ref aF_due, .int F_keptBits, .int F_keptMany, .int F_takenMany, .ref aF_takenPlace, .ref aF_against, .int F_change, .int F_who, .int F_where, .long F_h])), (aF_kinds, eI cI 16 F_kinds), (aF_vs, eI cI 16 F_vs), (aF_ws, eI cI 16 F_ws), (aF_roles, eI cI 16 F_roles), (aF_partner, eI cI 16 F_partner)] sz)) (wQi D out.1 [(aF, .inr (6, [.int F_lines, .ref aF_kinds, .ref aF_vs, .ref aF_ws, .ref aF_roles, .ref aF_partner, .int F_model, .ref aF_lineOf, .ref aF_rank, .ref aF_behind, .ref aF_before, .ref aF_ways, .int F_inputs, .ref aF_inputOf, .int F_size, .ref aF_answer, .int F_hints, .int F_hasRun, .ref aF_values, .int F_printedMany, .ref aF_printedRow, .ref aF_wasValues, .ref aF_wasPrinted, .ref aF_due, .int F_keptBits, .int F_keptMany, .int F_takenMany, .ref aF_takenPlace, .ref aF_against, .int F_change, .int F_who, .int F_where, .long F_h])), (aF_kinds, eI cI 16 F_kinds), (aF_vs, eI cI 16 F_vs), (aF_ws, eI cI 16 F_ws), (aF_roles, eI cI 16 F_roles), (aF_partner, eI cI 16 F_partner)] [(aF, .inr (6, [.int out.2.1, .ref aF_kinds, .ref aF_vs, .ref aF_ws, .ref aF_roles, .ref aF_partner, .int F_model, .ref aF_lineOf, .ref aF_rank, .ref aF_behind, .ref aF_before, .ref aF_ways, .int F_inputs, .ref aF_inputOf, .int F_size, .ref aF_answer, .int F_hints, .int F_hasRun, .ref aF_values, .int F_printedMany, .ref aF_printedRow, .ref aF_wasValues, .ref aF_wasPrinted, .ref aF_due, .int F_keptBits, .int F_keptMany, .int F_takenMany, .ref aF_takenPlace, .ref aF_against, .int F_change, .int F_who, .int F_where, .long F_h])), (aF_kinds, eI cI 16 out.2.2.1), (aF_vs, eI cI 16 out.2.2.2.1), (aF_ws, eI cI 16 out.2.2.2.2.1), (aF_roles, eI cI 16 out.2.2.2.2.2.1), (aF_partner, eI cI 16 out.2.2.2.2.2.2)] sz) 0 0 (va_A [(aF, .inr (6, [.int F_lines, .ref aF_kinds, .ref aF_vs, .ref aF_ws, .ref aF_roles, .ref aF_partner, .int F_model, .ref aF_lineOf, .ref aF_rank, .ref aF_behind, .ref aF_before, .ref aF_ways, .int F_inputs, .ref aF_inputOf, .int F_size, .ref aF_answer, .int F_hints, .int F_hasRun, .ref aF_values, .int F_printedMany, .ref aF_printedRow, .ref aF_wasValues, .ref aF_wasPrinted, .ref aF_due, .int F_keptBits, .int F_keptMany, .int F_takenMany, .ref aF_takenPlace, .ref aF_against, .int F_change, .int F_who, .int F_where, .long F_h])), (aF_kinds, eI cI 16 F_kinds), (aF_vs, eI cI 16 F_vs), (aF_ws, eI cI 16 F_ws), (aF_roles, eI cI 16 F_roles), (aF_partner, eI cI 16 F_partner)] sz) := by
  refine Met.ofW (cc := cX6_come) (maxL := 5) (ret := (some .int)) (by decide) rfl ?_
  intro p e s m args below meth c s₁ B hml hv
  obtain ⟨rfl, hsz, hP, hK, hD0⟩ := hv
  have hx := B.exec
  have hb := B.bytes
  have hr := B.returns
  have hts := atoms_spec (ws := wsX6_come) B.pre
  have hown : s.vm.findClass RX6 = some m.cls := findClass_of_methodNamed B.named
  have hlocks := B.notSynchronized
  have iX6 : ∀ w ∈ wsX60, w ∈ wsX6_come := by decide +kernel
  have k7 := hts (.fieldLink RX6 7 "BlockMarkerModel" "kinds" "[I") (by decide +kernel)
  have k13 := hts (.fieldLink RX6 13 "BlockMarkerModel" "vs" "[I") (by decide +kernel)
  have k16 := hts (.fieldLink RX6 16 "BlockMarkerModel" "ws" "[I") (by decide +kernel)
  have k19 := hts (.fieldLink RX6 19 "BlockMarkerModel" "roles" "[I") (by decide +kernel)
  have k22 := hts (.fieldLink RX6 22 "BlockMarkerModel" "partner" "[I") (by decide +kernel)
  have k68 := hts (.fieldLink RX6 68 "BlockMarkerModel" "lines" "I") (by decide +kernel)
  subst hsz
  have hD := hD0.self (sz := s.heap.size)
  generalize hAe : va_A [(aF, .inr (6, [.int F_lines, .ref aF_kinds, .ref aF_vs, .ref aF_ws, .ref aF_roles, .ref aF_partner, .int F_model, .ref aF_lineOf, .ref aF_rank, .ref aF_behind, .ref aF_before, .ref aF_ways, .int F_inputs, .ref aF_inputOf, .int F_size, .ref aF_answer, .int F_hints, .int F_hasRun, .ref aF_values, .int F_printedMany, .ref aF_printedRow, .ref aF_wasValues, .ref aF_wasPrinted, .ref aF_due, .int F_keptBits, .int F_keptMany, .int F_takenMany, .ref aF_takenPlace, .ref aF_against, .int F_change, .int F_who, .int F_where, .long F_h])), (aF_kinds, eI cI 16 F_kinds), (aF_vs, eI cI 16 F_vs), (aF_ws, eI cI 16 F_ws), (aF_roles, eI cI 16 F_roles), (aF_partner, eI cI 16 F_partner)] s.heap.size = A at hD ⊢
  have hA : ∀ q : Nat, s.heap.size ≤ q → A q := fun q h => by rw [← hAe]; exact Or.inr h
  have hS : va_S A s.heap s.heap [] := va_S.rf
  have hl := lv_entry ([.ref aF, .int y1, .int y2, .int y3, .int y4]) (n := 5) (Nat.le_of_ble_eq_true rfl)
  rw [lg_entry_eq]
  generalize (lg_sl ([.ref aF, .int y1, .int y2, .int y3, .int y4]) ++ List.replicate (5 - (lg_sl ([.ref aF, .int y1, .int y2, .int y3, .int y4])).length) Slot.unset).toArray = ls at hl ⊢
  have hl : lv_has ls 5 [(0, .ref aF), (1, .int y1), (2, .int y2), (3, .int y3), (4, .int y4)] := hl
  generalize hQQ : MQ below _ _ s 0 0 _ = QQ
  replace hQQ := hQQ.symm
  generalize hHH : s.heap = H at hP ⊢
  have hS : va_S A s.heap H [] := by rw [← hHH]; exact va_S.rf
  generalize ([] : List Loc) = locs at hS ⊢
  unfold fX6_come at hf
  refine lv_aload_n hx hb dX6_come_0 rfl (lv_at hl 0 rfl) ?_
  refine va_get (D := D) (ci := 6) (v := .ref aF_kinds) (C := RX6) (T := TX6) (N := 33) hx hb hts iX6 hown hK.1 hP 0 rfl rfl 1 (by decide) k7 (fun _ h9 => h9) rfl dX6_come_1 ?_
  refine lv_aload_n hx hb dX6_come_4 rfl (lv_at hl 0 rfl) ?_
  refine va_get (D := D) (ci := 6) (v := .int F_lines) (C := RX6) (T := TX6) (N := 33) hx hb hts iX6 hown hK.1 hP 0 rfl rfl 0 (by decide) k68 (fun _ h9 => h9) rfl dX6_come_5 ?_
  refine lv_iload_n hx hb dX6_come_8 rfl (lv_at hl 1 rfl) ?_
  refine ckE hf (fun h9 hf => ?_)
  refine va_iast hx hb hK.1 hP hD hS 1 0 rfl rfl (inB_in h9) dX6_come_9 (fun H locs hP hD hS => ?_)
  have hP : va_P D vwCl [(aF, .inr (6, [.int F_lines, .ref aF_kinds, .ref aF_vs, .ref aF_ws, .ref aF_roles, .ref aF_partner, .int F_model, .ref aF_lineOf, .ref aF_rank, .ref aF_behind, .ref aF_before, .ref aF_ways, .int F_inputs, .ref aF_inputOf, .int F_size, .ref aF_answer, .int F_hints, .int F_hasRun, .ref aF_values, .int F_printedMany, .ref aF_printedRow, .ref aF_wasValues, .ref aF_wasPrinted, .ref aF_due, .int F_keptBits, .int F_keptMany, .int F_takenMany, .ref aF_takenPlace, .ref aF_against, .int F_change, .int F_who, .int F_where, .long F_h])), (aF_kinds, eI cI 16 (upd F_kinds (F_lines).toNatClampNeg y1)), (aF_vs, eI cI 16 F_vs), (aF_ws, eI cI 16 F_ws), (aF_roles, eI cI 16 F_roles), (aF_partner, eI cI 16 F_partner)] H := hP
  have hD : va_D A [(aF, .inr (6, [.int F_lines, .ref aF_kinds, .ref aF_vs, .ref aF_ws, .ref aF_roles, .ref aF_partner, .int F_model, .ref aF_lineOf, .ref aF_rank, .ref aF_behind, .ref aF_before, .ref aF_ways, .int F_inputs, .ref aF_inputOf, .int F_size, .ref aF_answer, .int F_hints, .int F_hasRun, .ref aF_values, .int F_printedMany, .ref aF_printedRow, .ref aF_wasValues, .ref aF_wasPrinted, .ref aF_due, .int F_keptBits, .int F_keptMany, .int F_takenMany, .ref aF_takenPlace, .ref aF_against, .int F_change, .int F_who, .int F_where, .long F_h])), (aF_kinds, eI cI 16 (upd F_kinds (F_lines).toNatClampNeg y1)), (aF_vs, eI cI 16 F_vs), (aF_ws, eI cI 16 F_ws), (aF_roles, eI cI 16 F_roles), (aF_partner, eI cI 16 F_partner)] := hD
  refine lv_aload_n hx hb dX6_come_10 rfl (lv_at hl 0 rfl) ?_
  refine va_get (D := D) (ci := 6) (v := .ref aF_vs) (C := RX6) (T := TX6) (N := 33) hx hb hts iX6 hown hK.1 hP 0 rfl rfl 2 (by decide) k13 (fun _ h9 => h9) rfl dX6_come_11 ?_
  refine lv_aload_n hx hb dX6_come_14 rfl (lv_at hl 0 rfl) ?_
  refine va_get (D := D) (ci := 6) (v := .int F_lines) (C := RX6) (T := TX6) (N := 33) hx hb hts iX6 hown hK.1 hP 0 rfl rfl 0 (by decide) k68 (fun _ h9 => h9) rfl dX6_come_15 ?_
  refine lv_iload_n hx hb dX6_come_18 rfl (lv_at hl 2 rfl) ?_
  refine ckE hf (fun h19 hf => ?_)
  refine va_iast hx hb hK.1 hP hD hS 2 0 rfl rfl (inB_in h19) dX6_come_19 (fun H locs hP hD hS => ?_)
  have hP : va_P D vwCl [(aF, .inr (6, [.int F_lines, .ref aF_kinds, .ref aF_vs, .ref aF_ws, .ref aF_roles, .ref aF_partner, .int F_model, .ref aF_lineOf, .ref aF_rank, .ref aF_behind, .ref aF_before, .ref aF_ways, .int F_inputs, .ref aF_inputOf, .int F_size, .ref aF_answer, .int F_hints, .int F_hasRun, .ref aF_values, .int F_printedMany, .ref aF_printedRow, .ref aF_wasValues, .ref aF_wasPrinted, .ref aF_due, .int F_keptBits, .int F_keptMany, .int F_takenMany, .ref aF_takenPlace, .ref aF_against, .int F_change, .int F_who, .int F_where, .long F_h])), (aF_kinds, eI cI 16 (upd F_kinds (F_lines).toNatClampNeg y1)), (aF_vs, eI cI 16 (upd F_vs (F_lines).toNatClampNeg y2)), (aF_ws, eI cI 16 F_ws), (aF_roles, eI cI 16 F_roles), (aF_partner, eI cI 16 F_partner)] H := hP
  have hD : va_D A [(aF, .inr (6, [.int F_lines, .ref aF_kinds, .ref aF_vs, .ref aF_ws, .ref aF_roles, .ref aF_partner, .int F_model, .ref aF_lineOf, .ref aF_rank, .ref aF_behind, .ref aF_before, .ref aF_ways, .int F_inputs, .ref aF_inputOf, .int F_size, .ref aF_answer, .int F_hints, .int F_hasRun, .ref aF_values, .int F_printedMany, .ref aF_printedRow, .ref aF_wasValues, .ref aF_wasPrinted, .ref aF_due, .int F_keptBits, .int F_keptMany, .int F_takenMany, .ref aF_takenPlace, .ref aF_against, .int F_change, .int F_who, .int F_where, .long F_h])), (aF_kinds, eI cI 16 (upd F_kinds (F_lines).toNatClampNeg y1)), (aF_vs, eI cI 16 (upd F_vs (F_lines).toNatClampNeg y2)), (aF_ws, eI cI 16 F_ws), (aF_roles, eI cI 16 F_roles), (aF_partner, eI cI 16 F_partner)] := hD
  refine lv_aload_n hx hb dX6_come_20 rfl (lv_at hl 0 rfl) ?_
  refine va_get (D := D) (ci := 6) (v := .ref aF_ws) (C := RX6) (T := TX6) (N := 33) hx hb hts iX6 hown hK.1 hP 0 rfl rfl 3 (by decide) k16 (fun _ h9 => h9) rfl dX6_come_21 ?_
  refine lv_aload_n hx hb dX6_come_24 rfl (lv_at hl 0 rfl) ?_
  refine va_get (D := D) (ci := 6) (v := .int F_lines) (C := RX6) (T := TX6) (N := 33) hx hb hts iX6 hown hK.1 hP 0 rfl rfl 0 (by decide) k68 (fun _ h9 => h9) rfl dX6_come_25 ?_
  refine lv_iload_n hx hb dX6_come_28 rfl (lv_at hl 3 rfl) ?_
  refine ckE hf (fun h29 hf => ?_)
  refine va_iast hx hb hK.1 hP hD hS 3 0 rfl rfl (inB_in h29) dX6_come_29 (fun H locs hP hD hS => ?_)
  have hP : va_P D vwCl [(aF, .inr (6, [.int F_lines, .ref aF_kinds, .ref aF_vs, .ref aF_ws, .ref aF_roles, .ref aF_partner, .int F_model, .ref aF_lineOf, .ref aF_rank, .ref aF_behind, .ref aF_before, .ref aF_ways, .int F_inputs, .ref aF_inputOf, .int F_size, .ref aF_answer, .int F_hints, .int F_hasRun, .ref aF_values, .int F_printedMany, .ref aF_printedRow, .ref aF_wasValues, .ref aF_wasPrinted, .ref aF_due, .int F_keptBits, .int F_keptMany, .int F_takenMany, .ref aF_takenPlace, .ref aF_against, .int F_change, .int F_who, .int F_where, .long F_h])), (aF_kinds, eI cI 16 (upd F_kinds (F_lines).toNatClampNeg y1)), (aF_vs, eI cI 16 (upd F_vs (F_lines).toNatClampNeg y2)), (aF_ws, eI cI 16 (upd F_ws (F_lines).toNatClampNeg y3)), (aF_roles, eI cI 16 F_roles), (aF_partner, eI cI 16 F_partner)] H := hP
  have hD : va_D A [(aF, .inr (6, [.int F_lines, .ref aF_kinds, .ref aF_vs, .ref aF_ws, .ref aF_roles, .ref aF_partner, .int F_model, .ref aF_lineOf, .ref aF_rank, .ref aF_behind, .ref aF_before, .ref aF_ways, .int F_inputs, .ref aF_inputOf, .int F_size, .ref aF_answer, .int F_hints, .int F_hasRun, .ref aF_values, .int F_printedMany, .ref aF_printedRow, .ref aF_wasValues, .ref aF_wasPrinted, .ref aF_due, .int F_keptBits, .int F_keptMany, .int F_takenMany, .ref aF_takenPlace, .ref aF_against, .int F_change, .int F_who, .int F_where, .long F_h])), (aF_kinds, eI cI 16 (upd F_kinds (F_lines).toNatClampNeg y1)), (aF_vs, eI cI 16 (upd F_vs (F_lines).toNatClampNeg y2)), (aF_ws, eI cI 16 (upd F_ws (F_lines).toNatClampNeg y3)), (aF_roles, eI cI 16 F_roles), (aF_partner, eI cI 16 F_partner)] := hD
  refine lv_aload_n hx hb dX6_come_30 rfl (lv_at hl 0 rfl) ?_
  refine va_get (D := D) (ci := 6) (v := .ref aF_roles) (C := RX6) (T := TX6) (N := 33) hx hb hts iX6 hown hK.1 hP 0 rfl rfl 4 (by decide) k19 (fun _ h9 => h9) rfl dX6_come_31 ?_
  refine lv_aload_n hx hb dX6_come_34 rfl (lv_at hl 0 rfl) ?_
  refine va_get (D := D) (ci := 6) (v := .int F_lines) (C := RX6) (T := TX6) (N := 33) hx hb hts iX6 hown hK.1 hP 0 rfl rfl 0 (by decide) k68 (fun _ h9 => h9) rfl dX6_come_35 ?_
  refine lv_iload hx hb dX6_come_38 (lv_at hl 4 rfl) ?_
  refine ckE hf (fun h40 hf => ?_)
  refine va_iast hx hb hK.1 hP hD hS 4 0 rfl rfl (inB_in h40) dX6_come_40 (fun H locs hP hD hS => ?_)
  have hP : va_P D vwCl [(aF, .inr (6, [.int F_lines, .ref aF_kinds, .ref aF_vs, .ref aF_ws, .ref aF_roles, .ref aF_partner, .int F_model, .ref aF_lineOf, .ref aF_rank, .ref aF_behind, .ref aF_before, .ref aF_ways, .int F_inputs, .ref aF_inputOf, .int F_size, .ref aF_answer, .int F_hints, .int F_hasRun, .ref aF_values, .int F_printedMany, .ref aF_printedRow, .ref aF_wasValues, .ref aF_wasPrinted, .ref aF_due, .int F_keptBits, .int F_keptMany, .int F_takenMany, .ref aF_takenPlace, .ref aF_against, .int F_change, .int F_who, .int F_where, .long F_h])), (aF_kinds, eI cI 16 (upd F_kinds (F_lines).toNatClampNeg y1)), (aF_vs, eI cI 16 (upd F_vs (F_lines).toNatClampNeg y2)), (aF_ws, eI cI 16 (upd F_ws (F_lines).toNatClampNeg y3)), (aF_roles, eI cI 16 (upd F_roles (F_lines).toNatClampNeg y4)), (aF_partner, eI cI 16 F_partner)] H := hP
  have hD : va_D A [(aF, .inr (6, [.int F_lines, .ref aF_kinds, .ref aF_vs, .ref aF_ws, .ref aF_roles, .ref aF_partner, .int F_model, .ref aF_lineOf, .ref aF_rank, .ref aF_behind, .ref aF_before, .ref aF_ways, .int F_inputs, .ref aF_inputOf, .int F_size, .ref aF_answer, .int F_hints, .int F_hasRun, .ref aF_values, .int F_printedMany, .ref aF_printedRow, .ref aF_wasValues, .ref aF_wasPrinted, .ref aF_due, .int F_keptBits, .int F_keptMany, .int F_takenMany, .ref aF_takenPlace, .ref aF_against, .int F_change, .int F_who, .int F_where, .long F_h])), (aF_kinds, eI cI 16 (upd F_kinds (F_lines).toNatClampNeg y1)), (aF_vs, eI cI 16 (upd F_vs (F_lines).toNatClampNeg y2)), (aF_ws, eI cI 16 (upd F_ws (F_lines).toNatClampNeg y3)), (aF_roles, eI cI 16 (upd F_roles (F_lines).toNatClampNeg y4)), (aF_partner, eI cI 16 F_partner)] := hD
  refine lv_aload_n hx hb dX6_come_41 rfl (lv_at hl 0 rfl) ?_
  refine va_get (D := D) (ci := 6) (v := .ref aF_partner) (C := RX6) (T := TX6) (N := 33) hx hb hts iX6 hown hK.1 hP 0 rfl rfl 5 (by decide) k22 (fun _ h9 => h9) rfl dX6_come_42 ?_
  refine lv_aload_n hx hb dX6_come_45 rfl (lv_at hl 0 rfl) ?_
  refine va_get (D := D) (ci := 6) (v := .int F_lines) (C := RX6) (T := TX6) (N := 33) hx hb hts iX6 hown hK.1 hP 0 rfl rfl 0 (by decide) k68 (fun _ h9 => h9) rfl dX6_come_46 ?_
  refine lv_iconst (v := (-1 : Int32)) hx hb dX6_come_49 (by decide) ?_
  refine ckE hf (fun h50 hf => ?_)
  refine va_iast hx hb hK.1 hP hD hS 5 0 rfl rfl (inB_in h50) dX6_come_50 (fun H locs hP hD hS => ?_)
  have hP : va_P D vwCl [(aF, .inr (6, [.int F_lines, .ref aF_kinds, .ref aF_vs, .ref aF_ws, .ref aF_roles, .ref aF_partner, .int F_model, .ref aF_lineOf, .ref aF_rank, .ref aF_behind, .ref aF_before, .ref aF_ways, .int F_inputs, .ref aF_inputOf, .int F_size, .ref aF_answer, .int F_hints, .int F_hasRun, .ref aF_values, .int F_printedMany, .ref aF_printedRow, .ref aF_wasValues, .ref aF_wasPrinted, .ref aF_due, .int F_keptBits, .int F_keptMany, .int F_takenMany, .ref aF_takenPlace, .ref aF_against, .int F_change, .int F_who, .int F_where, .long F_h])), (aF_kinds, eI cI 16 (upd F_kinds (F_lines).toNatClampNeg y1)), (aF_vs, eI cI 16 (upd F_vs (F_lines).toNatClampNeg y2)), (aF_ws, eI cI 16 (upd F_ws (F_lines).toNatClampNeg y3)), (aF_roles, eI cI 16 (upd F_roles (F_lines).toNatClampNeg y4)), (aF_partner, eI cI 16 (upd F_partner (F_lines).toNatClampNeg (-1 : Int32)))] H := hP
  have hD : va_D A [(aF, .inr (6, [.int F_lines, .ref aF_kinds, .ref aF_vs, .ref aF_ws, .ref aF_roles, .ref aF_partner, .int F_model, .ref aF_lineOf, .ref aF_rank, .ref aF_behind, .ref aF_before, .ref aF_ways, .int F_inputs, .ref aF_inputOf, .int F_size, .ref aF_answer, .int F_hints, .int F_hasRun, .ref aF_values, .int F_printedMany, .ref aF_printedRow, .ref aF_wasValues, .ref aF_wasPrinted, .ref aF_due, .int F_keptBits, .int F_keptMany, .int F_takenMany, .ref aF_takenPlace, .ref aF_against, .int F_change, .int F_who, .int F_where, .long F_h])), (aF_kinds, eI cI 16 (upd F_kinds (F_lines).toNatClampNeg y1)), (aF_vs, eI cI 16 (upd F_vs (F_lines).toNatClampNeg y2)), (aF_ws, eI cI 16 (upd F_ws (F_lines).toNatClampNeg y3)), (aF_roles, eI cI 16 (upd F_roles (F_lines).toNatClampNeg y4)), (aF_partner, eI cI 16 (upd F_partner (F_lines).toNatClampNeg (-1 : Int32)))] := hD
  refine lv_aload_n hx hb dX6_come_51 rfl (lv_at hl 0 rfl) ?_
  refine lv_dup hx hb dX6_come_52 rfl ?_
  refine va_get (D := D) (ci := 6) (v := .int F_lines) (C := RX6) (T := TX6) (N := 33) hx hb hts iX6 hown hK.1 hP 0 rfl rfl 0 (by decide) k68 (fun _ h9 => h9) rfl dX6_come_53 ?_
  refine lv_iconst (v := (1 : Int32)) hx hb dX6_come_56 (by decide) ?_
  refine lv_iadd hx hb dX6_come_57 ?_
  refine va_put (D := D) (ci := 6) (v := .int (F_lines + (1 : Int32))) (ty := .int) (C := RX6) (T := TX6) (N := 33) hx hb hts iX6 tyX6 tyX6_ok nmX6 hown hK.1 hP hD hS 0 rfl rfl 0 (by decide) k68 (fun _ h9 => h9) rfl (by decide +kernel) rfl rfl (Nat.le_of_ble_eq_true rfl) dX6_come_58 (fun H locs hP hD hS => ?_)
  have hP : va_P D vwCl [(aF, .inr (6, [.int (F_lines + (1 : Int32)), .ref aF_kinds, .ref aF_vs, .ref aF_ws, .ref aF_roles, .ref aF_partner, .int F_model, .ref aF_lineOf, .ref aF_rank, .ref aF_behind, .ref aF_before, .ref aF_ways, .int F_inputs, .ref aF_inputOf, .int F_size, .ref aF_answer, .int F_hints, .int F_hasRun, .ref aF_values, .int F_printedMany, .ref aF_printedRow, .ref aF_wasValues, .ref aF_wasPrinted, .ref aF_due, .int F_keptBits, .int F_keptMany, .int F_takenMany, .ref aF_takenPlace, .ref aF_against, .int F_change, .int F_who, .int F_where, .long F_h])), (aF_kinds, eI cI 16 (upd F_kinds (F_lines).toNatClampNeg y1)), (aF_vs, eI cI 16 (upd F_vs (F_lines).toNatClampNeg y2)), (aF_ws, eI cI 16 (upd F_ws (F_lines).toNatClampNeg y3)), (aF_roles, eI cI 16 (upd F_roles (F_lines).toNatClampNeg y4)), (aF_partner, eI cI 16 (upd F_partner (F_lines).toNatClampNeg (-1 : Int32)))] H := hP
  have hD : va_D A [(aF, .inr (6, [.int (F_lines + (1 : Int32)), .ref aF_kinds, .ref aF_vs, .ref aF_ws, .ref aF_roles, .ref aF_partner, .int F_model, .ref aF_lineOf, .ref aF_rank, .ref aF_behind, .ref aF_before, .ref aF_ways, .int F_inputs, .ref aF_inputOf, .int F_size, .ref aF_answer, .int F_hints, .int F_hasRun, .ref aF_values, .int F_printedMany, .ref aF_printedRow, .ref aF_wasValues, .ref aF_wasPrinted, .ref aF_due, .int F_keptBits, .int F_keptMany, .int F_takenMany, .ref aF_takenPlace, .ref aF_against, .int F_change, .int F_who, .int F_where, .long F_h])), (aF_kinds, eI cI 16 (upd F_kinds (F_lines).toNatClampNeg y1)), (aF_vs, eI cI 16 (upd F_vs (F_lines).toNatClampNeg y2)), (aF_ws, eI cI 16 (upd F_ws (F_lines).toNatClampNeg y3)), (aF_roles, eI cI 16 (upd F_roles (F_lines).toNatClampNeg y4)), (aF_partner, eI cI 16 (upd F_partner (F_lines).toNatClampNeg (-1 : Int32)))] := hD
  refine lv_aload_n hx hb dX6_come_61 rfl (lv_at hl 0 rfl) ?_
  refine va_get (D := D) (ci := 6) (v := .int (F_lines + (1 : Int32))) (C := RX6) (T := TX6) (N := 33) hx hb hts iX6 hown hK.1 hP 0 rfl rfl 0 (by decide) k68 (fun _ h9 => h9) rfl dX6_come_62 ?_
  refine lv_iconst (v := (1 : Int32)) hx hb dX6_come_65 (by decide) ?_
  refine lv_isub hx hb dX6_come_66 ?_
  rw [hQQ]
  exact W.iret (v := ((F_lines + (1 : Int32)) - (1 : Int32))) hx hb hr (fun t ht hW => by rw [← Option.some.inj hf]; rw [← hAe] at hD hS; exact ⟨⟨((F_lines + (1 : Int32)) - (1 : Int32)), (), rfl, rfl, by rw [ht]; exact hP, hD⟩, hS.F ht⟩) hS.2.2 dX6_come_67

set_option maxHeartbeats 4000000 in
set_option maxRecDepth 100000 in
theorem tX6_writesOf (l : Launch) (D : va_G) (cI cJ cG : ClassId)  (Hs : Heap) (y0 : Int32) (y1 : Int32)  (out : Int32) (hf : fX6_writesOf y0 y1 = some out) : Met l yX6_writesOf wsX6_writesOf ({ frames := 0, cells := 0, slots := 0, locals := 0 }) (va_Pc [.int y0, .int y1] (rP D (tyL cI cJ cG) [] Hs)) (rQi out Hs) 0 0 (fun _ => False) := by
  refine Met.ofW (cc := cX6_writesOf) (maxL := 2) (ret := (some .int)) (by decide) rfl ?_
  intro p e s m args below meth c s₁ B hml hv
  obtain ⟨rfl, rfl, hP, hK⟩ := hv
  have hx := B.exec
  have hb := B.bytes
  have hr := B.returns
  have hts := atoms_spec (ws := wsX6_writesOf) B.pre
  have hown : s.vm.findClass RX6 = some m.cls := findClass_of_methodNamed B.named
  have hlocks := B.notSynchronized
  have hS : va_S (fun _ => False) s.heap s.heap [] := va_S.rf
  have hl := lv_entry ([.int y0, .int y1]) (n := 2) (Nat.le_of_ble_eq_true rfl)
  rw [lg_entry_eq]
  generalize (lg_sl ([.int y0, .int y1]) ++ List.replicate (2 - (lg_sl ([.int y0, .int y1])).length) Slot.unset).toArray = ls at hl ⊢
  have hl : lv_has ls 2 [(0, .int y0), (1, .int y1)] := hl
  generalize hQQ : MQ below _ _ s 0 0 _ = QQ
  replace hQQ := hQQ.symm
  unfold fX6_writesOf at hf
  refine lv_iload_n hx hb dX6_writesOf_0 rfl (lv_at hl 0 rfl) ?_
  refine lv_iconst (v := (4 : Int32)) hx hb dX6_writesOf_1 (by decide) ?_
  refine lv_icmp_eq (tgt := 10) hx hb dX6_writesOf_2 (by decide) (fun c2 => ?_) (fun c2 => ?_)
  · have hf := ifp hf c2
    refine lv_iconst (v := (0 : Int32)) hx hb dX6_writesOf_10 (by decide) ?_
    refine lv_goto (tgt := 17) hx hb dX6_writesOf_11 (by decide) ?_
    rw [hQQ]
    exact W.iret (v := (0 : Int32)) hx hb hr (fun t ht hW => ⟨⟨(0 : Int32), (), rfl, Option.some.inj hf, ht⟩, rF ht⟩) hS.2.2 dX6_writesOf_17
  · have hf := ifn hf c2
    refine lv_iload_n hx hb dX6_writesOf_5 rfl (lv_at hl 0 rfl) ?_
    refine lv_iconst (v := (5 : Int32)) hx hb dX6_writesOf_6 (by decide) ?_
    refine lv_icmp_ne (tgt := 14) hx hb dX6_writesOf_7 (by decide) (fun c7 => ?_) (fun c7 => ?_)
    · have hf := ifn hf c7
      refine lv_iconst (v := (1 : Int32)) hx hb dX6_writesOf_14 (by decide) ?_
      refine lv_iload_n hx hb dX6_writesOf_15 rfl (lv_at hl 1 rfl) ?_
      refine lv_ishl hx hb dX6_writesOf_16 ?_
      rw [hQQ]
      exact W.iret (v := ((1 : Int32) <<< (y1 &&& 31))) hx hb hr (fun t ht hW => ⟨⟨((1 : Int32) <<< (y1 &&& 31)), (), rfl, Option.some.inj hf, ht⟩, rF ht⟩) hS.2.2 dX6_writesOf_17
    · have hf := ifp hf c7
      refine lv_iconst (v := (0 : Int32)) hx hb dX6_writesOf_10 (by decide) ?_
      refine lv_goto (tgt := 17) hx hb dX6_writesOf_11 (by decide) ?_
      rw [hQQ]
      exact W.iret (v := (0 : Int32)) hx hb hr (fun t ht hW => ⟨⟨(0 : Int32), (), rfl, Option.some.inj hf, ht⟩, rF ht⟩) hS.2.2 dX6_writesOf_17

set_option maxHeartbeats 4000000 in
set_option maxRecDepth 100000 in
theorem tX6_readsOf (l : Launch) (D : va_G) (cI cJ cG : ClassId)  (Hs : Heap) (y0 : Int32) (y1 : Int32) (y2 : Int32)  (out : Int32) (hf : fX6_readsOf y0 y1 y2 = some out) : Met l yX6_readsOf wsX6_readsOf ({ frames := 0, cells := 0, slots := 0, locals := 0 }) (va_Pc [.int y0, .int y1, .int y2] (rP D (tyL cI cJ cG) [] Hs)) (rQi out Hs) 0 0 (fun _ => False) := by
  refine Met.ofW (cc := cX6_readsOf) (maxL := 3) (ret := (some .int)) (by decide) rfl ?_
  intro p e s m args below meth c s₁ B hml hv
  obtain ⟨rfl, rfl, hP, hK⟩ := hv
  have hx := B.exec
  have hb := B.bytes
  have hr := B.returns
  have hts := atoms_spec (ws := wsX6_readsOf) B.pre
  have hown : s.vm.findClass RX6 = some m.cls := findClass_of_methodNamed B.named
  have hlocks := B.notSynchronized
  have hS : va_S (fun _ => False) s.heap s.heap [] := va_S.rf
  have hl := lv_entry ([.int y0, .int y1, .int y2]) (n := 3) (Nat.le_of_ble_eq_true rfl)
  rw [lg_entry_eq]
  generalize (lg_sl ([.int y0, .int y1, .int y2]) ++ List.replicate (3 - (lg_sl ([.int y0, .int y1, .int y2])).length) Slot.unset).toArray = ls at hl ⊢
  have hl : lv_has ls 3 [(0, .int y0), (1, .int y1), (2, .int y2)] := hl
  generalize hQQ : MQ below _ _ s 0 0 _ = QQ
  replace hQQ := hQQ.symm
  unfold fX6_readsOf at hf
  refine lv_iload_n hx hb dX6_readsOf_0 rfl (lv_at hl 0 rfl) ?_
  refine lv_iconst (v := (1 : Int32)) hx hb dX6_readsOf_1 (by decide) ?_
  refine lv_icmp_ne (tgt := 11) hx hb dX6_readsOf_2 (by decide) (fun c2 => ?_) (fun c2 => ?_)
  · have hf := ifn hf c2
    refine lv_iload_n hx hb dX6_readsOf_11 rfl (lv_at hl 0 rfl) ?_
    refine lv_iconst (v := (2 : Int32)) hx hb dX6_readsOf_12 (by decide) ?_
    refine lv_icmp_eq (tgt := 27) hx hb dX6_readsOf_13 (by decide) (fun c13 => ?_) (fun c13 => ?_)
    · have hf := ifp hf c13
      refine lv_iconst (v := (1 : Int32)) hx hb dX6_readsOf_27 (by decide) ?_
      refine lv_iload_n hx hb dX6_readsOf_28 rfl (lv_at hl 1 rfl) ?_
      refine lv_ishl hx hb dX6_readsOf_29 ?_
      refine lv_iconst (v := (1 : Int32)) hx hb dX6_readsOf_30 (by decide) ?_
      refine lv_iload_n hx hb dX6_readsOf_31 rfl (lv_at hl 2 rfl) ?_
      refine lv_ishl hx hb dX6_readsOf_32 ?_
      refine lv_ior hx hb dX6_readsOf_33 ?_
      refine lv_goto (tgt := 49) hx hb dX6_readsOf_34 (by decide) ?_
      rw [hQQ]
      exact W.iret (v := (((1 : Int32) <<< (y1 &&& 31)) ||| ((1 : Int32) <<< (y2 &&& 31)))) hx hb hr (fun t ht hW => ⟨⟨(((1 : Int32) <<< (y1 &&& 31)) ||| ((1 : Int32) <<< (y2 &&& 31))), (), rfl, Option.some.inj hf, ht⟩, rF ht⟩) hS.2.2 dX6_readsOf_49
    · have hf := ifn hf c13
      refine lv_iload_n hx hb dX6_readsOf_16 rfl (lv_at hl 0 rfl) ?_
      refine lv_iconst (v := (3 : Int32)) hx hb dX6_readsOf_17 (by decide) ?_
      refine lv_icmp_eq (tgt := 27) hx hb dX6_readsOf_18 (by decide) (fun c18 => ?_) (fun c18 => ?_)
      · have hf := ifp hf c18
        refine lv_iconst (v := (1 : Int32)) hx hb dX6_readsOf_27 (by decide) ?_
        refine lv_iload_n hx hb dX6_readsOf_28 rfl (lv_at hl 1 rfl) ?_
        refine lv_ishl hx hb dX6_readsOf_29 ?_
        refine lv_iconst (v := (1 : Int32)) hx hb dX6_readsOf_30 (by decide) ?_
        refine lv_iload_n hx hb dX6_readsOf_31 rfl (lv_at hl 2 rfl) ?_
        refine lv_ishl hx hb dX6_readsOf_32 ?_
        refine lv_ior hx hb dX6_readsOf_33 ?_
        refine lv_goto (tgt := 49) hx hb dX6_readsOf_34 (by decide) ?_
        rw [hQQ]
        exact W.iret (v := (((1 : Int32) <<< (y1 &&& 31)) ||| ((1 : Int32) <<< (y2 &&& 31)))) hx hb hr (fun t ht hW => ⟨⟨(((1 : Int32) <<< (y1 &&& 31)) ||| ((1 : Int32) <<< (y2 &&& 31))), (), rfl, Option.some.inj hf, ht⟩, rF ht⟩) hS.2.2 dX6_readsOf_49
      · have hf := ifn hf c18
        refine lv_iload_n hx hb dX6_readsOf_21 rfl (lv_at hl 0 rfl) ?_
        refine lv_bipush (v := (6 : Int32)) hx hb dX6_readsOf_22 (by decide) ?_
        refine lv_icmp_ne (tgt := 37) hx hb dX6_readsOf_24 (by decide) (fun c24 => ?_) (fun c24 => ?_)
        · have hf := ifn hf c24
          refine lv_iload_n hx hb dX6_readsOf_37 rfl (lv_at hl 0 rfl) ?_
          refine lv_iconst (v := (4 : Int32)) hx hb dX6_readsOf_38 (by decide) ?_
          refine lv_icmp_ne (tgt := 48) hx hb dX6_readsOf_39 (by decide) (fun c39 => ?_) (fun c39 => ?_)
          · have hf := ifn hf c39
            refine lv_iconst (v := (0 : Int32)) hx hb dX6_readsOf_48 (by decide) ?_
            rw [hQQ]
            exact W.iret (v := (0 : Int32)) hx hb hr (fun t ht hW => ⟨⟨(0 : Int32), (), rfl, Option.some.inj hf, ht⟩, rF ht⟩) hS.2.2 dX6_readsOf_49
          · have hf := ifp hf c39
            refine lv_iconst (v := (1 : Int32)) hx hb dX6_readsOf_42 (by decide) ?_
            refine lv_iload_n hx hb dX6_readsOf_43 rfl (lv_at hl 1 rfl) ?_
            refine lv_ishl hx hb dX6_readsOf_44 ?_
            refine lv_goto (tgt := 49) hx hb dX6_readsOf_45 (by decide) ?_
            rw [hQQ]
            exact W.iret (v := ((1 : Int32) <<< (y1 &&& 31))) hx hb hr (fun t ht hW => ⟨⟨((1 : Int32) <<< (y1 &&& 31)), (), rfl, Option.some.inj hf, ht⟩, rF ht⟩) hS.2.2 dX6_readsOf_49
        · have hf := ifp hf c24
          refine lv_iconst (v := (1 : Int32)) hx hb dX6_readsOf_27 (by decide) ?_
          refine lv_iload_n hx hb dX6_readsOf_28 rfl (lv_at hl 1 rfl) ?_
          refine lv_ishl hx hb dX6_readsOf_29 ?_
          refine lv_iconst (v := (1 : Int32)) hx hb dX6_readsOf_30 (by decide) ?_
          refine lv_iload_n hx hb dX6_readsOf_31 rfl (lv_at hl 2 rfl) ?_
          refine lv_ishl hx hb dX6_readsOf_32 ?_
          refine lv_ior hx hb dX6_readsOf_33 ?_
          refine lv_goto (tgt := 49) hx hb dX6_readsOf_34 (by decide) ?_
          rw [hQQ]
          exact W.iret (v := (((1 : Int32) <<< (y1 &&& 31)) ||| ((1 : Int32) <<< (y2 &&& 31)))) hx hb hr (fun t ht hW => ⟨⟨(((1 : Int32) <<< (y1 &&& 31)) ||| ((1 : Int32) <<< (y2 &&& 31))), (), rfl, Option.some.inj hf, ht⟩, rF ht⟩) hS.2.2 dX6_readsOf_49
  · have hf := ifp hf c2
    refine lv_iconst (v := (1 : Int32)) hx hb dX6_readsOf_5 (by decide) ?_
    refine lv_iload_n hx hb dX6_readsOf_6 rfl (lv_at hl 2 rfl) ?_
    refine lv_ishl hx hb dX6_readsOf_7 ?_
    refine lv_goto (tgt := 49) hx hb dX6_readsOf_8 (by decide) ?_
    rw [hQQ]
    exact W.iret (v := ((1 : Int32) <<< (y2 &&& 31))) hx hb hr (fun t ht hW => ⟨⟨((1 : Int32) <<< (y2 &&& 31)), (), rfl, Option.some.inj hf, ht⟩, rF ht⟩) hS.2.2 dX6_readsOf_49

set_option maxHeartbeats 4000000 in
set_option maxRecDepth 100000 in
theorem tX6_touches (l : Launch) (D : va_G) (cI cJ cG : ClassId) (aF aF_kinds aF_vs aF_ws aF_roles aF_partner aF_lineOf aF_rank aF_behind aF_before aF_ways aF_inputOf aF_answer aF_values aF_printedRow aF_wasValues aF_wasPrinted aF_due aF_takenPlace aF_against : Nat) (Hs : Heap) (y1 : Int32) (y2 : Int32) (F_lines : Int32) (F_model : Int32) (F_inputs : Int32) (F_size : Int32) (F_hints : Int32) (F_hasRun : Int32) (F_printedMany : Int32) (F_keptBits : Int32) (F_keptMany : Int32) (F_takenMany : Int32) (F_change : Int32) (F_who : Int32) (F_where : Int32) (F_h : Int64) (F_kinds : (Nat → Int32)) (F_vs : (Nat → Int32)) (F_ws : (Nat → Int32)) (out : Int32) (hf : fX6_touches y1 y2 F_kinds F_vs F_ws = some out) : Met l yX6_touches wsX6_touches ({ frames := 1, cells := 0, slots := 0, locals := 22 }) (va_Pc [.ref aF, .int y1, .int y2] (rP D (tyL cI cJ cG) [(aF, .inr (6, [.int F_lines, .ref aF_kinds, .ref aF_vs, .ref aF_ws, .ref aF_roles, .ref aF_partner, .int F_model, .ref aF_lineOf, .ref aF_rank, .ref aF_behind, .ref aF_before, .ref aF_ways, .int F_inputs, .ref aF_inputOf, .int F_size, .ref aF_answer, .int F_hints, .int F_hasRun, .ref aF_values, .int F_printedMany, .ref aF_printedRow, .ref aF_wasValues, .ref aF_wasPrinted, .ref aF_due, .int F_keptBits, .int F_keptMany, .int F_takenMany, .ref aF_takenPlace, .ref aF_against, .int F_change, .int F_who, .int F_where, .long F_h])), (aF_kinds, eI cI 16 F_kinds), (aF_vs, eI cI 16 F_vs), (aF_ws, eI cI 16 F_ws)] Hs)) (rQi out Hs) 0 0 (fun _ => False) := by
  refine Met.ofW (cc := cX6_touches) (maxL := 6) (ret := (some .boolean)) (by decide) rfl ?_
  intro p e s m args below meth c s₁ B hml hv
  obtain ⟨rfl, rfl, hP, hK⟩ := hv
  have hx := B.exec
  have hb := B.bytes
  have hr := B.returns
  have hts := atoms_spec (ws := wsX6_touches) B.pre
  have hown : s.vm.findClass RX6 = some m.cls := findClass_of_methodNamed B.named
  have hlocks := B.notSynchronized
  have iX6 : ∀ w ∈ wsX60, w ∈ wsX6_touches := by decide +kernel
  have k7 := hts (.fieldLink RX6 7 "BlockMarkerModel" "kinds" "[I") (by decide +kernel)
  have k13 := hts (.fieldLink RX6 13 "BlockMarkerModel" "vs" "[I") (by decide +kernel)
  have k16 := hts (.fieldLink RX6 16 "BlockMarkerModel" "ws" "[I") (by decide +kernel)
  have hS : va_S (fun _ => False) s.heap s.heap [] := va_S.rf
  have hl := lv_entry ([.ref aF, .int y1, .int y2]) (n := 6) (Nat.le_of_ble_eq_true rfl)
  rw [lg_entry_eq]
  generalize (lg_sl ([.ref aF, .int y1, .int y2]) ++ List.replicate (6 - (lg_sl ([.ref aF, .int y1, .int y2])).length) Slot.unset).toArray = ls at hl ⊢
  have hl : lv_has ls 6 [(0, .ref aF), (1, .int y1), (2, .int y2)] := hl
  generalize hQQ : MQ below _ _ s 0 0 _ = QQ
  replace hQQ := hQQ.symm
  have b_58 : ∀ (x1 : Int32) (x2 : Int32) (x3 : Int32) (x4 : Int32) (t0 : Int32), fX6_touches_b58  x1 x2 x3 x4 t0 F_kinds F_vs F_ws = some out → ∀ (locs : List Loc) (ls : Array Slot), va_S (fun _ => False) s.heap s.heap locs → lv_has ls 6 [(0, .ref aF), (1, .int x1), (2, .int x2), (3, .int x3), (4, .int x4)] → W p l e (headSpec wsX6_touches { frames := 1, cells := 0, slots := 0, locals := 22 }).room s m ([.ref aF, .int y1, .int y2] : List Value).toArray below meth c s.heap locs 0 0 QQ (F0 m 58 ls [.int t0]) := by
    intro  x1 x2 x3 x4 t0 hf locs ls hS hl
    unfold fX6_touches_b58 at hf
    refine lv_istore (lv' := [(5, .int t0), (0, .ref aF), (1, .int x1), (2, .int x2), (3, .int x3), (4, .int x4)]) hx hb dX6_touches_58 hl (by decide) rfl (fun ls hl => ?_)
    refine lv_iload hx hb dX6_touches_60 (lv_at hl 0 rfl) ?_
    refine lv_if_ne (tgt := 125) hx hb dX6_touches_62 (by decide) (fun c62 => ?_) (fun c62 => ?_)
    · have hf := ifn hf c62
      refine lv_iconst (v := (1 : Int32)) hx hb dX6_touches_125 (by decide) ?_
      refine lv_goto (tgt := 130) hx hb dX6_touches_126 (by decide) ?_
      rw [hQQ]
      exact W.zret (v := (1 : Int32)) hx hb hr rfl (fun t ht hW => ⟨⟨(1 : Int32), (), rfl, Option.some.inj hf, ht⟩, rF ht⟩) hS.2.2 dX6_touches_130
    · have hf := ifp hf c62
      refine lv_iload_n hx hb dX6_touches_65 rfl (lv_at hl 4 rfl) ?_
      refine lv_aload_n hx hb dX6_touches_66 rfl (lv_at hl 1 rfl) ?_
      refine va_get (D := D) (ci := 6) (v := .ref aF_kinds) (C := RX6) (T := TX6) (N := 33) hx hb hts iX6 hown hK.1 hP 0 rfl rfl 1 (by decide) k7 (fun _ h9 => h9) rfl dX6_touches_67 ?_
      refine lv_iload_n hx hb dX6_touches_70 rfl (lv_at hl 3 rfl) ?_
      refine ckE hf (fun h71 hf => ?_)
      refine va_iald hx hb hK.1 hP 1 0 rfl rfl (inB_in h71) dX6_touches_71 ?_
      refine lv_aload_n hx hb dX6_touches_72 rfl (lv_at hl 1 rfl) ?_
      refine va_get (D := D) (ci := 6) (v := .ref aF_vs) (C := RX6) (T := TX6) (N := 33) hx hb hts iX6 hown hK.1 hP 0 rfl rfl 2 (by decide) k13 (fun _ h9 => h9) rfl dX6_touches_73 ?_
      refine lv_iload_n hx hb dX6_touches_76 rfl (lv_at hl 3 rfl) ?_
      refine ckE hf (fun h77 hf => ?_)
      refine va_iald hx hb hK.1 hP 2 0 rfl rfl (inB_in h77) dX6_touches_77 ?_
      refine lv_aload_n hx hb dX6_touches_78 rfl (lv_at hl 1 rfl) ?_
      refine va_get (D := D) (ci := 6) (v := .ref aF_ws) (C := RX6) (T := TX6) (N := 33) hx hb hts iX6 hown hK.1 hP 0 rfl rfl 3 (by decide) k16 (fun _ h9 => h9) rfl dX6_touches_79 ?_
      refine lv_iload_n hx hb dX6_touches_82 rfl (lv_at hl 3 rfl) ?_
      refine ckE hf (fun h83 hf => ?_)
      refine va_iald hx hb hK.1 hP 3 0 rfl rfl (inB_in h83) dX6_touches_83 ?_
      refine bnd hf (fun o84 e84 hf => ?_)
      refine rdSi (As := [.int (F_kinds (x2).toNatClampNeg), .int (F_vs (x2).toNatClampNeg), .int (F_ws (x2).toNatClampNeg)]) (rest := [.int x3]) ⟨hx, hb, hml, hown, hts⟩ (tX6_readsOf l D cI cJ cG  s.heap (F_kinds (x2).toNatClampNeg) (F_vs (x2).toNatClampNeg) (F_ws (x2).toNatClampNeg)  o84 e84) (va_cwS 3 hts gX6_touches_X6_readsOf rfl rfl rfl (by decide +kernel) ⟨Nat.le_of_ble_eq_true rfl, Nat.le_of_ble_eq_true rfl⟩) hK (hP.sub (ws' := []) [] rfl) rfl hl.1 rfl (lv_room (Nat.le_of_ble_eq_true rfl)) dX6_touches_84 ⟨Nat.le_of_ble_eq_true rfl, Nat.le_of_ble_eq_true rfl⟩ hS (fun locs hS => ?_)
      refine lv_iand hx hb dX6_touches_87 ?_
      refine lv_if_ne (tgt := 125) hx hb dX6_touches_88 (by decide) (fun c88 => ?_) (fun c88 => ?_)
      · have hf := ifn hf c88
        refine lv_iconst (v := (1 : Int32)) hx hb dX6_touches_125 (by decide) ?_
        refine lv_goto (tgt := 130) hx hb dX6_touches_126 (by decide) ?_
        rw [hQQ]
        exact W.zret (v := (1 : Int32)) hx hb hr rfl (fun t ht hW => ⟨⟨(1 : Int32), (), rfl, Option.some.inj hf, ht⟩, rF ht⟩) hS.2.2 dX6_touches_130
      · have hf := ifp hf c88
        refine lv_aload_n hx hb dX6_touches_91 rfl (lv_at hl 1 rfl) ?_
        refine va_get (D := D) (ci := 6) (v := .ref aF_kinds) (C := RX6) (T := TX6) (N := 33) hx hb hts iX6 hown hK.1 hP 0 rfl rfl 1 (by decide) k7 (fun _ h9 => h9) rfl dX6_touches_92 ?_
        refine lv_iload_n hx hb dX6_touches_95 rfl (lv_at hl 2 rfl) ?_
        refine ckE hf (fun h96 hf => ?_)
        refine va_iald hx hb hK.1 hP 1 0 rfl rfl (inB_in h96) dX6_touches_96 ?_
        refine lv_aload_n hx hb dX6_touches_97 rfl (lv_at hl 1 rfl) ?_
        refine va_get (D := D) (ci := 6) (v := .ref aF_vs) (C := RX6) (T := TX6) (N := 33) hx hb hts iX6 hown hK.1 hP 0 rfl rfl 2 (by decide) k13 (fun _ h9 => h9) rfl dX6_touches_98 ?_
        refine lv_iload_n hx hb dX6_touches_101 rfl (lv_at hl 2 rfl) ?_
        refine ckE hf (fun h102 hf => ?_)
        refine va_iald hx hb hK.1 hP 2 0 rfl rfl (inB_in h102) dX6_touches_102 ?_
        refine lv_aload_n hx hb dX6_touches_103 rfl (lv_at hl 1 rfl) ?_
        refine va_get (D := D) (ci := 6) (v := .ref aF_ws) (C := RX6) (T := TX6) (N := 33) hx hb hts iX6 hown hK.1 hP 0 rfl rfl 3 (by decide) k16 (fun _ h9 => h9) rfl dX6_touches_104 ?_
        refine lv_iload_n hx hb dX6_touches_107 rfl (lv_at hl 2 rfl) ?_
        refine ckE hf (fun h108 hf => ?_)
        refine va_iald hx hb hK.1 hP 3 0 rfl rfl (inB_in h108) dX6_touches_108 ?_
        refine bnd hf (fun o109 e109 hf => ?_)
        refine rdSi (As := [.int (F_kinds (x1).toNatClampNeg), .int (F_vs (x1).toNatClampNeg), .int (F_ws (x1).toNatClampNeg)]) (rest := []) ⟨hx, hb, hml, hown, hts⟩ (tX6_readsOf l D cI cJ cG  s.heap (F_kinds (x1).toNatClampNeg) (F_vs (x1).toNatClampNeg) (F_ws (x1).toNatClampNeg)  o109 e109) (va_cwS 3 hts gX6_touches_X6_readsOf rfl rfl rfl (by decide +kernel) ⟨Nat.le_of_ble_eq_true rfl, Nat.le_of_ble_eq_true rfl⟩) hK (hP.sub (ws' := []) [] rfl) rfl hl.1 rfl (lv_room (Nat.le_of_ble_eq_true rfl)) dX6_touches_109 ⟨Nat.le_of_ble_eq_true rfl, Nat.le_of_ble_eq_true rfl⟩ hS (fun locs hS => ?_)
        refine lv_iload hx hb dX6_touches_112 (lv_at hl 5 rfl) ?_
        refine lv_iand hx hb dX6_touches_114 ?_
        refine lv_if_ne (tgt := 125) hx hb dX6_touches_115 (by decide) (fun c115 => ?_) (fun c115 => ?_)
        · have hf := ifn hf c115
          refine lv_iconst (v := (1 : Int32)) hx hb dX6_touches_125 (by decide) ?_
          refine lv_goto (tgt := 130) hx hb dX6_touches_126 (by decide) ?_
          rw [hQQ]
          exact W.zret (v := (1 : Int32)) hx hb hr rfl (fun t ht hW => ⟨⟨(1 : Int32), (), rfl, Option.some.inj hf, ht⟩, rF ht⟩) hS.2.2 dX6_touches_130
        · have hf := ifp hf c115
          refine lv_iload_n hx hb dX6_touches_118 rfl (lv_at hl 4 rfl) ?_
          refine lv_iload hx hb dX6_touches_119 (lv_at hl 5 rfl) ?_
          refine lv_iand hx hb dX6_touches_121 ?_
          refine lv_if_eq (tgt := 129) hx hb dX6_touches_122 (by decide) (fun c122 => ?_) (fun c122 => ?_)
          · have hf := ifp hf c122
            refine lv_iconst (v := (0 : Int32)) hx hb dX6_touches_129 (by decide) ?_
            rw [hQQ]
            exact W.zret (v := (0 : Int32)) hx hb hr rfl (fun t ht hW => ⟨⟨(0 : Int32), (), rfl, Option.some.inj hf, ht⟩, rF ht⟩) hS.2.2 dX6_touches_130
          · have hf := ifn hf c122
            refine lv_iconst (v := (1 : Int32)) hx hb dX6_touches_125 (by decide) ?_
            refine lv_goto (tgt := 130) hx hb dX6_touches_126 (by decide) ?_
            rw [hQQ]
            exact W.zret (v := (1 : Int32)) hx hb hr rfl (fun t ht hW => ⟨⟨(1 : Int32), (), rfl, Option.some.inj hf, ht⟩, rF ht⟩) hS.2.2 dX6_touches_130
  unfold fX6_touches at hf
  refine lv_aload_n hx hb dX6_touches_0 rfl (lv_at hl 0 rfl) ?_
  refine va_get (D := D) (ci := 6) (v := .ref aF_kinds) (C := RX6) (T := TX6) (N := 33) hx hb hts iX6 hown hK.1 hP 0 rfl rfl 1 (by decide) k7 (fun _ h9 => h9) rfl dX6_touches_1 ?_
  refine lv_iload_n hx hb dX6_touches_4 rfl (lv_at hl 1 rfl) ?_
  refine ckE hf (fun h5 hf => ?_)
  refine va_iald hx hb hK.1 hP 1 0 rfl rfl (inB_in h5) dX6_touches_5 ?_
  refine lv_aload_n hx hb dX6_touches_6 rfl (lv_at hl 0 rfl) ?_
  refine va_get (D := D) (ci := 6) (v := .ref aF_vs) (C := RX6) (T := TX6) (N := 33) hx hb hts iX6 hown hK.1 hP 0 rfl rfl 2 (by decide) k13 (fun _ h9 => h9) rfl dX6_touches_7 ?_
  refine lv_iload_n hx hb dX6_touches_10 rfl (lv_at hl 1 rfl) ?_
  refine ckE hf (fun h11 hf => ?_)
  refine va_iald hx hb hK.1 hP 2 0 rfl rfl (inB_in h11) dX6_touches_11 ?_
  refine bnd hf (fun o12 e12 hf => ?_)
  refine rdSi (As := [.int (F_kinds (y1).toNatClampNeg), .int (F_vs (y1).toNatClampNeg)]) (rest := []) ⟨hx, hb, hml, hown, hts⟩ (tX6_writesOf l D cI cJ cG  s.heap (F_kinds (y1).toNatClampNeg) (F_vs (y1).toNatClampNeg)  o12 e12) (va_cwS 2 hts gX6_touches_X6_writesOf rfl rfl rfl (by decide +kernel) ⟨Nat.le_of_ble_eq_true rfl, Nat.le_of_ble_eq_true rfl⟩) hK (hP.sub (ws' := []) [] rfl) rfl hl.1 rfl (lv_room (Nat.le_of_ble_eq_true rfl)) dX6_touches_12 ⟨Nat.le_of_ble_eq_true rfl, Nat.le_of_ble_eq_true rfl⟩ hS (fun locs hS => ?_)
  refine lv_istore_n (lv' := [(3, .int o12), (0, .ref aF), (1, .int y1), (2, .int y2)]) hx hb dX6_touches_15 rfl hl (by decide) rfl (fun ls hl => ?_)
  refine lv_aload_n hx hb dX6_touches_16 rfl (lv_at hl 1 rfl) ?_
  refine va_get (D := D) (ci := 6) (v := .ref aF_kinds) (C := RX6) (T := TX6) (N := 33) hx hb hts iX6 hown hK.1 hP 0 rfl rfl 1 (by decide) k7 (fun _ h9 => h9) rfl dX6_touches_17 ?_
  refine lv_iload_n hx hb dX6_touches_20 rfl (lv_at hl 3 rfl) ?_
  refine ckE hf (fun h21 hf => ?_)
  refine va_iald hx hb hK.1 hP 1 0 rfl rfl (inB_in h21) dX6_touches_21 ?_
  refine lv_aload_n hx hb dX6_touches_22 rfl (lv_at hl 1 rfl) ?_
  refine va_get (D := D) (ci := 6) (v := .ref aF_vs) (C := RX6) (T := TX6) (N := 33) hx hb hts iX6 hown hK.1 hP 0 rfl rfl 2 (by decide) k13 (fun _ h9 => h9) rfl dX6_touches_23 ?_
  refine lv_iload_n hx hb dX6_touches_26 rfl (lv_at hl 3 rfl) ?_
  refine ckE hf (fun h27 hf => ?_)
  refine va_iald hx hb hK.1 hP 2 0 rfl rfl (inB_in h27) dX6_touches_27 ?_
  refine bnd hf (fun o28 e28 hf => ?_)
  refine rdSi (As := [.int (F_kinds (y2).toNatClampNeg), .int (F_vs (y2).toNatClampNeg)]) (rest := []) ⟨hx, hb, hml, hown, hts⟩ (tX6_writesOf l D cI cJ cG  s.heap (F_kinds (y2).toNatClampNeg) (F_vs (y2).toNatClampNeg)  o28 e28) (va_cwS 2 hts gX6_touches_X6_writesOf rfl rfl rfl (by decide +kernel) ⟨Nat.le_of_ble_eq_true rfl, Nat.le_of_ble_eq_true rfl⟩) hK (hP.sub (ws' := []) [] rfl) rfl hl.1 rfl (lv_room (Nat.le_of_ble_eq_true rfl)) dX6_touches_28 ⟨Nat.le_of_ble_eq_true rfl, Nat.le_of_ble_eq_true rfl⟩ hS (fun locs hS => ?_)
  refine lv_istore (lv' := [(4, .int o28), (3, .int o12), (0, .ref aF), (1, .int y1), (2, .int y2)]) hx hb dX6_touches_31 hl (by decide) rfl (fun ls hl => ?_)
  refine lv_aload_n hx hb dX6_touches_33 rfl (lv_at hl 2 rfl) ?_
  refine va_get (D := D) (ci := 6) (v := .ref aF_kinds) (C := RX6) (T := TX6) (N := 33) hx hb hts iX6 hown hK.1 hP 0 rfl rfl 1 (by decide) k7 (fun _ h9 => h9) rfl dX6_touches_34 ?_
  refine lv_iload_n hx hb dX6_touches_37 rfl (lv_at hl 3 rfl) ?_
  refine ckE hf (fun h38 hf => ?_)
  refine va_iald hx hb hK.1 hP 1 0 rfl rfl (inB_in h38) dX6_touches_38 ?_
  refine lv_iconst (v := (4 : Int32)) hx hb dX6_touches_39 (by decide) ?_
  refine lv_icmp_ne (tgt := 57) hx hb dX6_touches_40 (by decide) (fun c40 => ?_) (fun c40 => ?_)
  · have hf := ifn hf c40
    refine lv_iconst (v := (0 : Int32)) hx hb dX6_touches_57 (by decide) ?_
    exact b_58 y1 y2 o12 o28 (0 : Int32) hf _ _ hS (lv_sub hl [2, 3, 4, 1, 0] rfl)
  · have hf := ifp hf c40
    refine lv_aload_n hx hb dX6_touches_43 rfl (lv_at hl 2 rfl) ?_
    refine va_get (D := D) (ci := 6) (v := .ref aF_kinds) (C := RX6) (T := TX6) (N := 33) hx hb hts iX6 hown hK.1 hP 0 rfl rfl 1 (by decide) k7 (fun _ h9 => h9) rfl dX6_touches_44 ?_
    refine lv_iload_n hx hb dX6_touches_47 rfl (lv_at hl 4 rfl) ?_
    refine ckE hf (fun h48 hf => ?_)
    refine va_iald hx hb hK.1 hP 1 0 rfl rfl (inB_in h48) dX6_touches_48 ?_
    refine lv_iconst (v := (4 : Int32)) hx hb dX6_touches_49 (by decide) ?_
    refine lv_icmp_ne (tgt := 57) hx hb dX6_touches_50 (by decide) (fun c50 => ?_) (fun c50 => ?_)
    · have hf := ifn hf c50
      refine lv_iconst (v := (0 : Int32)) hx hb dX6_touches_57 (by decide) ?_
      exact b_58 y1 y2 o12 o28 (0 : Int32) hf _ _ hS (lv_sub hl [2, 3, 4, 1, 0] rfl)
    · have hf := ifp hf c50
      refine lv_iconst (v := (1 : Int32)) hx hb dX6_touches_53 (by decide) ?_
      refine lv_goto (tgt := 58) hx hb dX6_touches_54 (by decide) ?_
      exact b_58 y1 y2 o12 o28 (1 : Int32) hf _ _ hS (lv_sub hl [2, 3, 4, 1, 0] rfl)

set_option maxHeartbeats 4000000 in
set_option maxRecDepth 100000 in
theorem tX6_relate (l : Launch) (D : va_G) (cI cJ cG : ClassId) (aF aF_kinds aF_vs aF_ws aF_roles aF_partner aF_lineOf aF_rank aF_behind aF_before aF_ways aF_inputOf aF_answer aF_values aF_printedRow aF_wasValues aF_wasPrinted aF_due aF_takenPlace aF_against : Nat) (sz : Nat)  (F_lines : Int32) (F_model : Int32) (F_inputs : Int32) (F_size : Int32) (F_hints : Int32) (F_hasRun : Int32) (F_printedMany : Int32) (F_keptBits : Int32) (F_keptMany : Int32) (F_takenMany : Int32) (F_change : Int32) (F_who : Int32) (F_where : Int32) (F_h : Int64) (F_kinds : (Nat → Int32)) (F_vs : (Nat → Int32)) (F_ws : (Nat → Int32)) (F_lineOf : (Nat → Int32)) (F_behind : (Nat → Int32)) (F_before : (Nat → Int32)) (F_ways : (Nat → Int64)) (out : (Nat → Int32) × (Nat → Int32) × (Nat → Int64)) (hf : fX6_relate F_model F_kinds F_vs F_ws F_lineOf F_behind F_before F_ways = some out) : Met l yX6_relate wsX6_relate ({ frames := 2, cells := 0, slots := 0, locals := 47 }) (va_Pc [.ref aF] (wP D (tyL cI cJ cG) [(aF, .inr (6, [.int F_lines, .ref aF_kinds, .ref aF_vs, .ref aF_ws, .ref aF_roles, .ref aF_partner, .int F_model, .ref aF_lineOf, .ref aF_rank, .ref aF_behind, .ref aF_before, .ref aF_ways, .int F_inputs, .ref aF_inputOf, .int F_size, .ref aF_answer, .int F_hints, .int F_hasRun, .ref aF_values, .int F_printedMany, .ref aF_printedRow, .ref aF_wasValues, .ref aF_wasPrinted, .ref aF_due, .int F_keptBits, .int F_keptMany, .int F_takenMany, .ref aF_takenPlace, .ref aF_against, .int F_change, .int F_who, .int F_where, .long F_h])), (aF_kinds, eI cI 16 F_kinds), (aF_vs, eI cI 16 F_vs), (aF_ws, eI cI 16 F_ws), (aF_lineOf, eI cI 12 F_lineOf), (aF_behind, eI cI 12 F_behind), (aF_before, eI cI 12 F_before), (aF_ways, eJ cJ 4096 F_ways)] sz)) (wQv D  [(aF, .inr (6, [.int F_lines, .ref aF_kinds, .ref aF_vs, .ref aF_ws, .ref aF_roles, .ref aF_partner, .int F_model, .ref aF_lineOf, .ref aF_rank, .ref aF_behind, .ref aF_before, .ref aF_ways, .int F_inputs, .ref aF_inputOf, .int F_size, .ref aF_answer, .int F_hints, .int F_hasRun, .ref aF_values, .int F_printedMany, .ref aF_printedRow, .ref aF_wasValues, .ref aF_wasPrinted, .ref aF_due, .int F_keptBits, .int F_keptMany, .int F_takenMany, .ref aF_takenPlace, .ref aF_against, .int F_change, .int F_who, .int F_where, .long F_h])), (aF_kinds, eI cI 16 F_kinds), (aF_vs, eI cI 16 F_vs), (aF_ws, eI cI 16 F_ws), (aF_lineOf, eI cI 12 F_lineOf), (aF_behind, eI cI 12 F_behind), (aF_before, eI cI 12 F_before), (aF_ways, eJ cJ 4096 F_ways)] [(aF, .inr (6, [.int F_lines, .ref aF_kinds, .ref aF_vs, .ref aF_ws, .ref aF_roles, .ref aF_partner, .int F_model, .ref aF_lineOf, .ref aF_rank, .ref aF_behind, .ref aF_before, .ref aF_ways, .int F_inputs, .ref aF_inputOf, .int F_size, .ref aF_answer, .int F_hints, .int F_hasRun, .ref aF_values, .int F_printedMany, .ref aF_printedRow, .ref aF_wasValues, .ref aF_wasPrinted, .ref aF_due, .int F_keptBits, .int F_keptMany, .int F_takenMany, .ref aF_takenPlace, .ref aF_against, .int F_change, .int F_who, .int F_where, .long F_h])), (aF_kinds, eI cI 16 F_kinds), (aF_vs, eI cI 16 F_vs), (aF_ws, eI cI 16 F_ws), (aF_lineOf, eI cI 12 F_lineOf), (aF_behind, eI cI 12 out.1), (aF_before, eI cI 12 out.2.1), (aF_ways, eJ cJ 4096 out.2.2)] sz) 0 0 (va_A [(aF, .inr (6, [.int F_lines, .ref aF_kinds, .ref aF_vs, .ref aF_ws, .ref aF_roles, .ref aF_partner, .int F_model, .ref aF_lineOf, .ref aF_rank, .ref aF_behind, .ref aF_before, .ref aF_ways, .int F_inputs, .ref aF_inputOf, .int F_size, .ref aF_answer, .int F_hints, .int F_hasRun, .ref aF_values, .int F_printedMany, .ref aF_printedRow, .ref aF_wasValues, .ref aF_wasPrinted, .ref aF_due, .int F_keptBits, .int F_keptMany, .int F_takenMany, .ref aF_takenPlace, .ref aF_against, .int F_change, .int F_who, .int F_where, .long F_h])), (aF_kinds, eI cI 16 F_kinds), (aF_vs, eI cI 16 F_vs), (aF_ws, eI cI 16 F_ws), (aF_lineOf, eI cI 12 F_lineOf), (aF_behind, eI cI 12 F_behind), (aF_before, eI cI 12 F_before), (aF_ways, eJ cJ 4096 F_ways)] sz) := by
  refine Met.ofW (cc := cX6_relate) (maxL := 4) (ret := none) (by decide) rfl ?_
  intro p e s m args below meth c s₁ B hml hv
  obtain ⟨rfl, hsz, hP, hK, hD0⟩ := hv
  have hx := B.exec
  have hb := B.bytes
  have hr := B.returns
  have hts := atoms_spec (ws := wsX6_relate) B.pre
  have hown : s.vm.findClass RX6 = some m.cls := findClass_of_methodNamed B.named
  have hlocks := B.notSynchronized
  have iX6 : ∀ w ∈ wsX60, w ∈ wsX6_relate := by decide +kernel
  have k25 := hts (.fieldLink RX6 25 "BlockMarkerModel" "lineOf" "[I") (by decide +kernel)
  have k31 := hts (.fieldLink RX6 31 "BlockMarkerModel" "behind" "[I") (by decide +kernel)
  have k34 := hts (.fieldLink RX6 34 "BlockMarkerModel" "before" "[I") (by decide +kernel)
  have k37 := hts (.fieldLink RX6 37 "BlockMarkerModel" "ways" "[J") (by decide +kernel)
  have k82 := hts (.fieldLink RX6 82 "BlockMarkerModel" "model" "I") (by decide +kernel)
  subst hsz
  have hD := hD0.self (sz := s.heap.size)
  generalize hAe : va_A [(aF, .inr (6, [.int F_lines, .ref aF_kinds, .ref aF_vs, .ref aF_ws, .ref aF_roles, .ref aF_partner, .int F_model, .ref aF_lineOf, .ref aF_rank, .ref aF_behind, .ref aF_before, .ref aF_ways, .int F_inputs, .ref aF_inputOf, .int F_size, .ref aF_answer, .int F_hints, .int F_hasRun, .ref aF_values, .int F_printedMany, .ref aF_printedRow, .ref aF_wasValues, .ref aF_wasPrinted, .ref aF_due, .int F_keptBits, .int F_keptMany, .int F_takenMany, .ref aF_takenPlace, .ref aF_against, .int F_change, .int F_who, .int F_where, .long F_h])), (aF_kinds, eI cI 16 F_kinds), (aF_vs, eI cI 16 F_vs), (aF_ws, eI cI 16 F_ws), (aF_lineOf, eI cI 12 F_lineOf), (aF_behind, eI cI 12 F_behind), (aF_before, eI cI 12 F_before), (aF_ways, eJ cJ 4096 F_ways)] s.heap.size = A at hD ⊢
  have hA : ∀ q : Nat, s.heap.size ≤ q → A q := fun q h => by rw [← hAe]; exact Or.inr h
  have hS : va_S A s.heap s.heap [] := va_S.rf
  have hl := lv_entry ([.ref aF]) (n := 4) (Nat.le_of_ble_eq_true rfl)
  rw [lg_entry_eq]
  generalize (lg_sl ([.ref aF]) ++ List.replicate (4 - (lg_sl ([.ref aF])).length) Slot.unset).toArray = ls at hl ⊢
  have hl : lv_has ls 4 [(0, .ref aF)] := hl
  generalize hQQ : MQ below _ _ s 0 0 _ = QQ
  replace hQQ := hQQ.symm
  have b_179 : ∀ (k166 : Int32 → Int32 → (Nat → Int32) → (Nat → Int32) → (Nat → Int32) → (Nat → Int32) → (Nat → Int32) → (Nat → Int32) → (Nat → Int64) → Option ((Nat → Int32) × (Nat → Int32) × (Nat → Int64))) (hk166 : ∀ (x2 : Int32) (F_behind : (Nat → Int32)) (F_before : (Nat → Int32)) (F_ways : (Nat → Int64)), k166 x2 F_model F_kinds F_vs F_ws F_lineOf F_behind F_before F_ways = some out → ∀ (H : Heap) (locs : List Loc) (ls : Array Slot), va_P D vwCl [(aF, .inr (6, [.int F_lines, .ref aF_kinds, .ref aF_vs, .ref aF_ws, .ref aF_roles, .ref aF_partner, .int F_model, .ref aF_lineOf, .ref aF_rank, .ref aF_behind, .ref aF_before, .ref aF_ways, .int F_inputs, .ref aF_inputOf, .int F_size, .ref aF_answer, .int F_hints, .int F_hasRun, .ref aF_values, .int F_printedMany, .ref aF_printedRow, .ref aF_wasValues, .ref aF_wasPrinted, .ref aF_due, .int F_keptBits, .int F_keptMany, .int F_takenMany, .ref aF_takenPlace, .ref aF_against, .int F_change, .int F_who, .int F_where, .long F_h])), (aF_kinds, eI cI 16 F_kinds), (aF_vs, eI cI 16 F_vs), (aF_ws, eI cI 16 F_ws), (aF_lineOf, eI cI 12 F_lineOf), (aF_behind, eI cI 12 F_behind), (aF_before, eI cI 12 F_before), (aF_ways, eJ cJ 4096 F_ways)] H → va_D A [(aF, .inr (6, [.int F_lines, .ref aF_kinds, .ref aF_vs, .ref aF_ws, .ref aF_roles, .ref aF_partner, .int F_model, .ref aF_lineOf, .ref aF_rank, .ref aF_behind, .ref aF_before, .ref aF_ways, .int F_inputs, .ref aF_inputOf, .int F_size, .ref aF_answer, .int F_hints, .int F_hasRun, .ref aF_values, .int F_printedMany, .ref aF_printedRow, .ref aF_wasValues, .ref aF_wasPrinted, .ref aF_due, .int F_keptBits, .int F_keptMany, .int F_takenMany, .ref aF_takenPlace, .ref aF_against, .int F_change, .int F_who, .int F_where, .long F_h])), (aF_kinds, eI cI 16 F_kinds), (aF_vs, eI cI 16 F_vs), (aF_ws, eI cI 16 F_ws), (aF_lineOf, eI cI 12 F_lineOf), (aF_behind, eI cI 12 F_behind), (aF_before, eI cI 12 F_before), (aF_ways, eJ cJ 4096 F_ways)] → va_S A s.heap H locs → lv_has ls 4 [(0, .ref aF), (2, .int x2)] → W p l e (headSpec wsX6_relate { frames := 2, cells := 0, slots := 0, locals := 47 }).room s m ([.ref aF] : List Value).toArray below meth c H locs 0 0 QQ (F0 m 166 ls [])) (n : Nat), ∀ (x2 : Int32) (x3 : Int32) (F_behind : (Nat → Int32)) (F_before : (Nat → Int32)) (F_ways : (Nat → Int64)), fX6_relate_h179 k166 n x2 x3 F_model F_kinds F_vs F_ws F_lineOf F_behind F_before F_ways = some out → ∀ (H : Heap) (locs : List Loc) (ls : Array Slot), va_P D vwCl [(aF, .inr (6, [.int F_lines, .ref aF_kinds, .ref aF_vs, .ref aF_ws, .ref aF_roles, .ref aF_partner, .int F_model, .ref aF_lineOf, .ref aF_rank, .ref aF_behind, .ref aF_before, .ref aF_ways, .int F_inputs, .ref aF_inputOf, .int F_size, .ref aF_answer, .int F_hints, .int F_hasRun, .ref aF_values, .int F_printedMany, .ref aF_printedRow, .ref aF_wasValues, .ref aF_wasPrinted, .ref aF_due, .int F_keptBits, .int F_keptMany, .int F_takenMany, .ref aF_takenPlace, .ref aF_against, .int F_change, .int F_who, .int F_where, .long F_h])), (aF_kinds, eI cI 16 F_kinds), (aF_vs, eI cI 16 F_vs), (aF_ws, eI cI 16 F_ws), (aF_lineOf, eI cI 12 F_lineOf), (aF_behind, eI cI 12 F_behind), (aF_before, eI cI 12 F_before), (aF_ways, eJ cJ 4096 F_ways)] H → va_D A [(aF, .inr (6, [.int F_lines, .ref aF_kinds, .ref aF_vs, .ref aF_ws, .ref aF_roles, .ref aF_partner, .int F_model, .ref aF_lineOf, .ref aF_rank, .ref aF_behind, .ref aF_before, .ref aF_ways, .int F_inputs, .ref aF_inputOf, .int F_size, .ref aF_answer, .int F_hints, .int F_hasRun, .ref aF_values, .int F_printedMany, .ref aF_printedRow, .ref aF_wasValues, .ref aF_wasPrinted, .ref aF_due, .int F_keptBits, .int F_keptMany, .int F_takenMany, .ref aF_takenPlace, .ref aF_against, .int F_change, .int F_who, .int F_where, .long F_h])), (aF_kinds, eI cI 16 F_kinds), (aF_vs, eI cI 16 F_vs), (aF_ws, eI cI 16 F_ws), (aF_lineOf, eI cI 12 F_lineOf), (aF_behind, eI cI 12 F_behind), (aF_before, eI cI 12 F_before), (aF_ways, eJ cJ 4096 F_ways)] → va_S A s.heap H locs → lv_has ls 4 [(0, .ref aF), (2, .int x2), (3, .int x3)] → W p l e (headSpec wsX6_relate { frames := 2, cells := 0, slots := 0, locals := 47 }).room s m ([.ref aF] : List Value).toArray below meth c H locs 0 0 QQ (F0 m 179 ls []) := by
    intro k166 hk166 n
    induction n with
    | zero => intro x2 x3 F_behind F_before F_ways hf; exact nomatch (show (none : Option ((Nat → Int32) × (Nat → Int32) × (Nat → Int64))) = some out from hf)
    | succ n ih =>
      intro x2 x3 F_behind F_before F_ways hf H locs ls hP hD hS hl
      replace hf : uX6_relate_h179 k166 (fX6_relate_h179 k166 n) x2 x3 F_model F_kinds F_vs F_ws F_lineOf F_behind F_before F_ways = some out := hf
      unfold uX6_relate_h179 at hf
      refine lv_iload_n hx hb dX6_relate_179 rfl (lv_at hl 2 rfl) ?_
      refine lv_aload_n hx hb dX6_relate_180 rfl (lv_at hl 0 rfl) ?_
      refine va_get (D := D) (ci := 6) (v := .int F_model) (C := RX6) (T := TX6) (N := 33) hx hb hts iX6 hown hK.1 hP 0 rfl rfl 6 (by decide) k82 (fun _ h9 => h9) rfl dX6_relate_181 ?_
      refine lv_icmp_ge (tgt := 233) hx hb dX6_relate_184 (by decide) (fun c184 => ?_) (fun c184 => ?_)
      · have hf := ifp hf c184
        refine lv_iinc (v := (x2 + (-1 : Int32))) (lv' := [(2, .int (x2 + (-1 : Int32))), (0, .ref aF), (3, .int x3)]) hx hb dX6_relate_233 hl (k := 1) rfl rfl (by decide) rfl (fun ls hl => ?_)
        refine lv_goto (tgt := 166) hx hb dX6_relate_236 (by decide) ?_
        exact hk166 (x2 + (-1 : Int32)) F_behind F_before F_ways hf _ _ _ hP hD hS (lv_sub hl [1, 0] rfl)
      · have hf := ifn hf c184
        refine lv_iload_n hx hb dX6_relate_187 rfl (lv_at hl 1 rfl) ?_
        refine lv_iload_n hx hb dX6_relate_188 rfl (lv_at hl 2 rfl) ?_
        refine lv_ishr hx hb dX6_relate_189 ?_
        refine lv_iconst (v := (1 : Int32)) hx hb dX6_relate_190 (by decide) ?_
        refine lv_iand hx hb dX6_relate_191 ?_
        refine lv_if_ne (tgt := 227) hx hb dX6_relate_192 (by decide) (fun c192 => ?_) (fun c192 => ?_)
        · have hf := ifn hf c192
          refine lv_iinc (v := (x3 + (1 : Int32))) (lv' := [(3, .int (x3 + (1 : Int32))), (0, .ref aF), (2, .int x2)]) hx hb dX6_relate_227 hl (k := 2) rfl rfl (by decide) rfl (fun ls hl => ?_)
          refine lv_goto (tgt := 179) hx hb dX6_relate_230 (by decide) ?_
          exact ih x2 (x3 + (1 : Int32)) F_behind F_before F_ways hf _ _ _ hP hD hS (lv_sub hl [1, 2, 0] rfl)
        · have hf := ifp hf c192
          refine lv_aload_n hx hb dX6_relate_195 rfl (lv_at hl 0 rfl) ?_
          refine va_get (D := D) (ci := 6) (v := .ref aF_before) (C := RX6) (T := TX6) (N := 33) hx hb hts iX6 hown hK.1 hP 0 rfl rfl 10 (by decide) k34 (fun _ h9 => h9) rfl dX6_relate_196 ?_
          refine lv_iload_n hx hb dX6_relate_199 rfl (lv_at hl 2 rfl) ?_
          refine ckE hf (fun h200 hf => ?_)
          refine va_iald hx hb hK.1 hP 6 0 rfl rfl (inB_in h200) dX6_relate_200 ?_
          refine lv_iload_n hx hb dX6_relate_201 rfl (lv_at hl 1 rfl) ?_
          refine lv_iconst (v := (-1 : Int32)) hx hb dX6_relate_202 (by decide) ?_
          refine lv_ixor hx hb dX6_relate_203 ?_
          refine lv_iand hx hb dX6_relate_204 ?_
          refine lv_if_ne (tgt := 227) hx hb dX6_relate_205 (by decide) (fun c205 => ?_) (fun c205 => ?_)
          · have hf := ifn hf c205
            refine lv_iinc (v := (x3 + (1 : Int32))) (lv' := [(3, .int (x3 + (1 : Int32))), (0, .ref aF), (2, .int x2)]) hx hb dX6_relate_227 hl (k := 2) rfl rfl (by decide) rfl (fun ls hl => ?_)
            refine lv_goto (tgt := 179) hx hb dX6_relate_230 (by decide) ?_
            exact ih x2 (x3 + (1 : Int32)) F_behind F_before F_ways hf _ _ _ hP hD hS (lv_sub hl [1, 2, 0] rfl)
          · have hf := ifp hf c205
            refine lv_aload_n hx hb dX6_relate_208 rfl (lv_at hl 0 rfl) ?_
            refine va_get (D := D) (ci := 6) (v := .ref aF_ways) (C := RX6) (T := TX6) (N := 33) hx hb hts iX6 hown hK.1 hP 0 rfl rfl 11 (by decide) k37 (fun _ h9 => h9) rfl dX6_relate_209 ?_
            refine lv_iload_n hx hb dX6_relate_212 rfl (lv_at hl 1 rfl) ?_
            refine lv_dup2_11 hx hb dX6_relate_213 rfl rfl ?_
            refine ckE hf (fun h214 hf => ?_)
            refine va_lald hx hb hK.1 hP 7 1 rfl rfl (inB_in h214) dX6_relate_214 ?_
            refine lv_aload_n hx hb dX6_relate_215 rfl (lv_at hl 0 rfl) ?_
            refine va_get (D := D) (ci := 6) (v := .ref aF_ways) (C := RX6) (T := TX6) (N := 33) hx hb hts iX6 hown hK.1 hP 0 rfl rfl 11 (by decide) k37 (fun _ h9 => h9) rfl dX6_relate_216 ?_
            refine lv_iload_n hx hb dX6_relate_219 rfl (lv_at hl 1 rfl) ?_
            refine lv_iconst (v := (1 : Int32)) hx hb dX6_relate_220 (by decide) ?_
            refine lv_iload_n hx hb dX6_relate_221 rfl (lv_at hl 2 rfl) ?_
            refine lv_ishl hx hb dX6_relate_222 ?_
            refine lv_ior hx hb dX6_relate_223 ?_
            refine ckE hf (fun h224 hf => ?_)
            refine va_lald hx hb hK.1 hP 7 1 rfl rfl (inB_in h224) dX6_relate_224 ?_
            refine lv_ladd hx hb dX6_relate_225 ?_
            refine ckE hf (fun h226 hf => ?_)
            refine va_last hx hb hK.1 hP hD hS 7 1 rfl rfl (inB_in h226) dX6_relate_226 (fun H locs hP hD hS => ?_)
            have hP : va_P D vwCl [(aF, .inr (6, [.int F_lines, .ref aF_kinds, .ref aF_vs, .ref aF_ws, .ref aF_roles, .ref aF_partner, .int F_model, .ref aF_lineOf, .ref aF_rank, .ref aF_behind, .ref aF_before, .ref aF_ways, .int F_inputs, .ref aF_inputOf, .int F_size, .ref aF_answer, .int F_hints, .int F_hasRun, .ref aF_values, .int F_printedMany, .ref aF_printedRow, .ref aF_wasValues, .ref aF_wasPrinted, .ref aF_due, .int F_keptBits, .int F_keptMany, .int F_takenMany, .ref aF_takenPlace, .ref aF_against, .int F_change, .int F_who, .int F_where, .long F_h])), (aF_kinds, eI cI 16 F_kinds), (aF_vs, eI cI 16 F_vs), (aF_ws, eI cI 16 F_ws), (aF_lineOf, eI cI 12 F_lineOf), (aF_behind, eI cI 12 F_behind), (aF_before, eI cI 12 F_before), (aF_ways, eJ cJ 4096 (vp_updL F_ways (x2).toNatClampNeg ((F_ways (x2).toNatClampNeg) + (F_ways ((x2 ||| ((1 : Int32) <<< (x3 &&& 31)))).toNatClampNeg))))] H := hP
            have hD : va_D A [(aF, .inr (6, [.int F_lines, .ref aF_kinds, .ref aF_vs, .ref aF_ws, .ref aF_roles, .ref aF_partner, .int F_model, .ref aF_lineOf, .ref aF_rank, .ref aF_behind, .ref aF_before, .ref aF_ways, .int F_inputs, .ref aF_inputOf, .int F_size, .ref aF_answer, .int F_hints, .int F_hasRun, .ref aF_values, .int F_printedMany, .ref aF_printedRow, .ref aF_wasValues, .ref aF_wasPrinted, .ref aF_due, .int F_keptBits, .int F_keptMany, .int F_takenMany, .ref aF_takenPlace, .ref aF_against, .int F_change, .int F_who, .int F_where, .long F_h])), (aF_kinds, eI cI 16 F_kinds), (aF_vs, eI cI 16 F_vs), (aF_ws, eI cI 16 F_ws), (aF_lineOf, eI cI 12 F_lineOf), (aF_behind, eI cI 12 F_behind), (aF_before, eI cI 12 F_before), (aF_ways, eJ cJ 4096 (vp_updL F_ways (x2).toNatClampNeg ((F_ways (x2).toNatClampNeg) + (F_ways ((x2 ||| ((1 : Int32) <<< (x3 &&& 31)))).toNatClampNeg))))] := hD
            refine lv_iinc (v := (x3 + (1 : Int32))) (lv' := [(3, .int (x3 + (1 : Int32))), (0, .ref aF), (2, .int x2)]) hx hb dX6_relate_227 hl (k := 2) rfl rfl (by decide) rfl (fun ls hl => ?_)
            refine lv_goto (tgt := 179) hx hb dX6_relate_230 (by decide) ?_
            exact ih x2 (x3 + (1 : Int32)) F_behind F_before (vp_updL F_ways (x2).toNatClampNeg ((F_ways (x2).toNatClampNeg) + (F_ways ((x2 ||| ((1 : Int32) <<< (x3 &&& 31)))).toNatClampNeg))) hf _ _ _ hP hD hS (lv_sub hl [1, 2, 0] rfl)
  have b_166 : ∀ (n : Nat), ∀ (x2 : Int32) (F_behind : (Nat → Int32)) (F_before : (Nat → Int32)) (F_ways : (Nat → Int64)), fX6_relate_h166  n x2 F_model F_kinds F_vs F_ws F_lineOf F_behind F_before F_ways = some out → ∀ (H : Heap) (locs : List Loc) (ls : Array Slot), va_P D vwCl [(aF, .inr (6, [.int F_lines, .ref aF_kinds, .ref aF_vs, .ref aF_ws, .ref aF_roles, .ref aF_partner, .int F_model, .ref aF_lineOf, .ref aF_rank, .ref aF_behind, .ref aF_before, .ref aF_ways, .int F_inputs, .ref aF_inputOf, .int F_size, .ref aF_answer, .int F_hints, .int F_hasRun, .ref aF_values, .int F_printedMany, .ref aF_printedRow, .ref aF_wasValues, .ref aF_wasPrinted, .ref aF_due, .int F_keptBits, .int F_keptMany, .int F_takenMany, .ref aF_takenPlace, .ref aF_against, .int F_change, .int F_who, .int F_where, .long F_h])), (aF_kinds, eI cI 16 F_kinds), (aF_vs, eI cI 16 F_vs), (aF_ws, eI cI 16 F_ws), (aF_lineOf, eI cI 12 F_lineOf), (aF_behind, eI cI 12 F_behind), (aF_before, eI cI 12 F_before), (aF_ways, eJ cJ 4096 F_ways)] H → va_D A [(aF, .inr (6, [.int F_lines, .ref aF_kinds, .ref aF_vs, .ref aF_ws, .ref aF_roles, .ref aF_partner, .int F_model, .ref aF_lineOf, .ref aF_rank, .ref aF_behind, .ref aF_before, .ref aF_ways, .int F_inputs, .ref aF_inputOf, .int F_size, .ref aF_answer, .int F_hints, .int F_hasRun, .ref aF_values, .int F_printedMany, .ref aF_printedRow, .ref aF_wasValues, .ref aF_wasPrinted, .ref aF_due, .int F_keptBits, .int F_keptMany, .int F_takenMany, .ref aF_takenPlace, .ref aF_against, .int F_change, .int F_who, .int F_where, .long F_h])), (aF_kinds, eI cI 16 F_kinds), (aF_vs, eI cI 16 F_vs), (aF_ws, eI cI 16 F_ws), (aF_lineOf, eI cI 12 F_lineOf), (aF_behind, eI cI 12 F_behind), (aF_before, eI cI 12 F_before), (aF_ways, eJ cJ 4096 F_ways)] → va_S A s.heap H locs → lv_has ls 4 [(0, .ref aF), (2, .int x2)] → W p l e (headSpec wsX6_relate { frames := 2, cells := 0, slots := 0, locals := 47 }).room s m ([.ref aF] : List Value).toArray below meth c H locs 0 0 QQ (F0 m 166 ls []) := by
    intro  n
    induction n with
    | zero => intro x2 F_behind F_before F_ways hf; exact nomatch (show (none : Option ((Nat → Int32) × (Nat → Int32) × (Nat → Int64))) = some out from hf)
    | succ n ih =>
      intro x2 F_behind F_before F_ways hf H locs ls hP hD hS hl
      replace hf : uX6_relate_h166  (fX6_relate_h166  n) x2 F_model F_kinds F_vs F_ws F_lineOf F_behind F_before F_ways = some out := hf
      unfold uX6_relate_h166 at hf
      refine lv_iload_n hx hb dX6_relate_166 rfl (lv_at hl 1 rfl) ?_
      refine lv_if_lt (tgt := 239) hx hb dX6_relate_167 (by decide) (fun c167 => ?_) (fun c167 => ?_)
      · have hf := ifp hf c167
        rw [hQQ]
        exact W.vret hx hb hr (fun t ht hW => by rw [← Option.some.inj hf]; rw [← hAe] at hD hS; exact ⟨⟨(), rfl, trivial, by rw [ht]; exact hP, hD⟩, hS.F ht⟩) hS.2.2 dX6_relate_239
      · have hf := ifn hf c167
        refine lv_aload_n hx hb dX6_relate_170 rfl (lv_at hl 0 rfl) ?_
        refine va_get (D := D) (ci := 6) (v := .ref aF_ways) (C := RX6) (T := TX6) (N := 33) hx hb hts iX6 hown hK.1 hP 0 rfl rfl 11 (by decide) k37 (fun _ h9 => h9) rfl dX6_relate_171 ?_
        refine lv_iload_n hx hb dX6_relate_174 rfl (lv_at hl 1 rfl) ?_
        refine lv_lconst (v := 0) hx hb dX6_relate_175 (by decide) ?_
        refine ckE hf (fun h176 hf => ?_)
        refine va_last hx hb hK.1 hP hD hS 7 1 rfl rfl (inB_in h176) dX6_relate_176 (fun H locs hP hD hS => ?_)
        have hP : va_P D vwCl [(aF, .inr (6, [.int F_lines, .ref aF_kinds, .ref aF_vs, .ref aF_ws, .ref aF_roles, .ref aF_partner, .int F_model, .ref aF_lineOf, .ref aF_rank, .ref aF_behind, .ref aF_before, .ref aF_ways, .int F_inputs, .ref aF_inputOf, .int F_size, .ref aF_answer, .int F_hints, .int F_hasRun, .ref aF_values, .int F_printedMany, .ref aF_printedRow, .ref aF_wasValues, .ref aF_wasPrinted, .ref aF_due, .int F_keptBits, .int F_keptMany, .int F_takenMany, .ref aF_takenPlace, .ref aF_against, .int F_change, .int F_who, .int F_where, .long F_h])), (aF_kinds, eI cI 16 F_kinds), (aF_vs, eI cI 16 F_vs), (aF_ws, eI cI 16 F_ws), (aF_lineOf, eI cI 12 F_lineOf), (aF_behind, eI cI 12 F_behind), (aF_before, eI cI 12 F_before), (aF_ways, eJ cJ 4096 (vp_updL F_ways (x2).toNatClampNeg (0 : Int64)))] H := hP
        have hD : va_D A [(aF, .inr (6, [.int F_lines, .ref aF_kinds, .ref aF_vs, .ref aF_ws, .ref aF_roles, .ref aF_partner, .int F_model, .ref aF_lineOf, .ref aF_rank, .ref aF_behind, .ref aF_before, .ref aF_ways, .int F_inputs, .ref aF_inputOf, .int F_size, .ref aF_answer, .int F_hints, .int F_hasRun, .ref aF_values, .int F_printedMany, .ref aF_printedRow, .ref aF_wasValues, .ref aF_wasPrinted, .ref aF_due, .int F_keptBits, .int F_keptMany, .int F_takenMany, .ref aF_takenPlace, .ref aF_against, .int F_change, .int F_who, .int F_where, .long F_h])), (aF_kinds, eI cI 16 F_kinds), (aF_vs, eI cI 16 F_vs), (aF_ws, eI cI 16 F_ws), (aF_lineOf, eI cI 12 F_lineOf), (aF_behind, eI cI 12 F_behind), (aF_before, eI cI 12 F_before), (aF_ways, eJ cJ 4096 (vp_updL F_ways (x2).toNatClampNeg (0 : Int64)))] := hD
        refine lv_iconst (v := (0 : Int32)) hx hb dX6_relate_177 (by decide) ?_
        refine lv_istore_n (lv' := [(3, .int (0 : Int32)), (0, .ref aF), (2, .int x2)]) hx hb dX6_relate_178 rfl hl (by decide) rfl (fun ls hl => ?_)
        exact b_179 (fX6_relate_h166  n) ih FU x2 (0 : Int32) F_behind F_before (vp_updL F_ways (x2).toNatClampNeg (0 : Int64)) hf _ _ _ hP hD hS (lv_sub hl [1, 2, 0] rfl)
  have b_99 : ∀ (k82 : Int32 → Int32 → (Nat → Int32) → (Nat → Int32) → (Nat → Int32) → (Nat → Int32) → (Nat → Int32) → (Nat → Int32) → (Nat → Int64) → Option ((Nat → Int32) × (Nat → Int32) × (Nat → Int64))) (hk82 : ∀ (x1 : Int32) (F_behind : (Nat → Int32)) (F_before : (Nat → Int32)) (F_ways : (Nat → Int64)), k82 x1 F_model F_kinds F_vs F_ws F_lineOf F_behind F_before F_ways = some out → ∀ (H : Heap) (locs : List Loc) (ls : Array Slot), va_P D vwCl [(aF, .inr (6, [.int F_lines, .ref aF_kinds, .ref aF_vs, .ref aF_ws, .ref aF_roles, .ref aF_partner, .int F_model, .ref aF_lineOf, .ref aF_rank, .ref aF_behind, .ref aF_before, .ref aF_ways, .int F_inputs, .ref aF_inputOf, .int F_size, .ref aF_answer, .int F_hints, .int F_hasRun, .ref aF_values, .int F_printedMany, .ref aF_printedRow, .ref aF_wasValues, .ref aF_wasPrinted, .ref aF_due, .int F_keptBits, .int F_keptMany, .int F_takenMany, .ref aF_takenPlace, .ref aF_against, .int F_change, .int F_who, .int F_where, .long F_h])), (aF_kinds, eI cI 16 F_kinds), (aF_vs, eI cI 16 F_vs), (aF_ws, eI cI 16 F_ws), (aF_lineOf, eI cI 12 F_lineOf), (aF_behind, eI cI 12 F_behind), (aF_before, eI cI 12 F_before), (aF_ways, eJ cJ 4096 F_ways)] H → va_D A [(aF, .inr (6, [.int F_lines, .ref aF_kinds, .ref aF_vs, .ref aF_ws, .ref aF_roles, .ref aF_partner, .int F_model, .ref aF_lineOf, .ref aF_rank, .ref aF_behind, .ref aF_before, .ref aF_ways, .int F_inputs, .ref aF_inputOf, .int F_size, .ref aF_answer, .int F_hints, .int F_hasRun, .ref aF_values, .int F_printedMany, .ref aF_printedRow, .ref aF_wasValues, .ref aF_wasPrinted, .ref aF_due, .int F_keptBits, .int F_keptMany, .int F_takenMany, .ref aF_takenPlace, .ref aF_against, .int F_change, .int F_who, .int F_where, .long F_h])), (aF_kinds, eI cI 16 F_kinds), (aF_vs, eI cI 16 F_vs), (aF_ws, eI cI 16 F_ws), (aF_lineOf, eI cI 12 F_lineOf), (aF_behind, eI cI 12 F_behind), (aF_before, eI cI 12 F_before), (aF_ways, eJ cJ 4096 F_ways)] → va_S A s.heap H locs → lv_has ls 4 [(0, .ref aF), (1, .int x1)] → W p l e (headSpec wsX6_relate { frames := 2, cells := 0, slots := 0, locals := 47 }).room s m ([.ref aF] : List Value).toArray below meth c H locs 0 0 QQ (F0 m 82 ls [])) (n : Nat), ∀ (x1 : Int32) (x2 : Int32) (F_behind : (Nat → Int32)) (F_before : (Nat → Int32)) (F_ways : (Nat → Int64)), fX6_relate_h99 k82 n x1 x2 F_model F_kinds F_vs F_ws F_lineOf F_behind F_before F_ways = some out → ∀ (H : Heap) (locs : List Loc) (ls : Array Slot), va_P D vwCl [(aF, .inr (6, [.int F_lines, .ref aF_kinds, .ref aF_vs, .ref aF_ws, .ref aF_roles, .ref aF_partner, .int F_model, .ref aF_lineOf, .ref aF_rank, .ref aF_behind, .ref aF_before, .ref aF_ways, .int F_inputs, .ref aF_inputOf, .int F_size, .ref aF_answer, .int F_hints, .int F_hasRun, .ref aF_values, .int F_printedMany, .ref aF_printedRow, .ref aF_wasValues, .ref aF_wasPrinted, .ref aF_due, .int F_keptBits, .int F_keptMany, .int F_takenMany, .ref aF_takenPlace, .ref aF_against, .int F_change, .int F_who, .int F_where, .long F_h])), (aF_kinds, eI cI 16 F_kinds), (aF_vs, eI cI 16 F_vs), (aF_ws, eI cI 16 F_ws), (aF_lineOf, eI cI 12 F_lineOf), (aF_behind, eI cI 12 F_behind), (aF_before, eI cI 12 F_before), (aF_ways, eJ cJ 4096 F_ways)] H → va_D A [(aF, .inr (6, [.int F_lines, .ref aF_kinds, .ref aF_vs, .ref aF_ws, .ref aF_roles, .ref aF_partner, .int F_model, .ref aF_lineOf, .ref aF_rank, .ref aF_behind, .ref aF_before, .ref aF_ways, .int F_inputs, .ref aF_inputOf, .int F_size, .ref aF_answer, .int F_hints, .int F_hasRun, .ref aF_values, .int F_printedMany, .ref aF_printedRow, .ref aF_wasValues, .ref aF_wasPrinted, .ref aF_due, .int F_keptBits, .int F_keptMany, .int F_takenMany, .ref aF_takenPlace, .ref aF_against, .int F_change, .int F_who, .int F_where, .long F_h])), (aF_kinds, eI cI 16 F_kinds), (aF_vs, eI cI 16 F_vs), (aF_ws, eI cI 16 F_ws), (aF_lineOf, eI cI 12 F_lineOf), (aF_behind, eI cI 12 F_behind), (aF_before, eI cI 12 F_before), (aF_ways, eJ cJ 4096 F_ways)] → va_S A s.heap H locs → lv_has ls 4 [(0, .ref aF), (1, .int x1), (2, .int x2)] → W p l e (headSpec wsX6_relate { frames := 2, cells := 0, slots := 0, locals := 47 }).room s m ([.ref aF] : List Value).toArray below meth c H locs 0 0 QQ (F0 m 99 ls []) := by
    intro k82 hk82 n
    induction n with
    | zero => intro x1 x2 F_behind F_before F_ways hf; exact nomatch (show (none : Option ((Nat → Int32) × (Nat → Int32) × (Nat → Int64))) = some out from hf)
    | succ n ih =>
      intro x1 x2 F_behind F_before F_ways hf H locs ls hP hD hS hl
      replace hf : uX6_relate_h99 k82 (fX6_relate_h99 k82 n) x1 x2 F_model F_kinds F_vs F_ws F_lineOf F_behind F_before F_ways = some out := hf
      unfold uX6_relate_h99 at hf
      refine lv_iload_n hx hb dX6_relate_99 rfl (lv_at hl 2 rfl) ?_
      refine lv_iload_n hx hb dX6_relate_100 rfl (lv_at hl 1 rfl) ?_
      refine lv_icmp_ge (tgt := 140) hx hb dX6_relate_101 (by decide) (fun c101 => ?_) (fun c101 => ?_)
      · have hf := ifp hf c101
        refine lv_iinc (v := (x1 + (1 : Int32))) (lv' := [(1, .int (x1 + (1 : Int32))), (0, .ref aF), (2, .int x2)]) hx hb dX6_relate_140 hl (k := 1) rfl rfl (by decide) rfl (fun ls hl => ?_)
        refine lv_goto (tgt := 82) hx hb dX6_relate_143 (by decide) ?_
        exact hk82 (x1 + (1 : Int32)) F_behind F_before F_ways hf _ _ _ hP hD hS (lv_sub hl [1, 0] rfl)
      · have hf := ifn hf c101
        refine lv_aload_n hx hb dX6_relate_104 rfl (lv_at hl 0 rfl) ?_
        refine va_get (D := D) (ci := 6) (v := .ref aF_before) (C := RX6) (T := TX6) (N := 33) hx hb hts iX6 hown hK.1 hP 0 rfl rfl 10 (by decide) k34 (fun _ h9 => h9) rfl dX6_relate_105 ?_
        refine lv_iload_n hx hb dX6_relate_108 rfl (lv_at hl 1 rfl) ?_
        refine lv_dup2_11 hx hb dX6_relate_109 rfl rfl ?_
        refine ckE hf (fun h110 hf => ?_)
        refine va_iald hx hb hK.1 hP 6 0 rfl rfl (inB_in h110) dX6_relate_110 ?_
        refine lv_aload_n hx hb dX6_relate_111 rfl (lv_at hl 0 rfl) ?_
        refine va_get (D := D) (ci := 6) (v := .ref aF_behind) (C := RX6) (T := TX6) (N := 33) hx hb hts iX6 hown hK.1 hP 0 rfl rfl 9 (by decide) k31 (fun _ h9 => h9) rfl dX6_relate_112 ?_
        refine lv_iload_n hx hb dX6_relate_115 rfl (lv_at hl 2 rfl) ?_
        refine ckE hf (fun h116 hf => ?_)
        refine va_iald hx hb hK.1 hP 5 0 rfl rfl (inB_in h116) dX6_relate_116 ?_
        refine lv_iload_n hx hb dX6_relate_117 rfl (lv_at hl 1 rfl) ?_
        refine lv_ishr hx hb dX6_relate_118 ?_
        refine lv_iconst (v := (1 : Int32)) hx hb dX6_relate_119 (by decide) ?_
        refine lv_iand hx hb dX6_relate_120 ?_
        refine lv_iconst (v := (1 : Int32)) hx hb dX6_relate_121 (by decide) ?_
        refine lv_icmp_ne (tgt := 131) hx hb dX6_relate_122 (by decide) (fun c122 => ?_) (fun c122 => ?_)
        · have hf := ifn hf c122
          refine lv_iconst (v := (0 : Int32)) hx hb dX6_relate_131 (by decide) ?_
          refine lv_ior hx hb dX6_relate_132 ?_
          refine ckE hf (fun h133 hf => ?_)
          refine va_iast hx hb hK.1 hP hD hS 6 0 rfl rfl (inB_in h133) dX6_relate_133 (fun H locs hP hD hS => ?_)
          have hP : va_P D vwCl [(aF, .inr (6, [.int F_lines, .ref aF_kinds, .ref aF_vs, .ref aF_ws, .ref aF_roles, .ref aF_partner, .int F_model, .ref aF_lineOf, .ref aF_rank, .ref aF_behind, .ref aF_before, .ref aF_ways, .int F_inputs, .ref aF_inputOf, .int F_size, .ref aF_answer, .int F_hints, .int F_hasRun, .ref aF_values, .int F_printedMany, .ref aF_printedRow, .ref aF_wasValues, .ref aF_wasPrinted, .ref aF_due, .int F_keptBits, .int F_keptMany, .int F_takenMany, .ref aF_takenPlace, .ref aF_against, .int F_change, .int F_who, .int F_where, .long F_h])), (aF_kinds, eI cI 16 F_kinds), (aF_vs, eI cI 16 F_vs), (aF_ws, eI cI 16 F_ws), (aF_lineOf, eI cI 12 F_lineOf), (aF_behind, eI cI 12 F_behind), (aF_before, eI cI 12 (upd F_before (x1).toNatClampNeg ((F_before (x1).toNatClampNeg) ||| (0 : Int32)))), (aF_ways, eJ cJ 4096 F_ways)] H := hP
          have hD : va_D A [(aF, .inr (6, [.int F_lines, .ref aF_kinds, .ref aF_vs, .ref aF_ws, .ref aF_roles, .ref aF_partner, .int F_model, .ref aF_lineOf, .ref aF_rank, .ref aF_behind, .ref aF_before, .ref aF_ways, .int F_inputs, .ref aF_inputOf, .int F_size, .ref aF_answer, .int F_hints, .int F_hasRun, .ref aF_values, .int F_printedMany, .ref aF_printedRow, .ref aF_wasValues, .ref aF_wasPrinted, .ref aF_due, .int F_keptBits, .int F_keptMany, .int F_takenMany, .ref aF_takenPlace, .ref aF_against, .int F_change, .int F_who, .int F_where, .long F_h])), (aF_kinds, eI cI 16 F_kinds), (aF_vs, eI cI 16 F_vs), (aF_ws, eI cI 16 F_ws), (aF_lineOf, eI cI 12 F_lineOf), (aF_behind, eI cI 12 F_behind), (aF_before, eI cI 12 (upd F_before (x1).toNatClampNeg ((F_before (x1).toNatClampNeg) ||| (0 : Int32)))), (aF_ways, eJ cJ 4096 F_ways)] := hD
          refine lv_iinc (v := (x2 + (1 : Int32))) (lv' := [(2, .int (x2 + (1 : Int32))), (0, .ref aF), (1, .int x1)]) hx hb dX6_relate_134 hl (k := 2) rfl rfl (by decide) rfl (fun ls hl => ?_)
          refine lv_goto (tgt := 99) hx hb dX6_relate_137 (by decide) ?_
          exact ih x1 (x2 + (1 : Int32)) F_behind (upd F_before (x1).toNatClampNeg ((F_before (x1).toNatClampNeg) ||| (0 : Int32))) F_ways hf _ _ _ hP hD hS (lv_sub hl [1, 2, 0] rfl)
        · have hf := ifp hf c122
          refine lv_iconst (v := (1 : Int32)) hx hb dX6_relate_125 (by decide) ?_
          refine lv_iload_n hx hb dX6_relate_126 rfl (lv_at hl 2 rfl) ?_
          refine lv_ishl hx hb dX6_relate_127 ?_
          refine lv_goto (tgt := 132) hx hb dX6_relate_128 (by decide) ?_
          refine lv_ior hx hb dX6_relate_132 ?_
          refine ckE hf (fun h133 hf => ?_)
          refine va_iast hx hb hK.1 hP hD hS 6 0 rfl rfl (inB_in h133) dX6_relate_133 (fun H locs hP hD hS => ?_)
          have hP : va_P D vwCl [(aF, .inr (6, [.int F_lines, .ref aF_kinds, .ref aF_vs, .ref aF_ws, .ref aF_roles, .ref aF_partner, .int F_model, .ref aF_lineOf, .ref aF_rank, .ref aF_behind, .ref aF_before, .ref aF_ways, .int F_inputs, .ref aF_inputOf, .int F_size, .ref aF_answer, .int F_hints, .int F_hasRun, .ref aF_values, .int F_printedMany, .ref aF_printedRow, .ref aF_wasValues, .ref aF_wasPrinted, .ref aF_due, .int F_keptBits, .int F_keptMany, .int F_takenMany, .ref aF_takenPlace, .ref aF_against, .int F_change, .int F_who, .int F_where, .long F_h])), (aF_kinds, eI cI 16 F_kinds), (aF_vs, eI cI 16 F_vs), (aF_ws, eI cI 16 F_ws), (aF_lineOf, eI cI 12 F_lineOf), (aF_behind, eI cI 12 F_behind), (aF_before, eI cI 12 (upd F_before (x1).toNatClampNeg ((F_before (x1).toNatClampNeg) ||| ((1 : Int32) <<< (x2 &&& 31))))), (aF_ways, eJ cJ 4096 F_ways)] H := hP
          have hD : va_D A [(aF, .inr (6, [.int F_lines, .ref aF_kinds, .ref aF_vs, .ref aF_ws, .ref aF_roles, .ref aF_partner, .int F_model, .ref aF_lineOf, .ref aF_rank, .ref aF_behind, .ref aF_before, .ref aF_ways, .int F_inputs, .ref aF_inputOf, .int F_size, .ref aF_answer, .int F_hints, .int F_hasRun, .ref aF_values, .int F_printedMany, .ref aF_printedRow, .ref aF_wasValues, .ref aF_wasPrinted, .ref aF_due, .int F_keptBits, .int F_keptMany, .int F_takenMany, .ref aF_takenPlace, .ref aF_against, .int F_change, .int F_who, .int F_where, .long F_h])), (aF_kinds, eI cI 16 F_kinds), (aF_vs, eI cI 16 F_vs), (aF_ws, eI cI 16 F_ws), (aF_lineOf, eI cI 12 F_lineOf), (aF_behind, eI cI 12 F_behind), (aF_before, eI cI 12 (upd F_before (x1).toNatClampNeg ((F_before (x1).toNatClampNeg) ||| ((1 : Int32) <<< (x2 &&& 31))))), (aF_ways, eJ cJ 4096 F_ways)] := hD
          refine lv_iinc (v := (x2 + (1 : Int32))) (lv' := [(2, .int (x2 + (1 : Int32))), (0, .ref aF), (1, .int x1)]) hx hb dX6_relate_134 hl (k := 2) rfl rfl (by decide) rfl (fun ls hl => ?_)
          refine lv_goto (tgt := 99) hx hb dX6_relate_137 (by decide) ?_
          exact ih x1 (x2 + (1 : Int32)) F_behind (upd F_before (x1).toNatClampNeg ((F_before (x1).toNatClampNeg) ||| ((1 : Int32) <<< (x2 &&& 31)))) F_ways hf _ _ _ hP hD hS (lv_sub hl [1, 2, 0] rfl)
  have b_82 : ∀ (n : Nat), ∀ (x1 : Int32) (F_behind : (Nat → Int32)) (F_before : (Nat → Int32)) (F_ways : (Nat → Int64)), fX6_relate_h82  n x1 F_model F_kinds F_vs F_ws F_lineOf F_behind F_before F_ways = some out → ∀ (H : Heap) (locs : List Loc) (ls : Array Slot), va_P D vwCl [(aF, .inr (6, [.int F_lines, .ref aF_kinds, .ref aF_vs, .ref aF_ws, .ref aF_roles, .ref aF_partner, .int F_model, .ref aF_lineOf, .ref aF_rank, .ref aF_behind, .ref aF_before, .ref aF_ways, .int F_inputs, .ref aF_inputOf, .int F_size, .ref aF_answer, .int F_hints, .int F_hasRun, .ref aF_values, .int F_printedMany, .ref aF_printedRow, .ref aF_wasValues, .ref aF_wasPrinted, .ref aF_due, .int F_keptBits, .int F_keptMany, .int F_takenMany, .ref aF_takenPlace, .ref aF_against, .int F_change, .int F_who, .int F_where, .long F_h])), (aF_kinds, eI cI 16 F_kinds), (aF_vs, eI cI 16 F_vs), (aF_ws, eI cI 16 F_ws), (aF_lineOf, eI cI 12 F_lineOf), (aF_behind, eI cI 12 F_behind), (aF_before, eI cI 12 F_before), (aF_ways, eJ cJ 4096 F_ways)] H → va_D A [(aF, .inr (6, [.int F_lines, .ref aF_kinds, .ref aF_vs, .ref aF_ws, .ref aF_roles, .ref aF_partner, .int F_model, .ref aF_lineOf, .ref aF_rank, .ref aF_behind, .ref aF_before, .ref aF_ways, .int F_inputs, .ref aF_inputOf, .int F_size, .ref aF_answer, .int F_hints, .int F_hasRun, .ref aF_values, .int F_printedMany, .ref aF_printedRow, .ref aF_wasValues, .ref aF_wasPrinted, .ref aF_due, .int F_keptBits, .int F_keptMany, .int F_takenMany, .ref aF_takenPlace, .ref aF_against, .int F_change, .int F_who, .int F_where, .long F_h])), (aF_kinds, eI cI 16 F_kinds), (aF_vs, eI cI 16 F_vs), (aF_ws, eI cI 16 F_ws), (aF_lineOf, eI cI 12 F_lineOf), (aF_behind, eI cI 12 F_behind), (aF_before, eI cI 12 F_before), (aF_ways, eJ cJ 4096 F_ways)] → va_S A s.heap H locs → lv_has ls 4 [(0, .ref aF), (1, .int x1)] → W p l e (headSpec wsX6_relate { frames := 2, cells := 0, slots := 0, locals := 47 }).room s m ([.ref aF] : List Value).toArray below meth c H locs 0 0 QQ (F0 m 82 ls []) := by
    intro  n
    induction n with
    | zero => intro x1 F_behind F_before F_ways hf; exact nomatch (show (none : Option ((Nat → Int32) × (Nat → Int32) × (Nat → Int64))) = some out from hf)
    | succ n ih =>
      intro x1 F_behind F_before F_ways hf H locs ls hP hD hS hl
      replace hf : uX6_relate_h82  (fX6_relate_h82  n) x1 F_model F_kinds F_vs F_ws F_lineOf F_behind F_before F_ways = some out := hf
      unfold uX6_relate_h82 at hf
      refine lv_iload_n hx hb dX6_relate_82 rfl (lv_at hl 1 rfl) ?_
      refine lv_aload_n hx hb dX6_relate_83 rfl (lv_at hl 0 rfl) ?_
      refine va_get (D := D) (ci := 6) (v := .int F_model) (C := RX6) (T := TX6) (N := 33) hx hb hts iX6 hown hK.1 hP 0 rfl rfl 6 (by decide) k82 (fun _ h9 => h9) rfl dX6_relate_84 ?_
      refine lv_icmp_ge (tgt := 146) hx hb dX6_relate_87 (by decide) (fun c87 => ?_) (fun c87 => ?_)
      · have hf := ifp hf c87
        refine lv_iconst (v := (1 : Int32)) hx hb dX6_relate_146 (by decide) ?_
        refine lv_aload_n hx hb dX6_relate_147 rfl (lv_at hl 0 rfl) ?_
        refine va_get (D := D) (ci := 6) (v := .int F_model) (C := RX6) (T := TX6) (N := 33) hx hb hts iX6 hown hK.1 hP 0 rfl rfl 6 (by decide) k82 (fun _ h9 => h9) rfl dX6_relate_148 ?_
        refine lv_ishl hx hb dX6_relate_151 ?_
        refine lv_iconst (v := (1 : Int32)) hx hb dX6_relate_152 (by decide) ?_
        refine lv_isub hx hb dX6_relate_153 ?_
        refine lv_istore_n (lv' := [(1, .int (((1 : Int32) <<< (F_model &&& 31)) - (1 : Int32))), (0, .ref aF)]) hx hb dX6_relate_154 rfl hl (by decide) rfl (fun ls hl => ?_)
        refine lv_aload_n hx hb dX6_relate_155 rfl (lv_at hl 1 rfl) ?_
        refine va_get (D := D) (ci := 6) (v := .ref aF_ways) (C := RX6) (T := TX6) (N := 33) hx hb hts iX6 hown hK.1 hP 0 rfl rfl 11 (by decide) k37 (fun _ h9 => h9) rfl dX6_relate_156 ?_
        refine lv_iload_n hx hb dX6_relate_159 rfl (lv_at hl 0 rfl) ?_
        refine lv_lconst (v := 1) hx hb dX6_relate_160 (by decide) ?_
        refine ckE hf (fun h161 hf => ?_)
        refine va_last hx hb hK.1 hP hD hS 7 1 rfl rfl (inB_in h161) dX6_relate_161 (fun H locs hP hD hS => ?_)
        have hP : va_P D vwCl [(aF, .inr (6, [.int F_lines, .ref aF_kinds, .ref aF_vs, .ref aF_ws, .ref aF_roles, .ref aF_partner, .int F_model, .ref aF_lineOf, .ref aF_rank, .ref aF_behind, .ref aF_before, .ref aF_ways, .int F_inputs, .ref aF_inputOf, .int F_size, .ref aF_answer, .int F_hints, .int F_hasRun, .ref aF_values, .int F_printedMany, .ref aF_printedRow, .ref aF_wasValues, .ref aF_wasPrinted, .ref aF_due, .int F_keptBits, .int F_keptMany, .int F_takenMany, .ref aF_takenPlace, .ref aF_against, .int F_change, .int F_who, .int F_where, .long F_h])), (aF_kinds, eI cI 16 F_kinds), (aF_vs, eI cI 16 F_vs), (aF_ws, eI cI 16 F_ws), (aF_lineOf, eI cI 12 F_lineOf), (aF_behind, eI cI 12 F_behind), (aF_before, eI cI 12 F_before), (aF_ways, eJ cJ 4096 (vp_updL F_ways ((((1 : Int32) <<< (F_model &&& 31)) - (1 : Int32))).toNatClampNeg (1 : Int64)))] H := hP
        have hD : va_D A [(aF, .inr (6, [.int F_lines, .ref aF_kinds, .ref aF_vs, .ref aF_ws, .ref aF_roles, .ref aF_partner, .int F_model, .ref aF_lineOf, .ref aF_rank, .ref aF_behind, .ref aF_before, .ref aF_ways, .int F_inputs, .ref aF_inputOf, .int F_size, .ref aF_answer, .int F_hints, .int F_hasRun, .ref aF_values, .int F_printedMany, .ref aF_printedRow, .ref aF_wasValues, .ref aF_wasPrinted, .ref aF_due, .int F_keptBits, .int F_keptMany, .int F_takenMany, .ref aF_takenPlace, .ref aF_against, .int F_change, .int F_who, .int F_where, .long F_h])), (aF_kinds, eI cI 16 F_kinds), (aF_vs, eI cI 16 F_vs), (aF_ws, eI cI 16 F_ws), (aF_lineOf, eI cI 12 F_lineOf), (aF_behind, eI cI 12 F_behind), (aF_before, eI cI 12 F_before), (aF_ways, eJ cJ 4096 (vp_updL F_ways ((((1 : Int32) <<< (F_model &&& 31)) - (1 : Int32))).toNatClampNeg (1 : Int64)))] := hD
        refine lv_iload_n hx hb dX6_relate_162 rfl (lv_at hl 0 rfl) ?_
        refine lv_iconst (v := (1 : Int32)) hx hb dX6_relate_163 (by decide) ?_
        refine lv_isub hx hb dX6_relate_164 ?_
        refine lv_istore_n (lv' := [(2, .int ((((1 : Int32) <<< (F_model &&& 31)) - (1 : Int32)) - (1 : Int32))), (1, .int (((1 : Int32) <<< (F_model &&& 31)) - (1 : Int32))), (0, .ref aF)]) hx hb dX6_relate_165 rfl hl (by decide) rfl (fun ls hl => ?_)
        exact b_166 FU ((((1 : Int32) <<< (F_model &&& 31)) - (1 : Int32)) - (1 : Int32)) F_behind F_before (vp_updL F_ways ((((1 : Int32) <<< (F_model &&& 31)) - (1 : Int32))).toNatClampNeg (1 : Int64)) hf _ _ _ hP hD hS (lv_sub hl [2, 0] rfl)
      · have hf := ifn hf c87
        refine lv_aload_n hx hb dX6_relate_90 rfl (lv_at hl 0 rfl) ?_
        refine va_get (D := D) (ci := 6) (v := .ref aF_before) (C := RX6) (T := TX6) (N := 33) hx hb hts iX6 hown hK.1 hP 0 rfl rfl 10 (by decide) k34 (fun _ h9 => h9) rfl dX6_relate_91 ?_
        refine lv_iload_n hx hb dX6_relate_94 rfl (lv_at hl 1 rfl) ?_
        refine lv_iconst (v := (0 : Int32)) hx hb dX6_relate_95 (by decide) ?_
        refine ckE hf (fun h96 hf => ?_)
        refine va_iast hx hb hK.1 hP hD hS 6 0 rfl rfl (inB_in h96) dX6_relate_96 (fun H locs hP hD hS => ?_)
        have hP : va_P D vwCl [(aF, .inr (6, [.int F_lines, .ref aF_kinds, .ref aF_vs, .ref aF_ws, .ref aF_roles, .ref aF_partner, .int F_model, .ref aF_lineOf, .ref aF_rank, .ref aF_behind, .ref aF_before, .ref aF_ways, .int F_inputs, .ref aF_inputOf, .int F_size, .ref aF_answer, .int F_hints, .int F_hasRun, .ref aF_values, .int F_printedMany, .ref aF_printedRow, .ref aF_wasValues, .ref aF_wasPrinted, .ref aF_due, .int F_keptBits, .int F_keptMany, .int F_takenMany, .ref aF_takenPlace, .ref aF_against, .int F_change, .int F_who, .int F_where, .long F_h])), (aF_kinds, eI cI 16 F_kinds), (aF_vs, eI cI 16 F_vs), (aF_ws, eI cI 16 F_ws), (aF_lineOf, eI cI 12 F_lineOf), (aF_behind, eI cI 12 F_behind), (aF_before, eI cI 12 (upd F_before (x1).toNatClampNeg (0 : Int32))), (aF_ways, eJ cJ 4096 F_ways)] H := hP
        have hD : va_D A [(aF, .inr (6, [.int F_lines, .ref aF_kinds, .ref aF_vs, .ref aF_ws, .ref aF_roles, .ref aF_partner, .int F_model, .ref aF_lineOf, .ref aF_rank, .ref aF_behind, .ref aF_before, .ref aF_ways, .int F_inputs, .ref aF_inputOf, .int F_size, .ref aF_answer, .int F_hints, .int F_hasRun, .ref aF_values, .int F_printedMany, .ref aF_printedRow, .ref aF_wasValues, .ref aF_wasPrinted, .ref aF_due, .int F_keptBits, .int F_keptMany, .int F_takenMany, .ref aF_takenPlace, .ref aF_against, .int F_change, .int F_who, .int F_where, .long F_h])), (aF_kinds, eI cI 16 F_kinds), (aF_vs, eI cI 16 F_vs), (aF_ws, eI cI 16 F_ws), (aF_lineOf, eI cI 12 F_lineOf), (aF_behind, eI cI 12 F_behind), (aF_before, eI cI 12 (upd F_before (x1).toNatClampNeg (0 : Int32))), (aF_ways, eJ cJ 4096 F_ways)] := hD
        refine lv_iconst (v := (0 : Int32)) hx hb dX6_relate_97 (by decide) ?_
        refine lv_istore_n (lv' := [(2, .int (0 : Int32)), (0, .ref aF), (1, .int x1)]) hx hb dX6_relate_98 rfl hl (by decide) rfl (fun ls hl => ?_)
        exact b_99 (fX6_relate_h82  n) ih FU x1 (0 : Int32) F_behind (upd F_before (x1).toNatClampNeg (0 : Int32)) F_ways hf _ _ _ hP hD hS (lv_sub hl [1, 2, 0] rfl)
  have b_22 : ∀ (k7 : Int32 → Int32 → (Nat → Int32) → (Nat → Int32) → (Nat → Int32) → (Nat → Int32) → (Nat → Int32) → (Nat → Int32) → (Nat → Int64) → Option ((Nat → Int32) × (Nat → Int32) × (Nat → Int64))) (hk7 : ∀ (x1 : Int32) (F_behind : (Nat → Int32)) (F_before : (Nat → Int32)) (F_ways : (Nat → Int64)), k7 x1 F_model F_kinds F_vs F_ws F_lineOf F_behind F_before F_ways = some out → ∀ (H : Heap) (locs : List Loc) (ls : Array Slot), va_P D vwCl [(aF, .inr (6, [.int F_lines, .ref aF_kinds, .ref aF_vs, .ref aF_ws, .ref aF_roles, .ref aF_partner, .int F_model, .ref aF_lineOf, .ref aF_rank, .ref aF_behind, .ref aF_before, .ref aF_ways, .int F_inputs, .ref aF_inputOf, .int F_size, .ref aF_answer, .int F_hints, .int F_hasRun, .ref aF_values, .int F_printedMany, .ref aF_printedRow, .ref aF_wasValues, .ref aF_wasPrinted, .ref aF_due, .int F_keptBits, .int F_keptMany, .int F_takenMany, .ref aF_takenPlace, .ref aF_against, .int F_change, .int F_who, .int F_where, .long F_h])), (aF_kinds, eI cI 16 F_kinds), (aF_vs, eI cI 16 F_vs), (aF_ws, eI cI 16 F_ws), (aF_lineOf, eI cI 12 F_lineOf), (aF_behind, eI cI 12 F_behind), (aF_before, eI cI 12 F_before), (aF_ways, eJ cJ 4096 F_ways)] H → va_D A [(aF, .inr (6, [.int F_lines, .ref aF_kinds, .ref aF_vs, .ref aF_ws, .ref aF_roles, .ref aF_partner, .int F_model, .ref aF_lineOf, .ref aF_rank, .ref aF_behind, .ref aF_before, .ref aF_ways, .int F_inputs, .ref aF_inputOf, .int F_size, .ref aF_answer, .int F_hints, .int F_hasRun, .ref aF_values, .int F_printedMany, .ref aF_printedRow, .ref aF_wasValues, .ref aF_wasPrinted, .ref aF_due, .int F_keptBits, .int F_keptMany, .int F_takenMany, .ref aF_takenPlace, .ref aF_against, .int F_change, .int F_who, .int F_where, .long F_h])), (aF_kinds, eI cI 16 F_kinds), (aF_vs, eI cI 16 F_vs), (aF_ws, eI cI 16 F_ws), (aF_lineOf, eI cI 12 F_lineOf), (aF_behind, eI cI 12 F_behind), (aF_before, eI cI 12 F_before), (aF_ways, eJ cJ 4096 F_ways)] → va_S A s.heap H locs → lv_has ls 4 [(0, .ref aF), (1, .int x1)] → W p l e (headSpec wsX6_relate { frames := 2, cells := 0, slots := 0, locals := 47 }).room s m ([.ref aF] : List Value).toArray below meth c H locs 0 0 QQ (F0 m 7 ls [])) (n : Nat), ∀ (x1 : Int32) (x2 : Int32) (F_behind : (Nat → Int32)) (F_before : (Nat → Int32)) (F_ways : (Nat → Int64)), fX6_relate_h22 k7 n x1 x2 F_model F_kinds F_vs F_ws F_lineOf F_behind F_before F_ways = some out → ∀ (H : Heap) (locs : List Loc) (ls : Array Slot), va_P D vwCl [(aF, .inr (6, [.int F_lines, .ref aF_kinds, .ref aF_vs, .ref aF_ws, .ref aF_roles, .ref aF_partner, .int F_model, .ref aF_lineOf, .ref aF_rank, .ref aF_behind, .ref aF_before, .ref aF_ways, .int F_inputs, .ref aF_inputOf, .int F_size, .ref aF_answer, .int F_hints, .int F_hasRun, .ref aF_values, .int F_printedMany, .ref aF_printedRow, .ref aF_wasValues, .ref aF_wasPrinted, .ref aF_due, .int F_keptBits, .int F_keptMany, .int F_takenMany, .ref aF_takenPlace, .ref aF_against, .int F_change, .int F_who, .int F_where, .long F_h])), (aF_kinds, eI cI 16 F_kinds), (aF_vs, eI cI 16 F_vs), (aF_ws, eI cI 16 F_ws), (aF_lineOf, eI cI 12 F_lineOf), (aF_behind, eI cI 12 F_behind), (aF_before, eI cI 12 F_before), (aF_ways, eJ cJ 4096 F_ways)] H → va_D A [(aF, .inr (6, [.int F_lines, .ref aF_kinds, .ref aF_vs, .ref aF_ws, .ref aF_roles, .ref aF_partner, .int F_model, .ref aF_lineOf, .ref aF_rank, .ref aF_behind, .ref aF_before, .ref aF_ways, .int F_inputs, .ref aF_inputOf, .int F_size, .ref aF_answer, .int F_hints, .int F_hasRun, .ref aF_values, .int F_printedMany, .ref aF_printedRow, .ref aF_wasValues, .ref aF_wasPrinted, .ref aF_due, .int F_keptBits, .int F_keptMany, .int F_takenMany, .ref aF_takenPlace, .ref aF_against, .int F_change, .int F_who, .int F_where, .long F_h])), (aF_kinds, eI cI 16 F_kinds), (aF_vs, eI cI 16 F_vs), (aF_ws, eI cI 16 F_ws), (aF_lineOf, eI cI 12 F_lineOf), (aF_behind, eI cI 12 F_behind), (aF_before, eI cI 12 F_before), (aF_ways, eJ cJ 4096 F_ways)] → va_S A s.heap H locs → lv_has ls 4 [(0, .ref aF), (1, .int x1), (2, .int x2)] → W p l e (headSpec wsX6_relate { frames := 2, cells := 0, slots := 0, locals := 47 }).room s m ([.ref aF] : List Value).toArray below meth c H locs 0 0 QQ (F0 m 22 ls []) := by
    intro k7 hk7 n
    induction n with
    | zero => intro x1 x2 F_behind F_before F_ways hf; exact nomatch (show (none : Option ((Nat → Int32) × (Nat → Int32) × (Nat → Int64))) = some out from hf)
    | succ n ih =>
      intro x1 x2 F_behind F_before F_ways hf H locs ls hP hD hS hl
      replace hf : uX6_relate_h22 k7 (fX6_relate_h22 k7 n) x1 x2 F_model F_kinds F_vs F_ws F_lineOf F_behind F_before F_ways = some out := hf
      unfold uX6_relate_h22 at hf
      refine lv_iload_n hx hb dX6_relate_22 rfl (lv_at hl 2 rfl) ?_
      refine lv_aload_n hx hb dX6_relate_23 rfl (lv_at hl 0 rfl) ?_
      refine va_get (D := D) (ci := 6) (v := .int F_model) (C := RX6) (T := TX6) (N := 33) hx hb hts iX6 hown hK.1 hP 0 rfl rfl 6 (by decide) k82 (fun _ h9 => h9) rfl dX6_relate_24 ?_
      refine lv_icmp_ge (tgt := 74) hx hb dX6_relate_27 (by decide) (fun c27 => ?_) (fun c27 => ?_)
      · have hf := ifp hf c27
        refine lv_iinc (v := (x1 + (-1 : Int32))) (lv' := [(1, .int (x1 + (-1 : Int32))), (0, .ref aF), (2, .int x2)]) hx hb dX6_relate_74 hl (k := 1) rfl rfl (by decide) rfl (fun ls hl => ?_)
        refine lv_goto (tgt := 7) hx hb dX6_relate_77 (by decide) ?_
        exact hk7 (x1 + (-1 : Int32)) F_behind F_before F_ways hf _ _ _ hP hD hS (lv_sub hl [1, 0] rfl)
      · have hf := ifn hf c27
        refine lv_aload_n hx hb dX6_relate_30 rfl (lv_at hl 0 rfl) ?_
        refine lv_aload_n hx hb dX6_relate_31 rfl (lv_at hl 0 rfl) ?_
        refine va_get (D := D) (ci := 6) (v := .ref aF_lineOf) (C := RX6) (T := TX6) (N := 33) hx hb hts iX6 hown hK.1 hP 0 rfl rfl 7 (by decide) k25 (fun _ h9 => h9) rfl dX6_relate_32 ?_
        refine lv_iload_n hx hb dX6_relate_35 rfl (lv_at hl 1 rfl) ?_
        refine ckE hf (fun h36 hf => ?_)
        refine va_iald hx hb hK.1 hP 4 0 rfl rfl (inB_in h36) dX6_relate_36 ?_
        refine lv_aload_n hx hb dX6_relate_37 rfl (lv_at hl 0 rfl) ?_
        refine va_get (D := D) (ci := 6) (v := .ref aF_lineOf) (C := RX6) (T := TX6) (N := 33) hx hb hts iX6 hown hK.1 hP 0 rfl rfl 7 (by decide) k25 (fun _ h9 => h9) rfl dX6_relate_38 ?_
        refine lv_iload_n hx hb dX6_relate_41 rfl (lv_at hl 2 rfl) ?_
        refine ckE hf (fun h42 hf => ?_)
        refine va_iald hx hb hK.1 hP 4 0 rfl rfl (inB_in h42) dX6_relate_42 ?_
        refine bnd hf (fun o43 e43 hf => ?_)
        refine rdVi (As := [.int (F_lineOf (x1).toNatClampNeg), .int (F_lineOf (x2).toNatClampNeg)]) (rest := []) ⟨hx, hb, hml, hown, hts⟩ (tX6_touches l D cI cJ cG aF aF_kinds aF_vs aF_ws aF_roles aF_partner aF_lineOf aF_rank aF_behind aF_before aF_ways aF_inputOf aF_answer aF_values aF_printedRow aF_wasValues aF_wasPrinted aF_due aF_takenPlace aF_against H (F_lineOf (x1).toNatClampNeg) (F_lineOf (x2).toNatClampNeg) F_lines F_model F_inputs F_size F_hints F_hasRun F_printedMany F_keptBits F_keptMany F_takenMany F_change F_who F_where F_h F_kinds F_vs F_ws o43 e43) (cwV 2 hts gX6_relate_X6_touches rfl rfl rfl (by decide +kernel) ⟨Nat.le_of_ble_eq_true rfl, Nat.le_of_ble_eq_true rfl⟩) (va_recv (ci := 6) (q0 := 0) hK.1 hP rfl rfl) hK (hP.sub (ws' := [(aF, .inr (6, [.int F_lines, .ref aF_kinds, .ref aF_vs, .ref aF_ws, .ref aF_roles, .ref aF_partner, .int F_model, .ref aF_lineOf, .ref aF_rank, .ref aF_behind, .ref aF_before, .ref aF_ways, .int F_inputs, .ref aF_inputOf, .int F_size, .ref aF_answer, .int F_hints, .int F_hasRun, .ref aF_values, .int F_printedMany, .ref aF_printedRow, .ref aF_wasValues, .ref aF_wasPrinted, .ref aF_due, .int F_keptBits, .int F_keptMany, .int F_takenMany, .ref aF_takenPlace, .ref aF_against, .int F_change, .int F_who, .int F_where, .long F_h])), (aF_kinds, eI cI 16 F_kinds), (aF_vs, eI cI 16 F_vs), (aF_ws, eI cI 16 F_ws)]) [0, 1, 2, 3] rfl) rfl hl.1 rfl (lv_room (Nat.le_of_ble_eq_true rfl)) dX6_relate_43 ⟨Nat.le_of_ble_eq_true rfl, Nat.le_of_ble_eq_true rfl⟩ hS (fun locs hS => ?_)
        refine lv_if_eq (tgt := 68) hx hb dX6_relate_46 (by decide) (fun c46 => ?_) (fun c46 => ?_)
        · have hf := ifp hf c46
          refine lv_iinc (v := (x2 + (1 : Int32))) (lv' := [(2, .int (x2 + (1 : Int32))), (0, .ref aF), (1, .int x1)]) hx hb dX6_relate_68 hl (k := 2) rfl rfl (by decide) rfl (fun ls hl => ?_)
          refine lv_goto (tgt := 22) hx hb dX6_relate_71 (by decide) ?_
          exact ih x1 (x2 + (1 : Int32)) F_behind F_before F_ways hf _ _ _ hP hD hS (lv_sub hl [1, 2, 0] rfl)
        · have hf := ifn hf c46
          refine lv_aload_n hx hb dX6_relate_49 rfl (lv_at hl 0 rfl) ?_
          refine va_get (D := D) (ci := 6) (v := .ref aF_behind) (C := RX6) (T := TX6) (N := 33) hx hb hts iX6 hown hK.1 hP 0 rfl rfl 9 (by decide) k31 (fun _ h9 => h9) rfl dX6_relate_50 ?_
          refine lv_iload_n hx hb dX6_relate_53 rfl (lv_at hl 1 rfl) ?_
          refine lv_dup2_11 hx hb dX6_relate_54 rfl rfl ?_
          refine ckE hf (fun h55 hf => ?_)
          refine va_iald hx hb hK.1 hP 5 0 rfl rfl (inB_in h55) dX6_relate_55 ?_
          refine lv_iconst (v := (1 : Int32)) hx hb dX6_relate_56 (by decide) ?_
          refine lv_iload_n hx hb dX6_relate_57 rfl (lv_at hl 2 rfl) ?_
          refine lv_ishl hx hb dX6_relate_58 ?_
          refine lv_aload_n hx hb dX6_relate_59 rfl (lv_at hl 0 rfl) ?_
          refine va_get (D := D) (ci := 6) (v := .ref aF_behind) (C := RX6) (T := TX6) (N := 33) hx hb hts iX6 hown hK.1 hP 0 rfl rfl 9 (by decide) k31 (fun _ h9 => h9) rfl dX6_relate_60 ?_
          refine lv_iload_n hx hb dX6_relate_63 rfl (lv_at hl 2 rfl) ?_
          refine ckE hf (fun h64 hf => ?_)
          refine va_iald hx hb hK.1 hP 5 0 rfl rfl (inB_in h64) dX6_relate_64 ?_
          refine lv_ior hx hb dX6_relate_65 ?_
          refine lv_ior hx hb dX6_relate_66 ?_
          refine ckE hf (fun h67 hf => ?_)
          refine va_iast hx hb hK.1 hP hD hS 5 0 rfl rfl (inB_in h67) dX6_relate_67 (fun H locs hP hD hS => ?_)
          have hP : va_P D vwCl [(aF, .inr (6, [.int F_lines, .ref aF_kinds, .ref aF_vs, .ref aF_ws, .ref aF_roles, .ref aF_partner, .int F_model, .ref aF_lineOf, .ref aF_rank, .ref aF_behind, .ref aF_before, .ref aF_ways, .int F_inputs, .ref aF_inputOf, .int F_size, .ref aF_answer, .int F_hints, .int F_hasRun, .ref aF_values, .int F_printedMany, .ref aF_printedRow, .ref aF_wasValues, .ref aF_wasPrinted, .ref aF_due, .int F_keptBits, .int F_keptMany, .int F_takenMany, .ref aF_takenPlace, .ref aF_against, .int F_change, .int F_who, .int F_where, .long F_h])), (aF_kinds, eI cI 16 F_kinds), (aF_vs, eI cI 16 F_vs), (aF_ws, eI cI 16 F_ws), (aF_lineOf, eI cI 12 F_lineOf), (aF_behind, eI cI 12 (upd F_behind (x1).toNatClampNeg ((F_behind (x1).toNatClampNeg) ||| (((1 : Int32) <<< (x2 &&& 31)) ||| (F_behind (x2).toNatClampNeg))))), (aF_before, eI cI 12 F_before), (aF_ways, eJ cJ 4096 F_ways)] H := hP
          have hD : va_D A [(aF, .inr (6, [.int F_lines, .ref aF_kinds, .ref aF_vs, .ref aF_ws, .ref aF_roles, .ref aF_partner, .int F_model, .ref aF_lineOf, .ref aF_rank, .ref aF_behind, .ref aF_before, .ref aF_ways, .int F_inputs, .ref aF_inputOf, .int F_size, .ref aF_answer, .int F_hints, .int F_hasRun, .ref aF_values, .int F_printedMany, .ref aF_printedRow, .ref aF_wasValues, .ref aF_wasPrinted, .ref aF_due, .int F_keptBits, .int F_keptMany, .int F_takenMany, .ref aF_takenPlace, .ref aF_against, .int F_change, .int F_who, .int F_where, .long F_h])), (aF_kinds, eI cI 16 F_kinds), (aF_vs, eI cI 16 F_vs), (aF_ws, eI cI 16 F_ws), (aF_lineOf, eI cI 12 F_lineOf), (aF_behind, eI cI 12 (upd F_behind (x1).toNatClampNeg ((F_behind (x1).toNatClampNeg) ||| (((1 : Int32) <<< (x2 &&& 31)) ||| (F_behind (x2).toNatClampNeg))))), (aF_before, eI cI 12 F_before), (aF_ways, eJ cJ 4096 F_ways)] := hD
          refine lv_iinc (v := (x2 + (1 : Int32))) (lv' := [(2, .int (x2 + (1 : Int32))), (0, .ref aF), (1, .int x1)]) hx hb dX6_relate_68 hl (k := 2) rfl rfl (by decide) rfl (fun ls hl => ?_)
          refine lv_goto (tgt := 22) hx hb dX6_relate_71 (by decide) ?_
          exact ih x1 (x2 + (1 : Int32)) (upd F_behind (x1).toNatClampNeg ((F_behind (x1).toNatClampNeg) ||| (((1 : Int32) <<< (x2 &&& 31)) ||| (F_behind (x2).toNatClampNeg)))) F_before F_ways hf _ _ _ hP hD hS (lv_sub hl [1, 2, 0] rfl)
  have b_7 : ∀ (n : Nat), ∀ (x1 : Int32) (F_behind : (Nat → Int32)) (F_before : (Nat → Int32)) (F_ways : (Nat → Int64)), fX6_relate_h7  n x1 F_model F_kinds F_vs F_ws F_lineOf F_behind F_before F_ways = some out → ∀ (H : Heap) (locs : List Loc) (ls : Array Slot), va_P D vwCl [(aF, .inr (6, [.int F_lines, .ref aF_kinds, .ref aF_vs, .ref aF_ws, .ref aF_roles, .ref aF_partner, .int F_model, .ref aF_lineOf, .ref aF_rank, .ref aF_behind, .ref aF_before, .ref aF_ways, .int F_inputs, .ref aF_inputOf, .int F_size, .ref aF_answer, .int F_hints, .int F_hasRun, .ref aF_values, .int F_printedMany, .ref aF_printedRow, .ref aF_wasValues, .ref aF_wasPrinted, .ref aF_due, .int F_keptBits, .int F_keptMany, .int F_takenMany, .ref aF_takenPlace, .ref aF_against, .int F_change, .int F_who, .int F_where, .long F_h])), (aF_kinds, eI cI 16 F_kinds), (aF_vs, eI cI 16 F_vs), (aF_ws, eI cI 16 F_ws), (aF_lineOf, eI cI 12 F_lineOf), (aF_behind, eI cI 12 F_behind), (aF_before, eI cI 12 F_before), (aF_ways, eJ cJ 4096 F_ways)] H → va_D A [(aF, .inr (6, [.int F_lines, .ref aF_kinds, .ref aF_vs, .ref aF_ws, .ref aF_roles, .ref aF_partner, .int F_model, .ref aF_lineOf, .ref aF_rank, .ref aF_behind, .ref aF_before, .ref aF_ways, .int F_inputs, .ref aF_inputOf, .int F_size, .ref aF_answer, .int F_hints, .int F_hasRun, .ref aF_values, .int F_printedMany, .ref aF_printedRow, .ref aF_wasValues, .ref aF_wasPrinted, .ref aF_due, .int F_keptBits, .int F_keptMany, .int F_takenMany, .ref aF_takenPlace, .ref aF_against, .int F_change, .int F_who, .int F_where, .long F_h])), (aF_kinds, eI cI 16 F_kinds), (aF_vs, eI cI 16 F_vs), (aF_ws, eI cI 16 F_ws), (aF_lineOf, eI cI 12 F_lineOf), (aF_behind, eI cI 12 F_behind), (aF_before, eI cI 12 F_before), (aF_ways, eJ cJ 4096 F_ways)] → va_S A s.heap H locs → lv_has ls 4 [(0, .ref aF), (1, .int x1)] → W p l e (headSpec wsX6_relate { frames := 2, cells := 0, slots := 0, locals := 47 }).room s m ([.ref aF] : List Value).toArray below meth c H locs 0 0 QQ (F0 m 7 ls []) := by
    intro  n
    induction n with
    | zero => intro x1 F_behind F_before F_ways hf; exact nomatch (show (none : Option ((Nat → Int32) × (Nat → Int32) × (Nat → Int64))) = some out from hf)
    | succ n ih =>
      intro x1 F_behind F_before F_ways hf H locs ls hP hD hS hl
      replace hf : uX6_relate_h7  (fX6_relate_h7  n) x1 F_model F_kinds F_vs F_ws F_lineOf F_behind F_before F_ways = some out := hf
      unfold uX6_relate_h7 at hf
      refine lv_iload_n hx hb dX6_relate_7 rfl (lv_at hl 1 rfl) ?_
      refine lv_if_lt (tgt := 80) hx hb dX6_relate_8 (by decide) (fun c8 => ?_) (fun c8 => ?_)
      · have hf := ifp hf c8
        refine lv_iconst (v := (0 : Int32)) hx hb dX6_relate_80 (by decide) ?_
        refine lv_istore_n (lv' := [(1, .int (0 : Int32)), (0, .ref aF)]) hx hb dX6_relate_81 rfl hl (by decide) rfl (fun ls hl => ?_)
        exact b_82 FU (0 : Int32) F_behind F_before F_ways hf _ _ _ hP hD hS (lv_sub hl [1, 0] rfl)
      · have hf := ifn hf c8
        refine lv_aload_n hx hb dX6_relate_11 rfl (lv_at hl 0 rfl) ?_
        refine va_get (D := D) (ci := 6) (v := .ref aF_behind) (C := RX6) (T := TX6) (N := 33) hx hb hts iX6 hown hK.1 hP 0 rfl rfl 9 (by decide) k31 (fun _ h9 => h9) rfl dX6_relate_12 ?_
        refine lv_iload_n hx hb dX6_relate_15 rfl (lv_at hl 1 rfl) ?_
        refine lv_iconst (v := (0 : Int32)) hx hb dX6_relate_16 (by decide) ?_
        refine ckE hf (fun h17 hf => ?_)
        refine va_iast hx hb hK.1 hP hD hS 5 0 rfl rfl (inB_in h17) dX6_relate_17 (fun H locs hP hD hS => ?_)
        have hP : va_P D vwCl [(aF, .inr (6, [.int F_lines, .ref aF_kinds, .ref aF_vs, .ref aF_ws, .ref aF_roles, .ref aF_partner, .int F_model, .ref aF_lineOf, .ref aF_rank, .ref aF_behind, .ref aF_before, .ref aF_ways, .int F_inputs, .ref aF_inputOf, .int F_size, .ref aF_answer, .int F_hints, .int F_hasRun, .ref aF_values, .int F_printedMany, .ref aF_printedRow, .ref aF_wasValues, .ref aF_wasPrinted, .ref aF_due, .int F_keptBits, .int F_keptMany, .int F_takenMany, .ref aF_takenPlace, .ref aF_against, .int F_change, .int F_who, .int F_where, .long F_h])), (aF_kinds, eI cI 16 F_kinds), (aF_vs, eI cI 16 F_vs), (aF_ws, eI cI 16 F_ws), (aF_lineOf, eI cI 12 F_lineOf), (aF_behind, eI cI 12 (upd F_behind (x1).toNatClampNeg (0 : Int32))), (aF_before, eI cI 12 F_before), (aF_ways, eJ cJ 4096 F_ways)] H := hP
        have hD : va_D A [(aF, .inr (6, [.int F_lines, .ref aF_kinds, .ref aF_vs, .ref aF_ws, .ref aF_roles, .ref aF_partner, .int F_model, .ref aF_lineOf, .ref aF_rank, .ref aF_behind, .ref aF_before, .ref aF_ways, .int F_inputs, .ref aF_inputOf, .int F_size, .ref aF_answer, .int F_hints, .int F_hasRun, .ref aF_values, .int F_printedMany, .ref aF_printedRow, .ref aF_wasValues, .ref aF_wasPrinted, .ref aF_due, .int F_keptBits, .int F_keptMany, .int F_takenMany, .ref aF_takenPlace, .ref aF_against, .int F_change, .int F_who, .int F_where, .long F_h])), (aF_kinds, eI cI 16 F_kinds), (aF_vs, eI cI 16 F_vs), (aF_ws, eI cI 16 F_ws), (aF_lineOf, eI cI 12 F_lineOf), (aF_behind, eI cI 12 (upd F_behind (x1).toNatClampNeg (0 : Int32))), (aF_before, eI cI 12 F_before), (aF_ways, eJ cJ 4096 F_ways)] := hD
        refine lv_iload_n hx hb dX6_relate_18 rfl (lv_at hl 1 rfl) ?_
        refine lv_iconst (v := (1 : Int32)) hx hb dX6_relate_19 (by decide) ?_
        refine lv_iadd hx hb dX6_relate_20 ?_
        refine lv_istore_n (lv' := [(2, .int (x1 + (1 : Int32))), (0, .ref aF), (1, .int x1)]) hx hb dX6_relate_21 rfl hl (by decide) rfl (fun ls hl => ?_)
        exact b_22 (fX6_relate_h7  n) ih FU x1 (x1 + (1 : Int32)) (upd F_behind (x1).toNatClampNeg (0 : Int32)) F_before F_ways hf _ _ _ hP hD hS (lv_sub hl [1, 2, 0] rfl)
  generalize hHH : s.heap = H at hP ⊢
  have hS : va_S A s.heap H [] := by rw [← hHH]; exact va_S.rf
  generalize ([] : List Loc) = locs at hS ⊢
  unfold fX6_relate at hf
  refine lv_aload_n hx hb dX6_relate_0 rfl (lv_at hl 0 rfl) ?_
  refine va_get (D := D) (ci := 6) (v := .int F_model) (C := RX6) (T := TX6) (N := 33) hx hb hts iX6 hown hK.1 hP 0 rfl rfl 6 (by decide) k82 (fun _ h9 => h9) rfl dX6_relate_1 ?_
  refine lv_iconst (v := (1 : Int32)) hx hb dX6_relate_4 (by decide) ?_
  refine lv_isub hx hb dX6_relate_5 ?_
  refine lv_istore_n (lv' := [(1, .int (F_model - (1 : Int32))), (0, .ref aF)]) hx hb dX6_relate_6 rfl hl (by decide) rfl (fun ls hl => ?_)
  exact b_7 FU (F_model - (1 : Int32)) F_behind F_before F_ways hf _ _ _ hP hD hS (lv_sub hl [1, 0] rfl)

