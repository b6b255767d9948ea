set_option maxHeartbeats 4000000 in
set_option maxRecDepth 100000 in
theorem tX4_rankOf (l : Launch) (D : va_G) (cI cJ cG : ClassId) (aM aM_numbers aM_ranks aM_ahead aM_ways : Nat) (Hs : Heap) (y1 : Int32) (M_length : Int32) (M_waysCounted : Int32) (M_ranks : (Nat → Int32)) (out : Int32) (hf : fX4_rankOf y1 M_ranks = some out) : Met l yX4_rankOf wsX4_rankOf ({ frames := 0, cells := 0, slots := 0, locals := 0 }) (va_Pc [.ref aM, .int y1] (rP D (tyL cI cJ cG) [(aM, .inr (4, [.ref aM_numbers, .ref aM_ranks, .ref aM_ahead, .int M_length, .ref aM_ways, .int M_waysCounted])), (aM_ranks, eI cI 16 M_ranks)] Hs)) (rQi out Hs) 0 0 (fun _ => False) := by
  refine Met.ofW (cc := cX4_rankOf) (maxL := 2) (ret := (some .int)) (by decide) rfl ?_
  intro p e s m args below meth c s₁ B hml hv
  obtain ⟨rfl, rfl, hP, hK⟩ := hv
  have hx := B.exec
  have hb := B.bytes
  have hr := B.returns
  have hts := atoms_spec (ws := wsX4_rankOf) B.pre
  have hown : s.vm.findClass RX4 = some m.cls := findClass_of_methodNamed B.named
  have hlocks := B.notSynchronized
  have iX4 : ∀ w ∈ wsX40, w ∈ wsX4_rankOf := by decide +kernel
  have k15 := hts (.fieldLink RX4 15 "BlockMarker$Model" "ranks" "[I") (by decide +kernel)
  have hS : va_S (fun _ => False) s.heap s.heap [] := va_S.rf
  have hl := lv_entry ([.ref aM, .int y1]) (n := 2) (Nat.le_of_ble_eq_true rfl)
  rw [lg_entry_eq]
  generalize (lg_sl ([.ref aM, .int y1]) ++ List.replicate (2 - (lg_sl ([.ref aM, .int y1])).length) Slot.unset).toArray = ls at hl ⊢
  have hl : lv_has ls 2 [(0, .ref aM), (1, .int y1)] := hl
  generalize hQQ : MQ below _ _ s 0 0 _ = QQ
  replace hQQ := hQQ.symm
  unfold fX4_rankOf at hf
  refine lv_iload_n hx hb dX4_rankOf_0 rfl (lv_at hl 1 rfl) ?_
  refine lv_if_lt (tgt := 19) hx hb dX4_rankOf_1 (by decide) (fun c1 => ?_) (fun c1 => ?_)
  · have hf := ifp hf c1
    refine lv_iconst (v := (-1 : Int32)) hx hb dX4_rankOf_19 (by decide) ?_
    rw [hQQ]
    exact W.iret (v := (-1 : Int32)) hx hb hr (fun t ht hW => ⟨⟨(-1 : Int32), (), rfl, Option.some.inj hf, ht⟩, rF ht⟩) hS.2.2 dX4_rankOf_20
  · have hf := ifn hf c1
    refine lv_iload_n hx hb dX4_rankOf_4 rfl (lv_at hl 1 rfl) ?_
    refine lv_bipush (v := (16 : Int32)) hx hb dX4_rankOf_5 (by decide) ?_
    refine lv_icmp_ge (tgt := 19) hx hb dX4_rankOf_7 (by decide) (fun c7 => ?_) (fun c7 => ?_)
    · have hf := ifp hf c7
      refine lv_iconst (v := (-1 : Int32)) hx hb dX4_rankOf_19 (by decide) ?_
      rw [hQQ]
      exact W.iret (v := (-1 : Int32)) hx hb hr (fun t ht hW => ⟨⟨(-1 : Int32), (), rfl, Option.some.inj hf, ht⟩, rF ht⟩) hS.2.2 dX4_rankOf_20
    · have hf := ifn hf c7
      refine lv_aload_n hx hb dX4_rankOf_10 rfl (lv_at hl 0 rfl) ?_
      refine va_get (D := D) (ci := 4) (v := .ref aM_ranks) (C := RX4) (T := TX4) (N := 6) hx hb hts iX4 hown hK.1 hP 0 rfl rfl 1 (by decide) k15 (fun _ h9 => h9) rfl dX4_rankOf_11 ?_
      refine lv_iload_n hx hb dX4_rankOf_14 rfl (lv_at hl 1 rfl) ?_
      refine ckE hf (fun h15 hf => ?_)
      refine va_iald hx hb hK.1 hP 1 0 rfl rfl (inB_in h15) dX4_rankOf_15 ?_
      refine lv_goto (tgt := 20) hx hb dX4_rankOf_16 (by decide) ?_
      rw [hQQ]
      exact W.iret (v := (M_ranks (y1).toNatClampNeg)) hx hb hr (fun t ht hW => ⟨⟨(M_ranks (y1).toNatClampNeg), (), rfl, Option.some.inj hf, ht⟩, rF ht⟩) hS.2.2 dX4_rankOf_20

set_option maxHeartbeats 4000000 in
set_option maxRecDepth 100000 in
theorem tX4_isAhead (l : Launch) (D : va_G) (cI cJ cG : ClassId) (aM aM_numbers aM_ranks aM_ahead aM_ways : Nat) (Hs : Heap) (y1 : Int32) (y2 : Int32) (M_length : Int32) (M_waysCounted : Int32) (M_ahead : (Nat → Int32)) (out : Int32) (hf : fX4_isAhead y1 y2 M_length M_ahead = some out) : Met l yX4_isAhead wsX4_isAhead ({ frames := 0, cells := 0, slots := 0, locals := 0 }) (va_Pc [.ref aM, .int y1, .int y2] (rP D (tyL cI cJ cG) [(aM, .inr (4, [.ref aM_numbers, .ref aM_ranks, .ref aM_ahead, .int M_length, .ref aM_ways, .int M_waysCounted])), (aM_ahead, eI cI 12 M_ahead)] Hs)) (rQi out Hs) 0 0 (fun _ => False) := by
  refine Met.ofW (cc := cX4_isAhead) (maxL := 3) (ret := (some .boolean)) (by decide) rfl ?_
  intro p e s m args below meth c s₁ B hml hv
  obtain ⟨rfl, rfl, hP, hK⟩ := hv
  have hx := B.exec
  have hb := B.bytes
  have hr := B.returns
  have hts := atoms_spec (ws := wsX4_isAhead) B.pre
  have hown : s.vm.findClass RX4 = some m.cls := findClass_of_methodNamed B.named
  have hlocks := B.notSynchronized
  have iX4 : ∀ w ∈ wsX40, w ∈ wsX4_isAhead := by decide +kernel
  have k18 := hts (.fieldLink RX4 18 "BlockMarker$Model" "ahead" "[I") (by decide +kernel)
  have k30 := hts (.fieldLink RX4 30 "BlockMarker$Model" "length" "I") (by decide +kernel)
  have hS : va_S (fun _ => False) s.heap s.heap [] := va_S.rf
  have hl := lv_entry ([.ref aM, .int y1, .int y2]) (n := 3) (Nat.le_of_ble_eq_true rfl)
  rw [lg_entry_eq]
  generalize (lg_sl ([.ref aM, .int y1, .int y2]) ++ List.replicate (3 - (lg_sl ([.ref aM, .int y1, .int y2])).length) Slot.unset).toArray = ls at hl ⊢
  have hl : lv_has ls 3 [(0, .ref aM), (1, .int y1), (2, .int y2)] := hl
  generalize hQQ : MQ below _ _ s 0 0 _ = QQ
  replace hQQ := hQQ.symm
  unfold fX4_isAhead at hf
  refine lv_iload_n hx hb dX4_isAhead_0 rfl (lv_at hl 1 rfl) ?_
  refine lv_if_lt (tgt := 41) hx hb dX4_isAhead_1 (by decide) (fun c1 => ?_) (fun c1 => ?_)
  · have hf := ifp hf c1
    refine lv_iconst (v := (0 : Int32)) hx hb dX4_isAhead_41 (by decide) ?_
    rw [hQQ]
    exact W.zret (v := (0 : Int32)) hx hb hr rfl (fun t ht hW => ⟨⟨(0 : Int32), (), rfl, Option.some.inj hf, ht⟩, rF ht⟩) hS.2.2 dX4_isAhead_42
  · have hf := ifn hf c1
    refine lv_iload_n hx hb dX4_isAhead_4 rfl (lv_at hl 1 rfl) ?_
    refine lv_aload_n hx hb dX4_isAhead_5 rfl (lv_at hl 0 rfl) ?_
    refine va_get (D := D) (ci := 4) (v := .int M_length) (C := RX4) (T := TX4) (N := 6) hx hb hts iX4 hown hK.1 hP 0 rfl rfl 3 (by decide) k30 (fun _ h9 => h9) rfl dX4_isAhead_6 ?_
    refine lv_icmp_ge (tgt := 41) hx hb dX4_isAhead_9 (by decide) (fun c9 => ?_) (fun c9 => ?_)
    · have hf := ifp hf c9
      refine lv_iconst (v := (0 : Int32)) hx hb dX4_isAhead_41 (by decide) ?_
      rw [hQQ]
      exact W.zret (v := (0 : Int32)) hx hb hr rfl (fun t ht hW => ⟨⟨(0 : Int32), (), rfl, Option.some.inj hf, ht⟩, rF ht⟩) hS.2.2 dX4_isAhead_42
    · have hf := ifn hf c9
      refine lv_iload_n hx hb dX4_isAhead_12 rfl (lv_at hl 2 rfl) ?_
      refine lv_if_lt (tgt := 41) hx hb dX4_isAhead_13 (by decide) (fun c13 => ?_) (fun c13 => ?_)
      · have hf := ifp hf c13
        refine lv_iconst (v := (0 : Int32)) hx hb dX4_isAhead_41 (by decide) ?_
        rw [hQQ]
        exact W.zret (v := (0 : Int32)) hx hb hr rfl (fun t ht hW => ⟨⟨(0 : Int32), (), rfl, Option.some.inj hf, ht⟩, rF ht⟩) hS.2.2 dX4_isAhead_42
      · have hf := ifn hf c13
        refine lv_iload_n hx hb dX4_isAhead_16 rfl (lv_at hl 2 rfl) ?_
        refine lv_aload_n hx hb dX4_isAhead_17 rfl (lv_at hl 0 rfl) ?_
        refine va_get (D := D) (ci := 4) (v := .int M_length) (C := RX4) (T := TX4) (N := 6) hx hb hts iX4 hown hK.1 hP 0 rfl rfl 3 (by decide) k30 (fun _ h9 => h9) rfl dX4_isAhead_18 ?_
        refine lv_icmp_ge (tgt := 41) hx hb dX4_isAhead_21 (by decide) (fun c21 => ?_) (fun c21 => ?_)
        · have hf := ifp hf c21
          refine lv_iconst (v := (0 : Int32)) hx hb dX4_isAhead_41 (by decide) ?_
          rw [hQQ]
          exact W.zret (v := (0 : Int32)) hx hb hr rfl (fun t ht hW => ⟨⟨(0 : Int32), (), rfl, Option.some.inj hf, ht⟩, rF ht⟩) hS.2.2 dX4_isAhead_42
        · have hf := ifn hf c21
          refine lv_aload_n hx hb dX4_isAhead_24 rfl (lv_at hl 0 rfl) ?_
          refine va_get (D := D) (ci := 4) (v := .ref aM_ahead) (C := RX4) (T := TX4) (N := 6) hx hb hts iX4 hown hK.1 hP 0 rfl rfl 2 (by decide) k18 (fun _ h9 => h9) rfl dX4_isAhead_25 ?_
          refine lv_iload_n hx hb dX4_isAhead_28 rfl (lv_at hl 2 rfl) ?_
          refine ckE hf (fun h29 hf => ?_)
          refine va_iald hx hb hK.1 hP 1 0 rfl rfl (inB_in h29) dX4_isAhead_29 ?_
          refine lv_iload_n hx hb dX4_isAhead_30 rfl (lv_at hl 1 rfl) ?_
          refine lv_ishr hx hb dX4_isAhead_31 ?_
          refine lv_iconst (v := (1 : Int32)) hx hb dX4_isAhead_32 (by decide) ?_
          refine lv_iand hx hb dX4_isAhead_33 ?_
          refine lv_if_eq (tgt := 41) hx hb dX4_isAhead_34 (by decide) (fun c34 => ?_) (fun c34 => ?_)
          · have hf := ifp hf c34
            refine lv_iconst (v := (0 : Int32)) hx hb dX4_isAhead_41 (by decide) ?_
            rw [hQQ]
            exact W.zret (v := (0 : Int32)) hx hb hr rfl (fun t ht hW => ⟨⟨(0 : Int32), (), rfl, Option.some.inj hf, ht⟩, rF ht⟩) hS.2.2 dX4_isAhead_42
          · have hf := ifn hf c34
            refine lv_iconst (v := (1 : Int32)) hx hb dX4_isAhead_37 (by decide) ?_
            refine lv_goto (tgt := 42) hx hb dX4_isAhead_38 (by decide) ?_
            rw [hQQ]
            exact W.zret (v := (1 : Int32)) hx hb hr rfl (fun t ht hW => ⟨⟨(1 : Int32), (), rfl, Option.some.inj hf, ht⟩, rF ht⟩) hS.2.2 dX4_isAhead_42

set_option maxHeartbeats 4000000 in
set_option maxRecDepth 100000 in
theorem tX4_lineOf (l : Launch) (D : va_G) (cI cJ cG : ClassId) (aM aM_numbers aM_ranks aM_ahead aM_ways : Nat) (Hs : Heap) (y1 : Int32) (M_length : Int32) (M_waysCounted : Int32) (M_numbers : (Nat → Int32)) (out : Int32) (hf : fX4_lineOf y1 M_length M_numbers = some out) : Met l yX4_lineOf wsX4_lineOf ({ frames := 0, cells := 0, slots := 0, locals := 0 }) (va_Pc [.ref aM, .int y1] (rP D (tyL cI cJ cG) [(aM, .inr (4, [.ref aM_numbers, .ref aM_ranks, .ref aM_ahead, .int M_length, .ref aM_ways, .int M_waysCounted])), (aM_numbers, eI cI 12 M_numbers)] Hs)) (rQi out Hs) 0 0 (fun _ => False) := by
  refine Met.ofW (cc := cX4_lineOf) (maxL := 2) (ret := (some .int)) (by decide) rfl ?_
  intro p e s m args below meth c s₁ B hml hv
  obtain ⟨rfl, rfl, hP, hK⟩ := hv
  have hx := B.exec
  have hb := B.bytes
  have hr := B.returns
  have hts := atoms_spec (ws := wsX4_lineOf) B.pre
  have hown : s.vm.findClass RX4 = some m.cls := findClass_of_methodNamed B.named
  have hlocks := B.notSynchronized
  have iX4 : ∀ w ∈ wsX40, w ∈ wsX4_lineOf := by decide +kernel
  have k9 := hts (.fieldLink RX4 9 "BlockMarker$Model" "numbers" "[I") (by decide +kernel)
  have k30 := hts (.fieldLink RX4 30 "BlockMarker$Model" "length" "I") (by decide +kernel)
  have hS : va_S (fun _ => False) s.heap s.heap [] := va_S.rf
  have hl := lv_entry ([.ref aM, .int y1]) (n := 2) (Nat.le_of_ble_eq_true rfl)
  rw [lg_entry_eq]
  generalize (lg_sl ([.ref aM, .int y1]) ++ List.replicate (2 - (lg_sl ([.ref aM, .int y1])).length) Slot.unset).toArray = ls at hl ⊢
  have hl : lv_has ls 2 [(0, .ref aM), (1, .int y1)] := hl
  generalize hQQ : MQ below _ _ s 0 0 _ = QQ
  replace hQQ := hQQ.symm
  unfold fX4_lineOf at hf
  refine lv_iload_n hx hb dX4_lineOf_0 rfl (lv_at hl 1 rfl) ?_
  refine lv_if_lt (tgt := 21) hx hb dX4_lineOf_1 (by decide) (fun c1 => ?_) (fun c1 => ?_)
  · have hf := ifp hf c1
    refine lv_iconst (v := (-1 : Int32)) hx hb dX4_lineOf_21 (by decide) ?_
    rw [hQQ]
    exact W.iret (v := (-1 : Int32)) hx hb hr (fun t ht hW => ⟨⟨(-1 : Int32), (), rfl, Option.some.inj hf, ht⟩, rF ht⟩) hS.2.2 dX4_lineOf_22
  · have hf := ifn hf c1
    refine lv_iload_n hx hb dX4_lineOf_4 rfl (lv_at hl 1 rfl) ?_
    refine lv_aload_n hx hb dX4_lineOf_5 rfl (lv_at hl 0 rfl) ?_
    refine va_get (D := D) (ci := 4) (v := .int M_length) (C := RX4) (T := TX4) (N := 6) hx hb hts iX4 hown hK.1 hP 0 rfl rfl 3 (by decide) k30 (fun _ h9 => h9) rfl dX4_lineOf_6 ?_
    refine lv_icmp_ge (tgt := 21) hx hb dX4_lineOf_9 (by decide) (fun c9 => ?_) (fun c9 => ?_)
    · have hf := ifp hf c9
      refine lv_iconst (v := (-1 : Int32)) hx hb dX4_lineOf_21 (by decide) ?_
      rw [hQQ]
      exact W.iret (v := (-1 : Int32)) hx hb hr (fun t ht hW => ⟨⟨(-1 : Int32), (), rfl, Option.some.inj hf, ht⟩, rF ht⟩) hS.2.2 dX4_lineOf_22
    · have hf := ifn hf c9
      refine lv_aload_n hx hb dX4_lineOf_12 rfl (lv_at hl 0 rfl) ?_
      refine va_get (D := D) (ci := 4) (v := .ref aM_numbers) (C := RX4) (T := TX4) (N := 6) hx hb hts iX4 hown hK.1 hP 0 rfl rfl 0 (by decide) k9 (fun _ h9 => h9) rfl dX4_lineOf_13 ?_
      refine lv_iload_n hx hb dX4_lineOf_16 rfl (lv_at hl 1 rfl) ?_
      refine ckE hf (fun h17 hf => ?_)
      refine va_iald hx hb hK.1 hP 1 0 rfl rfl (inB_in h17) dX4_lineOf_17 ?_
      refine lv_goto (tgt := 22) hx hb dX4_lineOf_18 (by decide) ?_
      rw [hQQ]
      exact W.iret (v := (M_numbers (y1).toNatClampNeg)) hx hb hr (fun t ht hW => ⟨⟨(M_numbers (y1).toNatClampNeg), (), rfl, Option.some.inj hf, ht⟩, rF ht⟩) hS.2.2 dX4_lineOf_22

set_option maxHeartbeats 4000000 in
set_option maxRecDepth 100000 in
theorem tX4_forget (l : Launch) (D : va_G) (cI cJ cG : ClassId) (aM aM_numbers aM_ranks aM_ahead aM_ways : Nat) (sz : Nat)  (M_length : Int32) (M_waysCounted : Int32) (M_ranks : (Nat → Int32)) (out : Int32 × Int32 × (Nat → Int32)) (hf : fX4_forget M_length M_waysCounted M_ranks = some out) : Met l yX4_forget wsX4_forget ({ frames := 1, cells := 0, slots := 0, locals := 23 }) (va_Pc [.ref aM] (wP D (tyL cI cJ cG) [(aM, .inr (4, [.ref aM_numbers, .ref aM_ranks, .ref aM_ahead, .int M_length, .ref aM_ways, .int M_waysCounted])), (aM_ranks, eI cI 16 M_ranks)] sz)) (wQv D  [(aM, .inr (4, [.ref aM_numbers, .ref aM_ranks, .ref aM_ahead, .int M_length, .ref aM_ways, .int M_waysCounted])), (aM_ranks, eI cI 16 M_ranks)] [(aM, .inr (4, [.ref aM_numbers, .ref aM_ranks, .ref aM_ahead, .int out.1, .ref aM_ways, .int out.2.1])), (aM_ranks, eI cI 16 out.2.2)] sz) 0 0 (va_A [(aM, .inr (4, [.ref aM_numbers, .ref aM_ranks, .ref aM_ahead, .int M_length, .ref aM_ways, .int M_waysCounted])), (aM_ranks, eI cI 16 M_ranks)] sz) := by
  refine Met.ofW (cc := cX4_forget) (maxL := 1) (ret := none) (by decide) rfl ?_
  intro p e s m args below meth c s₁ B hml hv
  obtain ⟨rfl, hsz, hP, hK, hD0⟩ := hv
  have hx := B.exec
  have hb := B.bytes
  have hr := B.returns
  have hts := atoms_spec (ws := wsX4_forget) B.pre
  have hown : s.vm.findClass RX4 = some m.cls := findClass_of_methodNamed B.named
  have hlocks := B.notSynchronized
  have iX4 : ∀ w ∈ wsX40, w ∈ wsX4_forget := by decide +kernel
  have k15 := hts (.fieldLink RX4 15 "BlockMarker$Model" "ranks" "[I") (by decide +kernel)
  have k30 := hts (.fieldLink RX4 30 "BlockMarker$Model" "length" "I") (by decide +kernel)
  have k34 := hts (.fieldLink RX4 34 "BlockMarker$Model" "waysCounted" "Z") (by decide +kernel)
  subst hsz
  have hD := hD0.self (sz := s.heap.size)
  generalize hAe : va_A [(aM, .inr (4, [.ref aM_numbers, .ref aM_ranks, .ref aM_ahead, .int M_length, .ref aM_ways, .int M_waysCounted])), (aM_ranks, eI cI 16 M_ranks)] s.heap.size = A at hD ⊢
  have hA : ∀ q : Nat, s.heap.size ≤ q → A q := fun q h => by rw [← hAe]; exact Or.inr h
  have hS : va_S A s.heap s.heap [] := va_S.rf
  have hl := lv_entry ([.ref aM]) (n := 1) (Nat.le_of_ble_eq_true rfl)
  rw [lg_entry_eq]
  generalize (lg_sl ([.ref aM]) ++ List.replicate (1 - (lg_sl ([.ref aM])).length) Slot.unset).toArray = ls at hl ⊢
  have hl : lv_has ls 1 [(0, .ref aM)] := hl
  generalize hQQ : MQ below _ _ s 0 0 _ = QQ
  replace hQQ := hQQ.symm
  generalize hHH : s.heap = H at hP ⊢
  have hS : va_S A s.heap H [] := by rw [← hHH]; exact va_S.rf
  generalize ([] : List Loc) = locs at hS ⊢
  unfold fX4_forget at hf
  refine lv_aload_n hx hb dX4_forget_0 rfl (lv_at hl 0 rfl) ?_
  refine va_get (D := D) (ci := 4) (v := .ref aM_ranks) (C := RX4) (T := TX4) (N := 6) hx hb hts iX4 hown hK.1 hP 0 rfl rfl 1 (by decide) k15 (fun _ h9 => h9) rfl dX4_forget_1 ?_
  refine lv_iconst (v := (-1 : Int32)) hx hb dX4_forget_4 (by decide) ?_
  refine bnd hf (fun o5 e5 hf => ?_)
  refine wrSv (As := [.ref aM_ranks, .int (-1 : Int32)]) (rest := []) (cw := [(aM_ranks, eI cI 16 M_ranks)]) (cw' := [(aM_ranks, eI cI 16 o5)]) (wr := [(aM, .inr (4, [.ref aM_numbers, .ref aM_ranks, .ref aM_ahead, .int M_length, .ref aM_ways, .int M_waysCounted]))]) (ws2 := [(aM, .inr (4, [.ref aM_numbers, .ref aM_ranks, .ref aM_ahead, .int M_length, .ref aM_ways, .int M_waysCounted])), (aM_ranks, eI cI 16 o5)]) ⟨hx, hb, hml, hown, hts⟩ (tJ7_fill_53178 l D cI cJ cG aM_ranks 16 H.size (-1 : Int32) M_ranks o5 e5) (va_cwS 2 hts gX4_forget_J7_fill_53178 rfl rfl rfl (by decide +kernel) ⟨Nat.le_of_ble_eq_true rfl, Nat.le_of_ble_eq_true rfl⟩) hK hP hD hS hA [1] [0] [0, 1] rfl rfl rfl (by decide) (by decide) (by decide) (by decide) rfl hl.1 rfl (lv_room (Nat.le_of_ble_eq_true rfl)) dX4_forget_5 ⟨Nat.le_of_ble_eq_true rfl, Nat.le_of_ble_eq_true rfl⟩ (fun H locs hP hD hS => ?_)
  refine lv_aload_n hx hb dX4_forget_8 rfl (lv_at hl 0 rfl) ?_
  refine lv_iconst (v := (0 : Int32)) hx hb dX4_forget_9 (by decide) ?_
  refine va_put (D := D) (ci := 4) (v := .int (0 : Int32)) (ty := .int) (C := RX4) (T := TX4) (N := 6) hx hb hts iX4 tyX4 tyX4_ok nmX4 hown hK.1 hP hD hS 0 rfl rfl 3 (by decide) k30 (fun _ h9 => h9) rfl (by decide +kernel) rfl rfl (Nat.le_of_ble_eq_true rfl) dX4_forget_10 (fun H locs hP hD hS => ?_)
  have hP : va_P D vwCl [(aM, .inr (4, [.ref aM_numbers, .ref aM_ranks, .ref aM_ahead, .int (0 : Int32), .ref aM_ways, .int M_waysCounted])), (aM_ranks, eI cI 16 o5)] H := hP
  have hD : va_D A [(aM, .inr (4, [.ref aM_numbers, .ref aM_ranks, .ref aM_ahead, .int (0 : Int32), .ref aM_ways, .int M_waysCounted])), (aM_ranks, eI cI 16 o5)] := hD
  refine lv_aload_n hx hb dX4_forget_13 rfl (lv_at hl 0 rfl) ?_
  refine lv_iconst (v := (0 : Int32)) hx hb dX4_forget_14 (by decide) ?_
  refine va_put (D := D) (ci := 4) (v := .int (0 : Int32)) (ty := .boolean) (C := RX4) (T := TX4) (N := 6) hx hb hts iX4 tyX4 tyX4_ok nmX4 hown hK.1 hP hD hS 0 rfl rfl 5 (by decide) k34 (fun _ h9 => h9) rfl (by decide +kernel) rfl rfl (Nat.le_of_ble_eq_true rfl) dX4_forget_15 (fun H locs hP hD hS => ?_)
  have hP : va_P D vwCl [(aM, .inr (4, [.ref aM_numbers, .ref aM_ranks, .ref aM_ahead, .int (0 : Int32), .ref aM_ways, .int (0 : Int32)])), (aM_ranks, eI cI 16 o5)] H := hP
  have hD : va_D A [(aM, .inr (4, [.ref aM_numbers, .ref aM_ranks, .ref aM_ahead, .int (0 : Int32), .ref aM_ways, .int (0 : Int32)])), (aM_ranks, eI cI 16 o5)] := hD
  rw [hQQ]
  exact W.vret hx hb hr (fun t ht hW => by rw [← Option.some.inj hf]; rw [← hAe] at hD hS; exact ⟨⟨(), rfl, trivial, by rw [ht]; exact hP, hD⟩, hS.F ht⟩) hS.2.2 dX4_forget_18

set_option maxHeartbeats 4000000 in
set_option maxRecDepth 100000 in
theorem tX4_join (l : Launch) (D : va_G) (cI cJ cG : ClassId) (aL aL_kinds aL_vs aL_ws aL_roles aL_mates aM aM_numbers aM_ranks aM_ahead aM_ways : Nat) (sz : Nat) (y2 : Int32) (L_many : Int32) (L_kinds : (Nat → Int32)) (L_vs : (Nat → Int32)) (L_ws : (Nat → Int32)) (M_length : Int32) (M_waysCounted : Int32) (M_numbers : (Nat → Int32)) (M_ranks : (Nat → Int32)) (M_ahead : (Nat → Int32)) (out : Int32 × Int32 × (Nat → Int32) × (Nat → Int32) × (Nat → Int32)) (hf : fX4_join y2 L_many L_kinds L_vs L_ws M_length M_waysCounted M_numbers M_ranks M_ahead = some out) : Met l yX4_join wsX4_join ({ frames := 4, cells := 0, slots := 0, locals := 88 }) (va_Pc [.ref aM, .ref aL, .int y2] (wP D (tyL cI cJ cG) [(aL, .inr (1, [.ref aL_kinds, .ref aL_vs, .ref aL_ws, .ref aL_roles, .ref aL_mates, .int L_many])), (aL_kinds, eI cI 16 L_kinds), (aL_vs, eI cI 16 L_vs), (aL_ws, eI cI 16 L_ws), (aM, .inr (4, [.ref aM_numbers, .ref aM_ranks, .ref aM_ahead, .int M_length, .ref aM_ways, .int M_waysCounted])), (aM_numbers, eI cI 12 M_numbers), (aM_ranks, eI cI 16 M_ranks), (aM_ahead, eI cI 12 M_ahead)] sz)) (wQv D  [(aL, .inr (1, [.ref aL_kinds, .ref aL_vs, .ref aL_ws, .ref aL_roles, .ref aL_mates, .int L_many])), (aL_kinds, eI cI 16 L_kinds), (aL_vs, eI cI 16 L_vs), (aL_ws, eI cI 16 L_ws), (aM, .inr (4, [.ref aM_numbers, .ref aM_ranks, .ref aM_ahead, .int M_length, .ref aM_ways, .int M_waysCounted])), (aM_numbers, eI cI 12 M_numbers), (aM_ranks, eI cI 16 M_ranks), (aM_ahead, eI cI 12 M_ahead)] [(aL, .inr (1, [.ref aL_kinds, .ref aL_vs, .ref aL_ws, .ref aL_roles, .ref aL_mates, .int L_many])), (aL_kinds, eI cI 16 L_kinds), (aL_vs, eI cI 16 L_vs), (aL_ws, eI cI 16 L_ws), (aM, .inr (4, [.ref aM_numbers, .ref aM_ranks, .ref aM_ahead, .int out.1, .ref aM_ways, .int out.2.1])), (aM_numbers, eI cI 12 out.2.2.1), (aM_ranks, eI cI 16 out.2.2.2.1), (aM_ahead, eI cI 12 out.2.2.2.2)] sz) 0 0 (va_A [(aL, .inr (1, [.ref aL_kinds, .ref aL_vs, .ref aL_ws, .ref aL_roles, .ref aL_mates, .int L_many])), (aL_kinds, eI cI 16 L_kinds), (aL_vs, eI cI 16 L_vs), (aL_ws, eI cI 16 L_ws), (aM, .inr (4, [.ref aM_numbers, .ref aM_ranks, .ref aM_ahead, .int M_length, .ref aM_ways, .int M_waysCounted])), (aM_numbers, eI cI 12 M_numbers), (aM_ranks, eI cI 16 M_ranks), (aM_ahead, eI cI 12 M_ahead)] sz) := by
  refine Met.ofW (cc := cX4_join) (maxL := 5) (ret := none) (by decide) rfl ?_
  intro p e s m args below meth c s₁ B hml hv
  obtain ⟨rfl, hsz, hP, hK, hD0⟩ := hv
  have hx := B.exec
  have hb := B.bytes
  have hr := B.returns
  have hts := atoms_spec (ws := wsX4_join) B.pre
  have hown : s.vm.findClass RX4 = some m.cls := findClass_of_methodNamed B.named
  have hlocks := B.notSynchronized
  have iX4 : ∀ w ∈ wsX40, w ∈ wsX4_join := by decide +kernel
  have k9 := hts (.fieldLink RX4 9 "BlockMarker$Model" "numbers" "[I") (by decide +kernel)
  have k15 := hts (.fieldLink RX4 15 "BlockMarker$Model" "ranks" "[I") (by decide +kernel)
  have k18 := hts (.fieldLink RX4 18 "BlockMarker$Model" "ahead" "[I") (by decide +kernel)
  have k30 := hts (.fieldLink RX4 30 "BlockMarker$Model" "length" "I") (by decide +kernel)
  have k34 := hts (.fieldLink RX4 34 "BlockMarker$Model" "waysCounted" "Z") (by decide +kernel)
  subst hsz
  have hD := hD0.self (sz := s.heap.size)
  generalize hAe : va_A [(aL, .inr (1, [.ref aL_kinds, .ref aL_vs, .ref aL_ws, .ref aL_roles, .ref aL_mates, .int L_many])), (aL_kinds, eI cI 16 L_kinds), (aL_vs, eI cI 16 L_vs), (aL_ws, eI cI 16 L_ws), (aM, .inr (4, [.ref aM_numbers, .ref aM_ranks, .ref aM_ahead, .int M_length, .ref aM_ways, .int M_waysCounted])), (aM_numbers, eI cI 12 M_numbers), (aM_ranks, eI cI 16 M_ranks), (aM_ahead, eI cI 12 M_ahead)] s.heap.size = A at hD ⊢
  have hA : ∀ q : Nat, s.heap.size ≤ q → A q := fun q h => by rw [← hAe]; exact Or.inr h
  have hS : va_S A s.heap s.heap [] := va_S.rf
  have hl := lv_entry ([.ref aM, .ref aL, .int y2]) (n := 5) (Nat.le_of_ble_eq_true rfl)
  rw [lg_entry_eq]
  generalize (lg_sl ([.ref aM, .ref aL, .int y2]) ++ List.replicate (5 - (lg_sl ([.ref aM, .ref aL, .int y2])).length) Slot.unset).toArray = ls at hl ⊢
  have hl : lv_has ls 5 [(0, .ref aM), (1, .ref aL), (2, .int y2)] := hl
  generalize hQQ : MQ below _ _ s 0 0 _ = QQ
  replace hQQ := hQQ.symm
  have b_25 : ∀ (n : Nat), ∀ (x2 : Int32) (x3 : Int32) (x4 : Int32) (M_length : Int32) (M_waysCounted : Int32) (M_numbers : (Nat → Int32)) (M_ranks : (Nat → Int32)) (M_ahead : (Nat → Int32)), fX4_join_h25  n x2 x3 x4 L_many L_kinds L_vs L_ws M_length M_waysCounted M_numbers M_ranks M_ahead = some out → ∀ (H : Heap) (locs : List Loc) (ls : Array Slot), va_P D vwCl [(aL, .inr (1, [.ref aL_kinds, .ref aL_vs, .ref aL_ws, .ref aL_roles, .ref aL_mates, .int L_many])), (aL_kinds, eI cI 16 L_kinds), (aL_vs, eI cI 16 L_vs), (aL_ws, eI cI 16 L_ws), (aM, .inr (4, [.ref aM_numbers, .ref aM_ranks, .ref aM_ahead, .int M_length, .ref aM_ways, .int M_waysCounted])), (aM_numbers, eI cI 12 M_numbers), (aM_ranks, eI cI 16 M_ranks), (aM_ahead, eI cI 12 M_ahead)] H → va_D A [(aL, .inr (1, [.ref aL_kinds, .ref aL_vs, .ref aL_ws, .ref aL_roles, .ref aL_mates, .int L_many])), (aL_kinds, eI cI 16 L_kinds), (aL_vs, eI cI 16 L_vs), (aL_ws, eI cI 16 L_ws), (aM, .inr (4, [.ref aM_numbers, .ref aM_ranks, .ref aM_ahead, .int M_length, .ref aM_ways, .int M_waysCounted])), (aM_numbers, eI cI 12 M_numbers), (aM_ranks, eI cI 16 M_ranks), (aM_ahead, eI cI 12 M_ahead)] → va_S A s.heap H locs → lv_has ls 5 [(0, .ref aM), (1, .ref aL), (2, .int x2), (3, .int x3), (4, .int x4)] → W p l e (headSpec wsX4_join { frames := 4, cells := 0, slots := 0, locals := 88 }).room s m ([.ref aM, .ref aL, .int y2] : List Value).toArray below meth c H locs 0 0 QQ (F0 m 25 ls []) := by
    intro  n
    induction n with
    | zero => intro x2 x3 x4 M_length M_waysCounted M_numbers M_ranks M_ahead hf; exact nomatch (show (none : Option (Int32 × Int32 × (Nat → Int32) × (Nat → Int32) × (Nat → Int32))) = some out from hf)
    | succ n ih =>
      intro x2 x3 x4 M_length M_waysCounted M_numbers M_ranks M_ahead hf H locs ls hP hD hS hl
      replace hf : uX4_join_h25  (fX4_join_h25  n) x2 x3 x4 L_many L_kinds L_vs L_ws M_length M_waysCounted M_numbers M_ranks M_ahead = some out := hf
      unfold uX4_join_h25 at hf
      refine lv_iload hx hb dX4_join_25 (lv_at hl 4 rfl) ?_
      refine lv_aload_n hx hb dX4_join_27 rfl (lv_at hl 0 rfl) ?_
      refine va_get (D := D) (ci := 4) (v := .int M_length) (C := RX4) (T := TX4) (N := 6) hx hb hts iX4 hown hK.1 hP 4 rfl rfl 3 (by decide) k30 (fun _ h9 => h9) rfl dX4_join_28 ?_
      refine lv_icmp_ge (tgt := 70) hx hb dX4_join_31 (by decide) (fun c31 => ?_) (fun c31 => ?_)
      · have hf := ifp hf c31
        refine lv_aload_n hx hb dX4_join_70 rfl (lv_at hl 0 rfl) ?_
        refine va_get (D := D) (ci := 4) (v := .ref aM_numbers) (C := RX4) (T := TX4) (N := 6) hx hb hts iX4 hown hK.1 hP 4 rfl rfl 0 (by decide) k9 (fun _ h9 => h9) rfl dX4_join_71 ?_
        refine lv_aload_n hx hb dX4_join_74 rfl (lv_at hl 0 rfl) ?_
        refine va_get (D := D) (ci := 4) (v := .int M_length) (C := RX4) (T := TX4) (N := 6) hx hb hts iX4 hown hK.1 hP 4 rfl rfl 3 (by decide) k30 (fun _ h9 => h9) rfl dX4_join_75 ?_
        refine lv_iload_n hx hb dX4_join_78 rfl (lv_at hl 2 rfl) ?_
        refine ckE hf (fun h79 hf => ?_)
        refine va_iast hx hb hK.1 hP hD hS 5 0 rfl rfl (inB_in h79) dX4_join_79 (fun H locs hP hD hS => ?_)
        have hP : va_P D vwCl [(aL, .inr (1, [.ref aL_kinds, .ref aL_vs, .ref aL_ws, .ref aL_roles, .ref aL_mates, .int L_many])), (aL_kinds, eI cI 16 L_kinds), (aL_vs, eI cI 16 L_vs), (aL_ws, eI cI 16 L_ws), (aM, .inr (4, [.ref aM_numbers, .ref aM_ranks, .ref aM_ahead, .int M_length, .ref aM_ways, .int M_waysCounted])), (aM_numbers, eI cI 12 (upd M_numbers (M_length).toNatClampNeg x2)), (aM_ranks, eI cI 16 M_ranks), (aM_ahead, eI cI 12 M_ahead)] H := hP
        have hD : va_D A [(aL, .inr (1, [.ref aL_kinds, .ref aL_vs, .ref aL_ws, .ref aL_roles, .ref aL_mates, .int L_many])), (aL_kinds, eI cI 16 L_kinds), (aL_vs, eI cI 16 L_vs), (aL_ws, eI cI 16 L_ws), (aM, .inr (4, [.ref aM_numbers, .ref aM_ranks, .ref aM_ahead, .int M_length, .ref aM_ways, .int M_waysCounted])), (aM_numbers, eI cI 12 (upd M_numbers (M_length).toNatClampNeg x2)), (aM_ranks, eI cI 16 M_ranks), (aM_ahead, eI cI 12 M_ahead)] := hD
        refine lv_aload_n hx hb dX4_join_80 rfl (lv_at hl 0 rfl) ?_
        refine va_get (D := D) (ci := 4) (v := .ref aM_ranks) (C := RX4) (T := TX4) (N := 6) hx hb hts iX4 hown hK.1 hP 4 rfl rfl 1 (by decide) k15 (fun _ h9 => h9) rfl dX4_join_81 ?_
        refine lv_iload_n hx hb dX4_join_84 rfl (lv_at hl 2 rfl) ?_
        refine lv_aload_n hx hb dX4_join_85 rfl (lv_at hl 0 rfl) ?_
        refine va_get (D := D) (ci := 4) (v := .int M_length) (C := RX4) (T := TX4) (N := 6) hx hb hts iX4 hown hK.1 hP 4 rfl rfl 3 (by decide) k30 (fun _ h9 => h9) rfl dX4_join_86 ?_
        refine ckE hf (fun h89 hf => ?_)
        refine va_iast hx hb hK.1 hP hD hS 6 0 rfl rfl (inB_in h89) dX4_join_89 (fun H locs hP hD hS => ?_)
        have hP : va_P D vwCl [(aL, .inr (1, [.ref aL_kinds, .ref aL_vs, .ref aL_ws, .ref aL_roles, .ref aL_mates, .int L_many])), (aL_kinds, eI cI 16 L_kinds), (aL_vs, eI cI 16 L_vs), (aL_ws, eI cI 16 L_ws), (aM, .inr (4, [.ref aM_numbers, .ref aM_ranks, .ref aM_ahead, .int M_length, .ref aM_ways, .int M_waysCounted])), (aM_numbers, eI cI 12 (upd M_numbers (M_length).toNatClampNeg x2)), (aM_ranks, eI cI 16 (upd M_ranks (x2).toNatClampNeg M_length)), (aM_ahead, eI cI 12 M_ahead)] H := hP
        have hD : va_D A [(aL, .inr (1, [.ref aL_kinds, .ref aL_vs, .ref aL_ws, .ref aL_roles, .ref aL_mates, .int L_many])), (aL_kinds, eI cI 16 L_kinds), (aL_vs, eI cI 16 L_vs), (aL_ws, eI cI 16 L_ws), (aM, .inr (4, [.ref aM_numbers, .ref aM_ranks, .ref aM_ahead, .int M_length, .ref aM_ways, .int M_waysCounted])), (aM_numbers, eI cI 12 (upd M_numbers (M_length).toNatClampNeg x2)), (aM_ranks, eI cI 16 (upd M_ranks (x2).toNatClampNeg M_length)), (aM_ahead, eI cI 12 M_ahead)] := hD
        refine lv_aload_n hx hb dX4_join_90 rfl (lv_at hl 0 rfl) ?_
        refine va_get (D := D) (ci := 4) (v := .ref aM_ahead) (C := RX4) (T := TX4) (N := 6) hx hb hts iX4 hown hK.1 hP 4 rfl rfl 2 (by decide) k18 (fun _ h9 => h9) rfl dX4_join_91 ?_
        refine lv_aload_n hx hb dX4_join_94 rfl (lv_at hl 0 rfl) ?_
        refine va_get (D := D) (ci := 4) (v := .int M_length) (C := RX4) (T := TX4) (N := 6) hx hb hts iX4 hown hK.1 hP 4 rfl rfl 3 (by decide) k30 (fun _ h9 => h9) rfl dX4_join_95 ?_
        refine lv_iload_n hx hb dX4_join_98 rfl (lv_at hl 3 rfl) ?_
        refine ckE hf (fun h99 hf => ?_)
        refine va_iast hx hb hK.1 hP hD hS 7 0 rfl rfl (inB_in h99) dX4_join_99 (fun H locs hP hD hS => ?_)
        have hP : va_P D vwCl [(aL, .inr (1, [.ref aL_kinds, .ref aL_vs, .ref aL_ws, .ref aL_roles, .ref aL_mates, .int L_many])), (aL_kinds, eI cI 16 L_kinds), (aL_vs, eI cI 16 L_vs), (aL_ws, eI cI 16 L_ws), (aM, .inr (4, [.ref aM_numbers, .ref aM_ranks, .ref aM_ahead, .int M_length, .ref aM_ways, .int M_waysCounted])), (aM_numbers, eI cI 12 (upd M_numbers (M_length).toNatClampNeg x2)), (aM_ranks, eI cI 16 (upd M_ranks (x2).toNatClampNeg M_length)), (aM_ahead, eI cI 12 (upd M_ahead (M_length).toNatClampNeg x3))] H := hP
        have hD : va_D A [(aL, .inr (1, [.ref aL_kinds, .ref aL_vs, .ref aL_ws, .ref aL_roles, .ref aL_mates, .int L_many])), (aL_kinds, eI cI 16 L_kinds), (aL_vs, eI cI 16 L_vs), (aL_ws, eI cI 16 L_ws), (aM, .inr (4, [.ref aM_numbers, .ref aM_ranks, .ref aM_ahead, .int M_length, .ref aM_ways, .int M_waysCounted])), (aM_numbers, eI cI 12 (upd M_numbers (M_length).toNatClampNeg x2)), (aM_ranks, eI cI 16 (upd M_ranks (x2).toNatClampNeg M_length)), (aM_ahead, eI cI 12 (upd M_ahead (M_length).toNatClampNeg x3))] := hD
        refine lv_aload_n hx hb dX4_join_100 rfl (lv_at hl 0 rfl) ?_
        refine lv_dup hx hb dX4_join_101 rfl ?_
        refine va_get (D := D) (ci := 4) (v := .int M_length) (C := RX4) (T := TX4) (N := 6) hx hb hts iX4 hown hK.1 hP 4 rfl rfl 3 (by decide) k30 (fun _ h9 => h9) rfl dX4_join_102 ?_
        refine lv_iconst (v := (1 : Int32)) hx hb dX4_join_105 (by decide) ?_
        refine lv_iadd hx hb dX4_join_106 ?_
        refine va_put (D := D) (ci := 4) (v := .int (M_length + (1 : Int32))) (ty := .int) (C := RX4) (T := TX4) (N := 6) hx hb hts iX4 tyX4 tyX4_ok nmX4 hown hK.1 hP hD hS 4 rfl rfl 3 (by decide) k30 (fun _ h9 => h9) rfl (by decide +kernel) rfl rfl (Nat.le_of_ble_eq_true rfl) dX4_join_107 (fun H locs hP hD hS => ?_)
        have hP : va_P D vwCl [(aL, .inr (1, [.ref aL_kinds, .ref aL_vs, .ref aL_ws, .ref aL_roles, .ref aL_mates, .int L_many])), (aL_kinds, eI cI 16 L_kinds), (aL_vs, eI cI 16 L_vs), (aL_ws, eI cI 16 L_ws), (aM, .inr (4, [.ref aM_numbers, .ref aM_ranks, .ref aM_ahead, .int (M_length + (1 : Int32)), .ref aM_ways, .int M_waysCounted])), (aM_numbers, eI cI 12 (upd M_numbers (M_length).toNatClampNeg x2)), (aM_ranks, eI cI 16 (upd M_ranks (x2).toNatClampNeg M_length)), (aM_ahead, eI cI 12 (upd M_ahead (M_length).toNatClampNeg x3))] H := hP
        have hD : va_D A [(aL, .inr (1, [.ref aL_kinds, .ref aL_vs, .ref aL_ws, .ref aL_roles, .ref aL_mates, .int L_many])), (aL_kinds, eI cI 16 L_kinds), (aL_vs, eI cI 16 L_vs), (aL_ws, eI cI 16 L_ws), (aM, .inr (4, [.ref aM_numbers, .ref aM_ranks, .ref aM_ahead, .int (M_length + (1 : Int32)), .ref aM_ways, .int M_waysCounted])), (aM_numbers, eI cI 12 (upd M_numbers (M_length).toNatClampNeg x2)), (aM_ranks, eI cI 16 (upd M_ranks (x2).toNatClampNeg M_length)), (aM_ahead, eI cI 12 (upd M_ahead (M_length).toNatClampNeg x3))] := hD
        refine lv_aload_n hx hb dX4_join_110 rfl (lv_at hl 0 rfl) ?_
        refine lv_iconst (v := (0 : Int32)) hx hb dX4_join_111 (by decide) ?_
        refine va_put (D := D) (ci := 4) (v := .int (0 : Int32)) (ty := .boolean) (C := RX4) (T := TX4) (N := 6) hx hb hts iX4 tyX4 tyX4_ok nmX4 hown hK.1 hP hD hS 4 rfl rfl 5 (by decide) k34 (fun _ h9 => h9) rfl (by decide +kernel) rfl rfl (Nat.le_of_ble_eq_true rfl) dX4_join_112 (fun H locs hP hD hS => ?_)
        have hP : va_P D vwCl [(aL, .inr (1, [.ref aL_kinds, .ref aL_vs, .ref aL_ws, .ref aL_roles, .ref aL_mates, .int L_many])), (aL_kinds, eI cI 16 L_kinds), (aL_vs, eI cI 16 L_vs), (aL_ws, eI cI 16 L_ws), (aM, .inr (4, [.ref aM_numbers, .ref aM_ranks, .ref aM_ahead, .int (M_length + (1 : Int32)), .ref aM_ways, .int (0 : Int32)])), (aM_numbers, eI cI 12 (upd M_numbers (M_length).toNatClampNeg x2)), (aM_ranks, eI cI 16 (upd M_ranks (x2).toNatClampNeg M_length)), (aM_ahead, eI cI 12 (upd M_ahead (M_length).toNatClampNeg x3))] H := hP
        have hD : va_D A [(aL, .inr (1, [.ref aL_kinds, .ref aL_vs, .ref aL_ws, .ref aL_roles, .ref aL_mates, .int L_many])), (aL_kinds, eI cI 16 L_kinds), (aL_vs, eI cI 16 L_vs), (aL_ws, eI cI 16 L_ws), (aM, .inr (4, [.ref aM_numbers, .ref aM_ranks, .ref aM_ahead, .int (M_length + (1 : Int32)), .ref aM_ways, .int (0 : Int32)])), (aM_numbers, eI cI 12 (upd M_numbers (M_length).toNatClampNeg x2)), (aM_ranks, eI cI 16 (upd M_ranks (x2).toNatClampNeg M_length)), (aM_ahead, eI cI 12 (upd M_ahead (M_length).toNatClampNeg x3))] := hD
        rw [hQQ]
        exact W.vret hx hb hr (fun t ht hW => by rw [← Option.some.inj hf]; rw [← hAe] at hD hS; exact ⟨⟨(), rfl, trivial, by rw [ht]; exact hP, hD⟩, hS.F ht⟩) hS.2.2 dX4_join_115
      · have hf := ifn hf c31
        refine lv_aload_n hx hb dX4_join_34 rfl (lv_at hl 1 rfl) ?_
        refine lv_aload_n hx hb dX4_join_35 rfl (lv_at hl 0 rfl) ?_
        refine va_get (D := D) (ci := 4) (v := .ref aM_numbers) (C := RX4) (T := TX4) (N := 6) hx hb hts iX4 hown hK.1 hP 4 rfl rfl 0 (by decide) k9 (fun _ h9 => h9) rfl dX4_join_36 ?_
        refine lv_iload hx hb dX4_join_39 (lv_at hl 4 rfl) ?_
        refine ckE hf (fun h41 hf => ?_)
        refine va_iald hx hb hK.1 hP 5 0 rfl rfl (inB_in h41) dX4_join_41 ?_
        refine lv_iload_n hx hb dX4_join_42 rfl (lv_at hl 2 rfl) ?_
        refine bnd hf (fun o43 e43 hf => ?_)
        refine rdVi (As := [.int (M_numbers (x4).toNatClampNeg), .int x2]) (rest := []) ⟨hx, hb, hml, hown, hts⟩ (tX1_areBound l D cI cJ cG aL aL_kinds aL_vs aL_ws aL_roles aL_mates H (M_numbers (x4).toNatClampNeg) x2 L_many L_kinds L_vs L_ws o43 e43) (cwV 2 hts gX4_join_X1_areBound rfl rfl rfl (by decide +kernel) ⟨Nat.le_of_ble_eq_true rfl, Nat.le_of_ble_eq_true rfl⟩) (va_recv (ci := 1) (q0 := 0) hK.1 hP rfl rfl) hK (hP.sub (ws' := [(aL, .inr (1, [.ref aL_kinds, .ref aL_vs, .ref aL_ws, .ref aL_roles, .ref aL_mates, .int L_many])), (aL_kinds, eI cI 16 L_kinds), (aL_vs, eI cI 16 L_vs), (aL_ws, eI cI 16 L_ws)]) [0, 1, 2, 3] rfl) rfl hl.1 rfl (lv_room (Nat.le_of_ble_eq_true rfl)) dX4_join_43 ⟨Nat.le_of_ble_eq_true rfl, Nat.le_of_ble_eq_true rfl⟩ hS (fun locs hS => ?_)
        refine lv_if_eq (tgt := 64) hx hb dX4_join_46 (by decide) (fun c46 => ?_) (fun c46 => ?_)
        · have hf := ifp hf c46
          refine lv_iinc (v := (x4 + (1 : Int32))) (lv' := [(4, .int (x4 + (1 : Int32))), (0, .ref aM), (1, .ref aL), (2, .int x2), (3, .int x3)]) hx hb dX4_join_64 hl (k := 4) rfl rfl (by decide) rfl (fun ls hl => ?_)
          refine lv_goto (tgt := 25) hx hb dX4_join_67 (by decide) ?_
          exact ih x2 x3 (x4 + (1 : Int32)) M_length M_waysCounted M_numbers M_ranks M_ahead hf _ _ _ hP hD hS (lv_sub hl [1, 2, 3, 4, 0] rfl)
        · have hf := ifn hf c46
          refine lv_iload_n hx hb dX4_join_49 rfl (lv_at hl 3 rfl) ?_
          refine lv_aload_n hx hb dX4_join_50 rfl (lv_at hl 0 rfl) ?_
          refine va_get (D := D) (ci := 4) (v := .ref aM_ahead) (C := RX4) (T := TX4) (N := 6) hx hb hts iX4 hown hK.1 hP 4 rfl rfl 2 (by decide) k18 (fun _ h9 => h9) rfl dX4_join_51 ?_
          refine lv_iload hx hb dX4_join_54 (lv_at hl 4 rfl) ?_
          refine ckE hf (fun h56 hf => ?_)
          refine va_iald hx hb hK.1 hP 7 0 rfl rfl (inB_in h56) dX4_join_56 ?_
          refine lv_iconst (v := (1 : Int32)) hx hb dX4_join_57 (by decide) ?_
          refine lv_iload hx hb dX4_join_58 (lv_at hl 4 rfl) ?_
          refine lv_ishl hx hb dX4_join_60 ?_
          refine lv_ior hx hb dX4_join_61 ?_
          refine lv_ior hx hb dX4_join_62 ?_
          refine lv_istore_n (lv' := [(3, .int (x3 ||| ((M_ahead (x4).toNatClampNeg) ||| ((1 : Int32) <<< (x4 &&& 31))))), (0, .ref aM), (1, .ref aL), (2, .int x2), (4, .int x4)]) hx hb dX4_join_63 rfl hl (by decide) rfl (fun ls hl => ?_)
          refine lv_iinc (v := (x4 + (1 : Int32))) (lv' := [(4, .int (x4 + (1 : Int32))), (3, .int (x3 ||| ((M_ahead (x4).toNatClampNeg) ||| ((1 : Int32) <<< (x4 &&& 31))))), (0, .ref aM), (1, .ref aL), (2, .int x2)]) hx hb dX4_join_64 hl (k := 4) rfl rfl (by decide) rfl (fun ls hl => ?_)
          refine lv_goto (tgt := 25) hx hb dX4_join_67 (by decide) ?_
          exact ih x2 (x3 ||| ((M_ahead (x4).toNatClampNeg) ||| ((1 : Int32) <<< (x4 &&& 31)))) (x4 + (1 : Int32)) M_length M_waysCounted M_numbers M_ranks M_ahead hf _ _ _ hP hD hS (lv_sub hl [2, 3, 4, 1, 0] rfl)
  generalize hHH : s.heap = H at hP ⊢
  have hS : va_S A s.heap H [] := by rw [← hHH]; exact va_S.rf
  generalize ([] : List Loc) = locs at hS ⊢
  unfold fX4_join at hf
  refine lv_aload_n hx hb dX4_join_0 rfl (lv_at hl 0 rfl) ?_
  refine va_get (D := D) (ci := 4) (v := .int M_length) (C := RX4) (T := TX4) (N := 6) hx hb hts iX4 hown hK.1 hP 4 rfl rfl 3 (by decide) k30 (fun _ h9 => h9) rfl dX4_join_1 ?_
  refine lv_bipush (v := (12 : Int32)) hx hb dX4_join_4 (by decide) ?_
  refine lv_icmp_ge (tgt := 19) hx hb dX4_join_6 (by decide) (fun c6 => ?_) (fun c6 => ?_)
  · have hf := ifp hf c6
    rw [hQQ]
    exact W.vret hx hb hr (fun t ht hW => by rw [← Option.some.inj hf]; rw [← hAe] at hD hS; exact ⟨⟨(), rfl, trivial, by rw [ht]; exact hP, hD⟩, hS.F ht⟩) hS.2.2 dX4_join_19
  · have hf := ifn hf c6
    refine lv_iload_n hx hb dX4_join_9 rfl (lv_at hl 2 rfl) ?_
    refine lv_if_lt (tgt := 19) hx hb dX4_join_10 (by decide) (fun c10 => ?_) (fun c10 => ?_)
    · have hf := ifp hf c10
      rw [hQQ]
      exact W.vret hx hb hr (fun t ht hW => by rw [← Option.some.inj hf]; rw [← hAe] at hD hS; exact ⟨⟨(), rfl, trivial, by rw [ht]; exact hP, hD⟩, hS.F ht⟩) hS.2.2 dX4_join_19
    · have hf := ifn hf c10
      refine lv_iload_n hx hb dX4_join_13 rfl (lv_at hl 2 rfl) ?_
      refine lv_bipush (v := (16 : Int32)) hx hb dX4_join_14 (by decide) ?_
      refine lv_icmp_lt (tgt := 20) hx hb dX4_join_16 (by decide) (fun c16 => ?_) (fun c16 => ?_)
      · have hf := ifp hf c16
        refine lv_iconst (v := (0 : Int32)) hx hb dX4_join_20 (by decide) ?_
        refine lv_istore_n (lv' := [(3, .int (0 : Int32)), (0, .ref aM), (1, .ref aL), (2, .int y2)]) hx hb dX4_join_21 rfl hl (by decide) rfl (fun ls hl => ?_)
        refine lv_iconst (v := (0 : Int32)) hx hb dX4_join_22 (by decide) ?_
        refine lv_istore (lv' := [(4, .int (0 : Int32)), (3, .int (0 : Int32)), (0, .ref aM), (1, .ref aL), (2, .int y2)]) hx hb dX4_join_23 hl (by decide) rfl (fun ls hl => ?_)
        exact b_25 FU y2 (0 : Int32) (0 : Int32) M_length M_waysCounted M_numbers M_ranks M_ahead hf _ _ _ hP hD hS (lv_sub hl [2, 3, 4, 1, 0] rfl)
      · have hf := ifn hf c16
        rw [hQQ]
        exact W.vret hx hb hr (fun t ht hW => by rw [← Option.some.inj hf]; rw [← hAe] at hD hS; exact ⟨⟨(), rfl, trivial, by rw [ht]; exact hP, hD⟩, hS.F ht⟩) hS.2.2 dX4_join_19

set_option maxHeartbeats 4000000 in
set_option maxRecDepth 100000 in
theorem tX4_manyPairs (l : Launch) (D : va_G) (cI cJ cG : ClassId) (aM aM_numbers aM_ranks aM_ahead aM_ways : Nat) (Hs : Heap)  (M_length : Int32) (M_waysCounted : Int32) (M_ahead : (Nat → Int32)) (out : Int32) (hf : fX4_manyPairs M_length M_ahead = some out) : Met l yX4_manyPairs wsX4_manyPairs ({ frames := 1, cells := 0, slots := 0, locals := 20 }) (va_Pc [.ref aM] (rP D (tyL cI cJ cG) [(aM, .inr (4, [.ref aM_numbers, .ref aM_ranks, .ref aM_ahead, .int M_length, .ref aM_ways, .int M_waysCounted])), (aM_ahead, eI cI 12 M_ahead)] Hs)) (rQi out Hs) 0 0 (fun _ => False) := by
  refine Met.ofW (cc := cX4_manyPairs) (maxL := 3) (ret := (some .int)) (by decide) rfl ?_
  intro p e s m args below meth c s₁ B hml hv
  obtain ⟨rfl, rfl, hP, hK⟩ := hv
  have hx := B.exec
  have hb := B.bytes
  have hr := B.returns
  have hts := atoms_spec (ws := wsX4_manyPairs) B.pre
  have hown : s.vm.findClass RX4 = some m.cls := findClass_of_methodNamed B.named
  have hlocks := B.notSynchronized
  have iX4 : ∀ w ∈ wsX40, w ∈ wsX4_manyPairs := by decide +kernel
  have k18 := hts (.fieldLink RX4 18 "BlockMarker$Model" "ahead" "[I") (by decide +kernel)
  have k30 := hts (.fieldLink RX4 30 "BlockMarker$Model" "length" "I") (by decide +kernel)
  have hS : va_S (fun _ => False) s.heap s.heap [] := va_S.rf
  have hl := lv_entry ([.ref aM]) (n := 3) (Nat.le_of_ble_eq_true rfl)
  rw [lg_entry_eq]
  generalize (lg_sl ([.ref aM]) ++ List.replicate (3 - (lg_sl ([.ref aM])).length) Slot.unset).toArray = ls at hl ⊢
  have hl : lv_has ls 3 [(0, .ref aM)] := hl
  generalize hQQ : MQ below _ _ s 0 0 _ = QQ
  replace hQQ := hQQ.symm
  have b_4 : ∀ (n : Nat), ∀ (x1 : Int32) (x2 : Int32), fX4_manyPairs_h4  n x1 x2 M_length M_ahead = some out → ∀ (locs : List Loc) (ls : Array Slot), va_S (fun _ => False) s.heap s.heap locs → lv_has ls 3 [(0, .ref aM), (1, .int x1), (2, .int x2)] → W p l e (headSpec wsX4_manyPairs { frames := 1, cells := 0, slots := 0, locals := 20 }).room s m ([.ref aM] : List Value).toArray below meth c s.heap locs 0 0 QQ (F0 m 4 ls []) := by
    intro  n
    induction n with
    | zero => intro x1 x2 hf; exact nomatch (show (none : Option (Int32)) = some out from hf)
    | succ n ih =>
      intro x1 x2 hf locs ls hS hl
      replace hf : uX4_manyPairs_h4  (fX4_manyPairs_h4  n) x1 x2 M_length M_ahead = some out := hf
      unfold uX4_manyPairs_h4 at hf
      refine lv_iload_n hx hb dX4_manyPairs_4 rfl (lv_at hl 2 rfl) ?_
      refine lv_aload_n hx hb dX4_manyPairs_5 rfl (lv_at hl 0 rfl) ?_
      refine va_get (D := D) (ci := 4) (v := .int M_length) (C := RX4) (T := TX4) (N := 6) hx hb hts iX4 hown hK.1 hP 0 rfl rfl 3 (by decide) k30 (fun _ h9 => h9) rfl dX4_manyPairs_6 ?_
      refine lv_icmp_ge (tgt := 30) hx hb dX4_manyPairs_9 (by decide) (fun c9 => ?_) (fun c9 => ?_)
      · have hf := ifp hf c9
        refine lv_iload_n hx hb dX4_manyPairs_30 rfl (lv_at hl 1 rfl) ?_
        rw [hQQ]
        exact W.iret (v := x1) hx hb hr (fun t ht hW => ⟨⟨x1, (), rfl, Option.some.inj hf, ht⟩, rF ht⟩) hS.2.2 dX4_manyPairs_31
      · have hf := ifn hf c9
        refine lv_iload_n hx hb dX4_manyPairs_12 rfl (lv_at hl 1 rfl) ?_
        refine lv_aload_n hx hb dX4_manyPairs_13 rfl (lv_at hl 0 rfl) ?_
        refine va_get (D := D) (ci := 4) (v := .ref aM_ahead) (C := RX4) (T := TX4) (N := 6) hx hb hts iX4 hown hK.1 hP 0 rfl rfl 2 (by decide) k18 (fun _ h9 => h9) rfl dX4_manyPairs_14 ?_
        refine lv_iload_n hx hb dX4_manyPairs_17 rfl (lv_at hl 2 rfl) ?_
        refine ckE hf (fun h18 hf => ?_)
        refine va_iald hx hb hK.1 hP 1 0 rfl rfl (inB_in h18) dX4_manyPairs_18 ?_
        refine bnd hf (fun o19 e19 hf => ?_)
        refine rdSi (As := [.int (M_ahead (x2).toNatClampNeg)]) (rest := [.int x1]) ⟨hx, hb, hml, hown, hts⟩ (tJ6_bitCount_0f7a4 l D cI cJ cG  s.heap (M_ahead (x2).toNatClampNeg)  o19 e19) (va_cwS 1 hts gX4_manyPairs_J6_bitCount_0f7a4 rfl rfl rfl (by decide +kernel) ⟨Nat.le_of_ble_eq_true rfl, Nat.le_of_ble_eq_true rfl⟩) hK (hP.sub (ws' := []) [] rfl) rfl hl.1 rfl (lv_room (Nat.le_of_ble_eq_true rfl)) dX4_manyPairs_19 ⟨Nat.le_of_ble_eq_true rfl, Nat.le_of_ble_eq_true rfl⟩ hS (fun locs hS => ?_)
        refine lv_iadd hx hb dX4_manyPairs_22 ?_
        refine lv_istore_n (lv' := [(1, .int (x1 + o19)), (0, .ref aM), (2, .int x2)]) hx hb dX4_manyPairs_23 rfl hl (by decide) rfl (fun ls hl => ?_)
        refine lv_iinc (v := (x2 + (1 : Int32))) (lv' := [(2, .int (x2 + (1 : Int32))), (1, .int (x1 + o19)), (0, .ref aM)]) hx hb dX4_manyPairs_24 hl (k := 2) rfl rfl (by decide) rfl (fun ls hl => ?_)
        refine lv_goto (tgt := 4) hx hb dX4_manyPairs_27 (by decide) ?_
        exact ih (x1 + o19) (x2 + (1 : Int32)) hf _ _ hS (lv_sub hl [2, 1, 0] rfl)
  unfold fX4_manyPairs at hf
  refine lv_iconst (v := (0 : Int32)) hx hb dX4_manyPairs_0 (by decide) ?_
  refine lv_istore_n (lv' := [(1, .int (0 : Int32)), (0, .ref aM)]) hx hb dX4_manyPairs_1 rfl hl (by decide) rfl (fun ls hl => ?_)
  refine lv_iconst (v := (0 : Int32)) hx hb dX4_manyPairs_2 (by decide) ?_
  refine lv_istore_n (lv' := [(2, .int (0 : Int32)), (1, .int (0 : Int32)), (0, .ref aM)]) hx hb dX4_manyPairs_3 rfl hl (by decide) rfl (fun ls hl => ?_)
  exact b_4 FU (0 : Int32) (0 : Int32) hf _ _ hS (lv_sub hl [2, 1, 0] rfl)

set_option maxHeartbeats 4000000 in
set_option maxRecDepth 100000 in
theorem tX4_mayCome (l : Launch) (D : va_G) (cI cJ cG : ClassId) (aM aM_numbers aM_ranks aM_ahead aM_ways : Nat) (Hs : Heap) (y1 : Int32) (y2 : Int32) (M_length : Int32) (M_waysCounted : Int32) (M_ahead : (Nat → Int32)) (out : Int32) (hf : fX4_mayCome y1 y2 M_length M_ahead = some out) : Met l yX4_mayCome wsX4_mayCome ({ frames := 0, cells := 0, slots := 0, locals := 0 }) (va_Pc [.ref aM, .int y1, .int y2] (rP D (tyL cI cJ cG) [(aM, .inr (4, [.ref aM_numbers, .ref aM_ranks, .ref aM_ahead, .int M_length, .ref aM_ways, .int M_waysCounted])), (aM_ahead, eI cI 12 M_ahead)] Hs)) (rQi out Hs) 0 0 (fun _ => False) := by
  refine Met.ofW (cc := cX4_mayCome) (maxL := 3) (ret := (some .boolean)) (by decide) rfl ?_
  intro p e s m args below meth c s₁ B hml hv
  obtain ⟨rfl, rfl, hP, hK⟩ := hv
  have hx := B.exec
  have hb := B.bytes
  have hr := B.returns
  have hts := atoms_spec (ws := wsX4_mayCome) B.pre
  have hown : s.vm.findClass RX4 = some m.cls := findClass_of_methodNamed B.named
  have hlocks := B.notSynchronized
  have iX4 : ∀ w ∈ wsX40, w ∈ wsX4_mayCome := by decide +kernel
  have k18 := hts (.fieldLink RX4 18 "BlockMarker$Model" "ahead" "[I") (by decide +kernel)
  have k30 := hts (.fieldLink RX4 30 "BlockMarker$Model" "length" "I") (by decide +kernel)
  have hS : va_S (fun _ => False) s.heap s.heap [] := va_S.rf
  have hl := lv_entry ([.ref aM, .int y1, .int y2]) (n := 3) (Nat.le_of_ble_eq_true rfl)
  rw [lg_entry_eq]
  generalize (lg_sl ([.ref aM, .int y1, .int y2]) ++ List.replicate (3 - (lg_sl ([.ref aM, .int y1, .int y2])).length) Slot.unset).toArray = ls at hl ⊢
  have hl : lv_has ls 3 [(0, .ref aM), (1, .int y1), (2, .int y2)] := hl
  generalize hQQ : MQ below _ _ s 0 0 _ = QQ
  replace hQQ := hQQ.symm
  unfold fX4_mayCome at hf
  refine lv_iload_n hx hb dX4_mayCome_0 rfl (lv_at hl 1 rfl) ?_
  refine lv_if_lt (tgt := 37) hx hb dX4_mayCome_1 (by decide) (fun c1 => ?_) (fun c1 => ?_)
  · have hf := ifp hf c1
    refine lv_iconst (v := (0 : Int32)) hx hb dX4_mayCome_37 (by decide) ?_
    rw [hQQ]
    exact W.zret (v := (0 : Int32)) hx hb hr rfl (fun t ht hW => ⟨⟨(0 : Int32), (), rfl, Option.some.inj hf, ht⟩, rF ht⟩) hS.2.2 dX4_mayCome_38
  · have hf := ifn hf c1
    refine lv_iload_n hx hb dX4_mayCome_4 rfl (lv_at hl 1 rfl) ?_
    refine lv_aload_n hx hb dX4_mayCome_5 rfl (lv_at hl 0 rfl) ?_
    refine va_get (D := D) (ci := 4) (v := .int M_length) (C := RX4) (T := TX4) (N := 6) hx hb hts iX4 hown hK.1 hP 0 rfl rfl 3 (by decide) k30 (fun _ h9 => h9) rfl dX4_mayCome_6 ?_
    refine lv_icmp_ge (tgt := 37) hx hb dX4_mayCome_9 (by decide) (fun c9 => ?_) (fun c9 => ?_)
    · have hf := ifp hf c9
      refine lv_iconst (v := (0 : Int32)) hx hb dX4_mayCome_37 (by decide) ?_
      rw [hQQ]
      exact W.zret (v := (0 : Int32)) hx hb hr rfl (fun t ht hW => ⟨⟨(0 : Int32), (), rfl, Option.some.inj hf, ht⟩, rF ht⟩) hS.2.2 dX4_mayCome_38
    · have hf := ifn hf c9
      refine lv_iload_n hx hb dX4_mayCome_12 rfl (lv_at hl 2 rfl) ?_
      refine lv_iload_n hx hb dX4_mayCome_13 rfl (lv_at hl 1 rfl) ?_
      refine lv_ishr hx hb dX4_mayCome_14 ?_
      refine lv_iconst (v := (1 : Int32)) hx hb dX4_mayCome_15 (by decide) ?_
      refine lv_iand hx hb dX4_mayCome_16 ?_
      refine lv_if_ne (tgt := 37) hx hb dX4_mayCome_17 (by decide) (fun c17 => ?_) (fun c17 => ?_)
      · have hf := ifn hf c17
        refine lv_iconst (v := (0 : Int32)) hx hb dX4_mayCome_37 (by decide) ?_
        rw [hQQ]
        exact W.zret (v := (0 : Int32)) hx hb hr rfl (fun t ht hW => ⟨⟨(0 : Int32), (), rfl, Option.some.inj hf, ht⟩, rF ht⟩) hS.2.2 dX4_mayCome_38
      · have hf := ifp hf c17
        refine lv_aload_n hx hb dX4_mayCome_20 rfl (lv_at hl 0 rfl) ?_
        refine va_get (D := D) (ci := 4) (v := .ref aM_ahead) (C := RX4) (T := TX4) (N := 6) hx hb hts iX4 hown hK.1 hP 0 rfl rfl 2 (by decide) k18 (fun _ h9 => h9) rfl dX4_mayCome_21 ?_
        refine lv_iload_n hx hb dX4_mayCome_24 rfl (lv_at hl 1 rfl) ?_
        refine ckE hf (fun h25 hf => ?_)
        refine va_iald hx hb hK.1 hP 1 0 rfl rfl (inB_in h25) dX4_mayCome_25 ?_
        refine lv_iload_n hx hb dX4_mayCome_26 rfl (lv_at hl 2 rfl) ?_
        refine lv_iconst (v := (-1 : Int32)) hx hb dX4_mayCome_27 (by decide) ?_
        refine lv_ixor hx hb dX4_mayCome_28 ?_
        refine lv_iand hx hb dX4_mayCome_29 ?_
        refine lv_if_ne (tgt := 37) hx hb dX4_mayCome_30 (by decide) (fun c30 => ?_) (fun c30 => ?_)
        · have hf := ifn hf c30
          refine lv_iconst (v := (0 : Int32)) hx hb dX4_mayCome_37 (by decide) ?_
          rw [hQQ]
          exact W.zret (v := (0 : Int32)) hx hb hr rfl (fun t ht hW => ⟨⟨(0 : Int32), (), rfl, Option.some.inj hf, ht⟩, rF ht⟩) hS.2.2 dX4_mayCome_38
        · have hf := ifp hf c30
          refine lv_iconst (v := (1 : Int32)) hx hb dX4_mayCome_33 (by decide) ?_
          refine lv_goto (tgt := 38) hx hb dX4_mayCome_34 (by decide) ?_
          rw [hQQ]
          exact W.zret (v := (1 : Int32)) hx hb hr rfl (fun t ht hW => ⟨⟨(1 : Int32), (), rfl, Option.some.inj hf, ht⟩, rF ht⟩) hS.2.2 dX4_mayCome_38

set_option maxHeartbeats 4000000 in
set_option maxRecDepth 100000 in
theorem tX4_waysBefore (l : Launch) (D : va_G) (cI cJ cG : ClassId) (aM aM_numbers aM_ranks aM_ahead aM_ways : Nat) (Hs : Heap) (y1 : Int32) (y2 : Int32) (M_length : Int32) (M_waysCounted : Int32) (M_ahead : (Nat → Int32)) (M_ways : (Nat → Int32)) (out : Int32) (hf : fX4_waysBefore y1 y2 M_length M_ahead M_ways = some out) : Met l yX4_waysBefore wsX4_waysBefore ({ frames := 1, cells := 0, slots := 0, locals := 22 }) (va_Pc [.ref aM, .int y1, .int y2] (rP D (tyL cI cJ cG) [(aM, .inr (4, [.ref aM_numbers, .ref aM_ranks, .ref aM_ahead, .int M_length, .ref aM_ways, .int M_waysCounted])), (aM_ahead, eI cI 12 M_ahead), (aM_ways, eI cI 4096 M_ways)] Hs)) (rQi out Hs) 0 0 (fun _ => False) := by
  refine Met.ofW (cc := cX4_waysBefore) (maxL := 5) (ret := (some .int)) (by decide) rfl ?_
  intro p e s m args below meth c s₁ B hml hv
  obtain ⟨rfl, rfl, hP, hK⟩ := hv
  have hx := B.exec
  have hb := B.bytes
  have hr := B.returns
  have hts := atoms_spec (ws := wsX4_waysBefore) B.pre
  have hown : s.vm.findClass RX4 = some m.cls := findClass_of_methodNamed B.named
  have hlocks := B.notSynchronized
  have iX4 : ∀ w ∈ wsX40, w ∈ wsX4_waysBefore := by decide +kernel
  have k21 := hts (.fieldLink RX4 21 "BlockMarker$Model" "ways" "[I") (by decide +kernel)
  have hS : va_S (fun _ => False) s.heap s.heap [] := va_S.rf
  have hl := lv_entry ([.ref aM, .int y1, .int y2]) (n := 5) (Nat.le_of_ble_eq_true rfl)
  rw [lg_entry_eq]
  generalize (lg_sl ([.ref aM, .int y1, .int y2]) ++ List.replicate (5 - (lg_sl ([.ref aM, .int y1, .int y2])).length) Slot.unset).toArray = ls at hl ⊢
  have hl : lv_has ls 5 [(0, .ref aM), (1, .int y1), (2, .int y2)] := hl
  generalize hQQ : MQ below _ _ s 0 0 _ = QQ
  replace hQQ := hQQ.symm
  have b_5 : ∀ (n : Nat), ∀ (x1 : Int32) (x2 : Int32) (x3 : Int32) (x4 : Int32), fX4_waysBefore_h5  n x1 x2 x3 x4 M_length M_ahead M_ways = some out → ∀ (locs : List Loc) (ls : Array Slot), va_S (fun _ => False) s.heap s.heap locs → lv_has ls 5 [(0, .ref aM), (1, .int x1), (2, .int x2), (3, .int x3), (4, .int x4)] → W p l e (headSpec wsX4_waysBefore { frames := 1, cells := 0, slots := 0, locals := 22 }).room s m ([.ref aM, .int y1, .int y2] : List Value).toArray below meth c s.heap locs 0 0 QQ (F0 m 5 ls []) := by
    intro  n
    induction n with
    | zero => intro x1 x2 x3 x4 hf; exact nomatch (show (none : Option (Int32)) = some out from hf)
    | succ n ih =>
      intro x1 x2 x3 x4 hf locs ls hS hl
      replace hf : uX4_waysBefore_h5  (fX4_waysBefore_h5  n) x1 x2 x3 x4 M_length M_ahead M_ways = some out := hf
      unfold uX4_waysBefore_h5 at hf
      refine lv_iload hx hb dX4_waysBefore_5 (lv_at hl 4 rfl) ?_
      refine lv_iload_n hx hb dX4_waysBefore_7 rfl (lv_at hl 2 rfl) ?_
      refine lv_icmp_ge (tgt := 41) hx hb dX4_waysBefore_8 (by decide) (fun c8 => ?_) (fun c8 => ?_)
      · have hf := ifp hf c8
        refine lv_iload_n hx hb dX4_waysBefore_41 rfl (lv_at hl 3 rfl) ?_
        rw [hQQ]
        exact W.iret (v := x3) hx hb hr (fun t ht hW => ⟨⟨x3, (), rfl, Option.some.inj hf, ht⟩, rF ht⟩) hS.2.2 dX4_waysBefore_42
      · have hf := ifn hf c8
        refine lv_aload_n hx hb dX4_waysBefore_11 rfl (lv_at hl 0 rfl) ?_
        refine lv_iload hx hb dX4_waysBefore_12 (lv_at hl 4 rfl) ?_
        refine lv_iload_n hx hb dX4_waysBefore_14 rfl (lv_at hl 1 rfl) ?_
        refine bnd hf (fun o15 e15 hf => ?_)
        refine rdVi (As := [.int x4, .int x1]) (rest := []) ⟨hx, hb, hml, hown, hts⟩ (tX4_mayCome l D cI cJ cG aM aM_numbers aM_ranks aM_ahead aM_ways s.heap x4 x1 M_length M_waysCounted M_ahead o15 e15) (cwV 2 hts gX4_waysBefore_X4_mayCome rfl rfl rfl (by decide +kernel) ⟨Nat.le_of_ble_eq_true rfl, Nat.le_of_ble_eq_true rfl⟩) (va_recv (ci := 4) (q0 := 0) hK.1 hP rfl rfl) hK (hP.sub (ws' := [(aM, .inr (4, [.ref aM_numbers, .ref aM_ranks, .ref aM_ahead, .int M_length, .ref aM_ways, .int M_waysCounted])), (aM_ahead, eI cI 12 M_ahead)]) [0, 1] rfl) rfl hl.1 rfl (lv_room (Nat.le_of_ble_eq_true rfl)) dX4_waysBefore_15 ⟨Nat.le_of_ble_eq_true rfl, Nat.le_of_ble_eq_true rfl⟩ hS (fun locs hS => ?_)
        refine lv_if_eq (tgt := 35) hx hb dX4_waysBefore_18 (by decide) (fun c18 => ?_) (fun c18 => ?_)
        · have hf := ifp hf c18
          refine lv_iinc (v := (x4 + (1 : Int32))) (lv' := [(4, .int (x4 + (1 : Int32))), (0, .ref aM), (1, .int x1), (2, .int x2), (3, .int x3)]) hx hb dX4_waysBefore_35 hl (k := 4) rfl rfl (by decide) rfl (fun ls hl => ?_)
          refine lv_goto (tgt := 5) hx hb dX4_waysBefore_38 (by decide) ?_
          exact ih x1 x2 x3 (x4 + (1 : Int32)) hf _ _ hS (lv_sub hl [1, 2, 3, 4, 0] rfl)
        · have hf := ifn hf c18
          refine lv_iload_n hx hb dX4_waysBefore_21 rfl (lv_at hl 3 rfl) ?_
          refine lv_aload_n hx hb dX4_waysBefore_22 rfl (lv_at hl 0 rfl) ?_
          refine va_get (D := D) (ci := 4) (v := .ref aM_ways) (C := RX4) (T := TX4) (N := 6) hx hb hts iX4 hown hK.1 hP 0 rfl rfl 4 (by decide) k21 (fun _ h9 => h9) rfl dX4_waysBefore_23 ?_
          refine lv_iload_n hx hb dX4_waysBefore_26 rfl (lv_at hl 1 rfl) ?_
          refine lv_iconst (v := (1 : Int32)) hx hb dX4_waysBefore_27 (by decide) ?_
          refine lv_iload hx hb dX4_waysBefore_28 (lv_at hl 4 rfl) ?_
          refine lv_ishl hx hb dX4_waysBefore_30 ?_
          refine lv_ior hx hb dX4_waysBefore_31 ?_
          refine ckE hf (fun h32 hf => ?_)
          refine va_iald hx hb hK.1 hP 2 0 rfl rfl (inB_in h32) dX4_waysBefore_32 ?_
          refine lv_iadd hx hb dX4_waysBefore_33 ?_
          refine lv_istore_n (lv' := [(3, .int (x3 + (M_ways ((x1 ||| ((1 : Int32) <<< (x4 &&& 31)))).toNatClampNeg))), (0, .ref aM), (1, .int x1), (2, .int x2), (4, .int x4)]) hx hb dX4_waysBefore_34 rfl hl (by decide) rfl (fun ls hl => ?_)
          refine lv_iinc (v := (x4 + (1 : Int32))) (lv' := [(4, .int (x4 + (1 : Int32))), (3, .int (x3 + (M_ways ((x1 ||| ((1 : Int32) <<< (x4 &&& 31)))).toNatClampNeg))), (0, .ref aM), (1, .int x1), (2, .int x2)]) hx hb dX4_waysBefore_35 hl (k := 4) rfl rfl (by decide) rfl (fun ls hl => ?_)
          refine lv_goto (tgt := 5) hx hb dX4_waysBefore_38 (by decide) ?_
          exact ih x1 x2 (x3 + (M_ways ((x1 ||| ((1 : Int32) <<< (x4 &&& 31)))).toNatClampNeg)) (x4 + (1 : Int32)) hf _ _ hS (lv_sub hl [2, 3, 4, 1, 0] rfl)
  unfold fX4_waysBefore at hf
  refine lv_iconst (v := (0 : Int32)) hx hb dX4_waysBefore_0 (by decide) ?_
  refine lv_istore_n (lv' := [(3, .int (0 : Int32)), (0, .ref aM), (1, .int y1), (2, .int y2)]) hx hb dX4_waysBefore_1 rfl hl (by decide) rfl (fun ls hl => ?_)
  refine lv_iconst (v := (0 : Int32)) hx hb dX4_waysBefore_2 (by decide) ?_
  refine lv_istore (lv' := [(4, .int (0 : Int32)), (3, .int (0 : Int32)), (0, .ref aM), (1, .int y1), (2, .int y2)]) hx hb dX4_waysBefore_3 hl (by decide) rfl (fun ls hl => ?_)
  exact b_5 FU y1 y2 (0 : Int32) (0 : Int32) hf _ _ hS (lv_sub hl [2, 3, 4, 1, 0] rfl)

set_option maxHeartbeats 4000000 in
set_option maxRecDepth 100000 in
theorem tX4_countWays (l : Launch) (D : va_G) (cI cJ cG : ClassId) (aM aM_numbers aM_ranks aM_ahead aM_ways : Nat) (sz : Nat)  (M_length : Int32) (M_waysCounted : Int32) (M_ahead : (Nat → Int32)) (M_ways : (Nat → Int32)) (out : Int32 × (Nat → Int32)) (hf : fX4_countWays M_length M_waysCounted M_ahead M_ways = some out) : Met l yX4_countWays wsX4_countWays ({ frames := 2, cells := 0, slots := 0, locals := 46 }) (va_Pc [.ref aM] (wP D (tyL cI cJ cG) [(aM, .inr (4, [.ref aM_numbers, .ref aM_ranks, .ref aM_ahead, .int M_length, .ref aM_ways, .int M_waysCounted])), (aM_ahead, eI cI 12 M_ahead), (aM_ways, eI cI 4096 M_ways)] sz)) (wQv D  [(aM, .inr (4, [.ref aM_numbers, .ref aM_ranks, .ref aM_ahead, .int M_length, .ref aM_ways, .int M_waysCounted])), (aM_ahead, eI cI 12 M_ahead), (aM_ways, eI cI 4096 M_ways)] [(aM, .inr (4, [.ref aM_numbers, .ref aM_ranks, .ref aM_ahead, .int M_length, .ref aM_ways, .int out.1])), (aM_ahead, eI cI 12 M_ahead), (aM_ways, eI cI 4096 out.2)] sz) 0 0 (va_A [(aM, .inr (4, [.ref aM_numbers, .ref aM_ranks, .ref aM_ahead, .int M_length, .ref aM_ways, .int M_waysCounted])), (aM_ahead, eI cI 12 M_ahead), (aM_ways, eI cI 4096 M_ways)] sz) := by
  refine Met.ofW (cc := cX4_countWays) (maxL := 3) (ret := none) (by decide) rfl ?_
  intro p e s m args below meth c s₁ B hml hv
  obtain ⟨rfl, hsz, hP, hK, hD0⟩ := hv
  have hx := B.exec
  have hb := B.bytes
  have hr := B.returns
  have hts := atoms_spec (ws := wsX4_countWays) B.pre
  have hown : s.vm.findClass RX4 = some m.cls := findClass_of_methodNamed B.named
  have hlocks := B.notSynchronized
  have iX4 : ∀ w ∈ wsX40, w ∈ wsX4_countWays := by decide +kernel
  have k21 := hts (.fieldLink RX4 21 "BlockMarker$Model" "ways" "[I") (by decide +kernel)
  have k30 := hts (.fieldLink RX4 30 "BlockMarker$Model" "length" "I") (by decide +kernel)
  have k34 := hts (.fieldLink RX4 34 "BlockMarker$Model" "waysCounted" "Z") (by decide +kernel)
  subst hsz
  have hD := hD0.self (sz := s.heap.size)
  generalize hAe : va_A [(aM, .inr (4, [.ref aM_numbers, .ref aM_ranks, .ref aM_ahead, .int M_length, .ref aM_ways, .int M_waysCounted])), (aM_ahead, eI cI 12 M_ahead), (aM_ways, eI cI 4096 M_ways)] s.heap.size = A at hD ⊢
  have hA : ∀ q : Nat, s.heap.size ≤ q → A q := fun q h => by rw [← hAe]; exact Or.inr h
  have hS : va_S A s.heap s.heap [] := va_S.rf
  have hl := lv_entry ([.ref aM]) (n := 3) (Nat.le_of_ble_eq_true rfl)
  rw [lg_entry_eq]
  generalize (lg_sl ([.ref aM]) ++ List.replicate (3 - (lg_sl ([.ref aM])).length) Slot.unset).toArray = ls at hl ⊢
  have hl : lv_has ls 3 [(0, .ref aM)] := hl
  generalize hQQ : MQ below _ _ s 0 0 _ = QQ
  replace hQQ := hQQ.symm
  have b_28 : ∀ (n : Nat), ∀ (x2 : Int32) (M_waysCounted : Int32) (M_ways : (Nat → Int32)), fX4_countWays_h28  n x2 M_length M_waysCounted M_ahead M_ways = some out → ∀ (H : Heap) (locs : List Loc) (ls : Array Slot), va_P D vwCl [(aM, .inr (4, [.ref aM_numbers, .ref aM_ranks, .ref aM_ahead, .int M_length, .ref aM_ways, .int M_waysCounted])), (aM_ahead, eI cI 12 M_ahead), (aM_ways, eI cI 4096 M_ways)] H → va_D A [(aM, .inr (4, [.ref aM_numbers, .ref aM_ranks, .ref aM_ahead, .int M_length, .ref aM_ways, .int M_waysCounted])), (aM_ahead, eI cI 12 M_ahead), (aM_ways, eI cI 4096 M_ways)] → va_S A s.heap H locs → lv_has ls 3 [(0, .ref aM), (2, .int x2)] → W p l e (headSpec wsX4_countWays { frames := 2, cells := 0, slots := 0, locals := 46 }).room s m ([.ref aM] : List Value).toArray below meth c H locs 0 0 QQ (F0 m 28 ls []) := by
    intro  n
    induction n with
    | zero => intro x2 M_waysCounted M_ways hf; exact nomatch (show (none : Option (Int32 × (Nat → Int32))) = some out from hf)
    | succ n ih =>
      intro x2 M_waysCounted M_ways hf H locs ls hP hD hS hl
      replace hf : uX4_countWays_h28  (fX4_countWays_h28  n) x2 M_length M_waysCounted M_ahead M_ways = some out := hf
      unfold uX4_countWays_h28 at hf
      refine lv_iload_n hx hb dX4_countWays_28 rfl (lv_at hl 1 rfl) ?_
      refine lv_if_lt (tgt := 53) hx hb dX4_countWays_29 (by decide) (fun c29 => ?_) (fun c29 => ?_)
      · have hf := ifp hf c29
        refine lv_aload_n hx hb dX4_countWays_53 rfl (lv_at hl 0 rfl) ?_
        refine lv_iconst (v := (1 : Int32)) hx hb dX4_countWays_54 (by decide) ?_
        refine va_put (D := D) (ci := 4) (v := .int (1 : Int32)) (ty := .boolean) (C := RX4) (T := TX4) (N := 6) hx hb hts iX4 tyX4 tyX4_ok nmX4 hown hK.1 hP hD hS 0 rfl rfl 5 (by decide) k34 (fun _ h9 => h9) rfl (by decide +kernel) rfl rfl (Nat.le_of_ble_eq_true rfl) dX4_countWays_55 (fun H locs hP hD hS => ?_)
        have hP : va_P D vwCl [(aM, .inr (4, [.ref aM_numbers, .ref aM_ranks, .ref aM_ahead, .int M_length, .ref aM_ways, .int (1 : Int32)])), (aM_ahead, eI cI 12 M_ahead), (aM_ways, eI cI 4096 M_ways)] H := hP
        have hD : va_D A [(aM, .inr (4, [.ref aM_numbers, .ref aM_ranks, .ref aM_ahead, .int M_length, .ref aM_ways, .int (1 : Int32)])), (aM_ahead, eI cI 12 M_ahead), (aM_ways, eI cI 4096 M_ways)] := hD
        rw [hQQ]
        exact W.vret hx hb hr (fun t ht hW => by rw [← Option.some.inj hf]; rw [← hAe] at hD hS; exact ⟨⟨(), rfl, trivial, by rw [ht]; exact hP, hD⟩, hS.F ht⟩) hS.2.2 dX4_countWays_58
      · have hf := ifn hf c29
        refine lv_aload_n hx hb dX4_countWays_32 rfl (lv_at hl 0 rfl) ?_
        refine va_get (D := D) (ci := 4) (v := .ref aM_ways) (C := RX4) (T := TX4) (N := 6) hx hb hts iX4 hown hK.1 hP 0 rfl rfl 4 (by decide) k21 (fun _ h9 => h9) rfl dX4_countWays_33 ?_
        refine lv_iload_n hx hb dX4_countWays_36 rfl (lv_at hl 1 rfl) ?_
        refine lv_aload_n hx hb dX4_countWays_37 rfl (lv_at hl 0 rfl) ?_
        refine lv_iload_n hx hb dX4_countWays_38 rfl (lv_at hl 1 rfl) ?_
        refine lv_aload_n hx hb dX4_countWays_39 rfl (lv_at hl 0 rfl) ?_
        refine va_get (D := D) (ci := 4) (v := .int M_length) (C := RX4) (T := TX4) (N := 6) hx hb hts iX4 hown hK.1 hP 0 rfl rfl 3 (by decide) k30 (fun _ h9 => h9) rfl dX4_countWays_40 ?_
        refine bnd hf (fun o43 e43 hf => ?_)
        refine rdVi (As := [.int x2, .int M_length]) (rest := [.int x2, .ref aM_ways]) ⟨hx, hb, hml, hown, hts⟩ (tX4_waysBefore l D cI cJ cG aM aM_numbers aM_ranks aM_ahead aM_ways H x2 M_length M_length M_waysCounted M_ahead M_ways o43 e43) (cwV 2 hts gX4_countWays_X4_waysBefore rfl rfl rfl (by decide +kernel) ⟨Nat.le_of_ble_eq_true rfl, Nat.le_of_ble_eq_true rfl⟩) (va_recv (ci := 4) (q0 := 0) hK.1 hP rfl rfl) hK (hP.sub (ws' := [(aM, .inr (4, [.ref aM_numbers, .ref aM_ranks, .ref aM_ahead, .int M_length, .ref aM_ways, .int M_waysCounted])), (aM_ahead, eI cI 12 M_ahead), (aM_ways, eI cI 4096 M_ways)]) [0, 1, 2] rfl) rfl hl.1 rfl (lv_room (Nat.le_of_ble_eq_true rfl)) dX4_countWays_43 ⟨Nat.le_of_ble_eq_true rfl, Nat.le_of_ble_eq_true rfl⟩ hS (fun locs hS => ?_)
        refine ckE hf (fun h46 hf => ?_)
        refine va_iast hx hb hK.1 hP hD hS 2 0 rfl rfl (inB_in h46) dX4_countWays_46 (fun H locs hP hD hS => ?_)
        have hP : va_P D vwCl [(aM, .inr (4, [.ref aM_numbers, .ref aM_ranks, .ref aM_ahead, .int M_length, .ref aM_ways, .int M_waysCounted])), (aM_ahead, eI cI 12 M_ahead), (aM_ways, eI cI 4096 (upd M_ways (x2).toNatClampNeg o43))] H := hP
        have hD : va_D A [(aM, .inr (4, [.ref aM_numbers, .ref aM_ranks, .ref aM_ahead, .int M_length, .ref aM_ways, .int M_waysCounted])), (aM_ahead, eI cI 12 M_ahead), (aM_ways, eI cI 4096 (upd M_ways (x2).toNatClampNeg o43))] := hD
        refine lv_iinc (v := (x2 + (-1 : Int32))) (lv' := [(2, .int (x2 + (-1 : Int32))), (0, .ref aM)]) hx hb dX4_countWays_47 hl (k := 1) rfl rfl (by decide) rfl (fun ls hl => ?_)
        refine lv_goto (tgt := 28) hx hb dX4_countWays_50 (by decide) ?_
        exact ih (x2 + (-1 : Int32)) M_waysCounted (upd M_ways (x2).toNatClampNeg o43) hf _ _ _ hP hD hS (lv_sub hl [1, 0] rfl)
  generalize hHH : s.heap = H at hP ⊢
  have hS : va_S A s.heap H [] := by rw [← hHH]; exact va_S.rf
  generalize ([] : List Loc) = locs at hS ⊢
  unfold fX4_countWays at hf
  refine lv_aload_n hx hb dX4_countWays_0 rfl (lv_at hl 0 rfl) ?_
  refine va_get (D := D) (ci := 4) (v := .int M_waysCounted) (C := RX4) (T := TX4) (N := 6) hx hb hts iX4 hown hK.1 hP 0 rfl rfl 5 (by decide) k34 (fun _ h9 => h9) rfl dX4_countWays_1 ?_
  refine lv_if_eq (tgt := 8) hx hb dX4_countWays_4 (by decide) (fun c4 => ?_) (fun c4 => ?_)
  · have hf := ifp hf c4
    refine lv_iconst (v := (1 : Int32)) hx hb dX4_countWays_8 (by decide) ?_
    refine lv_aload_n hx hb dX4_countWays_9 rfl (lv_at hl 0 rfl) ?_
    refine va_get (D := D) (ci := 4) (v := .int M_length) (C := RX4) (T := TX4) (N := 6) hx hb hts iX4 hown hK.1 hP 0 rfl rfl 3 (by decide) k30 (fun _ h9 => h9) rfl dX4_countWays_10 ?_
    refine lv_ishl hx hb dX4_countWays_13 ?_
    refine lv_iconst (v := (1 : Int32)) hx hb dX4_countWays_14 (by decide) ?_
    refine lv_isub hx hb dX4_countWays_15 ?_
    refine lv_istore_n (lv' := [(1, .int (((1 : Int32) <<< (M_length &&& 31)) - (1 : Int32))), (0, .ref aM)]) hx hb dX4_countWays_16 rfl hl (by decide) rfl (fun ls hl => ?_)
    refine lv_aload_n hx hb dX4_countWays_17 rfl (lv_at hl 1 rfl) ?_
    refine va_get (D := D) (ci := 4) (v := .ref aM_ways) (C := RX4) (T := TX4) (N := 6) hx hb hts iX4 hown hK.1 hP 0 rfl rfl 4 (by decide) k21 (fun _ h9 => h9) rfl dX4_countWays_18 ?_
    refine lv_iload_n hx hb dX4_countWays_21 rfl (lv_at hl 0 rfl) ?_
    refine lv_iconst (v := (1 : Int32)) hx hb dX4_countWays_22 (by decide) ?_
    refine ckE hf (fun h23 hf => ?_)
    refine va_iast hx hb hK.1 hP hD hS 2 0 rfl rfl (inB_in h23) dX4_countWays_23 (fun H locs hP hD hS => ?_)
    have hP : va_P D vwCl [(aM, .inr (4, [.ref aM_numbers, .ref aM_ranks, .ref aM_ahead, .int M_length, .ref aM_ways, .int M_waysCounted])), (aM_ahead, eI cI 12 M_ahead), (aM_ways, eI cI 4096 (upd M_ways ((((1 : Int32) <<< (M_length &&& 31)) - (1 : Int32))).toNatClampNeg (1 : Int32)))] H := hP
    have hD : va_D A [(aM, .inr (4, [.ref aM_numbers, .ref aM_ranks, .ref aM_ahead, .int M_length, .ref aM_ways, .int M_waysCounted])), (aM_ahead, eI cI 12 M_ahead), (aM_ways, eI cI 4096 (upd M_ways ((((1 : Int32) <<< (M_length &&& 31)) - (1 : Int32))).toNatClampNeg (1 : Int32)))] := hD
    refine lv_iload_n hx hb dX4_countWays_24 rfl (lv_at hl 0 rfl) ?_
    refine lv_iconst (v := (1 : Int32)) hx hb dX4_countWays_25 (by decide) ?_
    refine lv_isub hx hb dX4_countWays_26 ?_
    refine lv_istore_n (lv' := [(2, .int ((((1 : Int32) <<< (M_length &&& 31)) - (1 : Int32)) - (1 : Int32))), (1, .int (((1 : Int32) <<< (M_length &&& 31)) - (1 : Int32))), (0, .ref aM)]) hx hb dX4_countWays_27 rfl hl (by decide) rfl (fun ls hl => ?_)
    exact b_28 FU ((((1 : Int32) <<< (M_length &&& 31)) - (1 : Int32)) - (1 : Int32)) M_waysCounted (upd M_ways ((((1 : Int32) <<< (M_length &&& 31)) - (1 : Int32))).toNatClampNeg (1 : Int32)) hf _ _ _ hP hD hS (lv_sub hl [2, 0] rfl)
  · have hf := ifn hf c4
    rw [hQQ]
    exact W.vret hx hb hr (fun t ht hW => by rw [← Option.some.inj hf]; rw [← hAe] at hD hS; exact ⟨⟨(), rfl, trivial, by rw [ht]; exact hP, hD⟩, hS.F ht⟩) hS.2.2 dX4_countWays_7

set_option maxHeartbeats 4000000 in
set_option maxRecDepth 100000 in
theorem tX4_manyOrders (l : Launch) (D : va_G) (cI cJ cG : ClassId) (aM aM_numbers aM_ranks aM_ahead aM_ways : Nat) (sz : Nat)  (M_length : Int32) (M_waysCounted : Int32) (M_ahead : (Nat → Int32)) (M_ways : (Nat → Int32)) (out : Int64 × Int32 × (Nat → Int32)) (hf : fX4_manyOrders M_length M_waysCounted M_ahead M_ways = some out) : Met l yX4_manyOrders wsX4_manyOrders ({ frames := 3, cells := 0, slots := 0, locals := 68 }) (va_Pc [.ref aM] (wP D (tyL cI cJ cG) [(aM, .inr (4, [.ref aM_numbers, .ref aM_ranks, .ref aM_ahead, .int M_length, .ref aM_ways, .int M_waysCounted])), (aM_ahead, eI cI 12 M_ahead), (aM_ways, eI cI 4096 M_ways)] sz)) (wQl D out.1 [(aM, .inr (4, [.ref aM_numbers, .ref aM_ranks, .ref aM_ahead, .int M_length, .ref aM_ways, .int M_waysCounted])), (aM_ahead, eI cI 12 M_ahead), (aM_ways, eI cI 4096 M_ways)] [(aM, .inr (4, [.ref aM_numbers, .ref aM_ranks, .ref aM_ahead, .int M_length, .ref aM_ways, .int out.2.1])), (aM_ahead, eI cI 12 M_ahead), (aM_ways, eI cI 4096 out.2.2)] sz) 0 0 (va_A [(aM, .inr (4, [.ref aM_numbers, .ref aM_ranks, .ref aM_ahead, .int M_length, .ref aM_ways, .int M_waysCounted])), (aM_ahead, eI cI 12 M_ahead), (aM_ways, eI cI 4096 M_ways)] sz) := by
  refine Met.ofW (cc := cX4_manyOrders) (maxL := 1) (ret := (some .long)) (by decide) rfl ?_
  intro p e s m args below meth c s₁ B hml hv
  obtain ⟨rfl, hsz, hP, hK, hD0⟩ := hv
  have hx := B.exec
  have hb := B.bytes
  have hr := B.returns
  have hts := atoms_spec (ws := wsX4_manyOrders) B.pre
  have hown : s.vm.findClass RX4 = some m.cls := findClass_of_methodNamed B.named
  have hlocks := B.notSynchronized
  have iX4 : ∀ w ∈ wsX40, w ∈ wsX4_manyOrders := by decide +kernel
  have k21 := hts (.fieldLink RX4 21 "BlockMarker$Model" "ways" "[I") (by decide +kernel)
  subst hsz
  have hD := hD0.self (sz := s.heap.size)
  generalize hAe : va_A [(aM, .inr (4, [.ref aM_numbers, .ref aM_ranks, .ref aM_ahead, .int M_length, .ref aM_ways, .int M_waysCounted])), (aM_ahead, eI cI 12 M_ahead), (aM_ways, eI cI 4096 M_ways)] s.heap.size = A at hD ⊢
  have hA : ∀ q : Nat, s.heap.size ≤ q → A q := fun q h => by rw [← hAe]; exact Or.inr h
  have hS : va_S A s.heap s.heap [] := va_S.rf
  have hl := lv_entry ([.ref aM]) (n := 1) (Nat.le_of_ble_eq_true rfl)
  rw [lg_entry_eq]
  generalize (lg_sl ([.ref aM]) ++ List.replicate (1 - (lg_sl ([.ref aM])).length) Slot.unset).toArray = ls at hl ⊢
  have hl : lv_has ls 1 [(0, .ref aM)] := hl
  generalize hQQ : MQ below _ _ s 0 0 _ = QQ
  replace hQQ := hQQ.symm
  generalize hHH : s.heap = H at hP ⊢
  have hS : va_S A s.heap H [] := by rw [← hHH]; exact va_S.rf
  generalize ([] : List Loc) = locs at hS ⊢
  unfold fX4_manyOrders at hf
  refine lv_aload_n hx hb dX4_manyOrders_0 rfl (lv_at hl 0 rfl) ?_
  refine bnd hf (fun o1 e1 hf => ?_)
  refine wrVv (As := []) (rest := []) (cw := [(aM, .inr (4, [.ref aM_numbers, .ref aM_ranks, .ref aM_ahead, .int M_length, .ref aM_ways, .int M_waysCounted])), (aM_ahead, eI cI 12 M_ahead), (aM_ways, eI cI 4096 M_ways)]) (cw' := [(aM, .inr (4, [.ref aM_numbers, .ref aM_ranks, .ref aM_ahead, .int M_length, .ref aM_ways, .int o1.1])), (aM_ahead, eI cI 12 M_ahead), (aM_ways, eI cI 4096 o1.2)]) (wr := []) (ws2 := [(aM, .inr (4, [.ref aM_numbers, .ref aM_ranks, .ref aM_ahead, .int M_length, .ref aM_ways, .int o1.1])), (aM_ahead, eI cI 12 M_ahead), (aM_ways, eI cI 4096 o1.2)]) ⟨hx, hb, hml, hown, hts⟩ (tX4_countWays l D cI cJ cG aM aM_numbers aM_ranks aM_ahead aM_ways H.size  M_length M_waysCounted M_ahead M_ways o1 e1) (cwV 0 hts gX4_manyOrders_X4_countWays rfl rfl rfl (by decide +kernel) ⟨Nat.le_of_ble_eq_true rfl, Nat.le_of_ble_eq_true rfl⟩) (va_recv (ci := 4) (q0 := 0) hK.1 hP rfl rfl) hK hP hD hS hA [0, 1, 2] [] [0, 1, 2] rfl rfl rfl (by decide) (by decide) (by decide) (by decide) rfl hl.1 rfl (lv_room (Nat.le_of_ble_eq_true rfl)) dX4_manyOrders_1 ⟨Nat.le_of_ble_eq_true rfl, Nat.le_of_ble_eq_true rfl⟩ (fun H locs hP hD hS => ?_)
  refine lv_aload_n hx hb dX4_manyOrders_4 rfl (lv_at hl 0 rfl) ?_
  refine va_get (D := D) (ci := 4) (v := .ref aM_ways) (C := RX4) (T := TX4) (N := 6) hx hb hts iX4 hown hK.1 hP 0 rfl rfl 4 (by decide) k21 (fun _ h9 => h9) rfl dX4_manyOrders_5 ?_
  refine lv_iconst (v := (0 : Int32)) hx hb dX4_manyOrders_8 (by decide) ?_
  refine ckE hf (fun h9 hf => ?_)
  refine va_iald hx hb hK.1 hP 2 0 rfl rfl (inB_in h9) dX4_manyOrders_9 ?_
  refine lv_i2l hx hb dX4_manyOrders_10 rfl ?_
  rw [hQQ]
  exact W.lret (v := ((o1.2 ((0 : Int32)).toNatClampNeg)).toInt64) hx hb hr (fun t ht hW => by rw [← Option.some.inj hf]; rw [← hAe] at hD hS; exact ⟨⟨((o1.2 ((0 : Int32)).toNatClampNeg)).toInt64, (), rfl, rfl, by rw [ht]; exact hP, hD⟩, hS.F ht⟩) hS.2.2 dX4_manyOrders_11

set_option maxHeartbeats 4000000 in
set_option maxRecDepth 100000 in
theorem tX4_nextRank (l : Launch) (D : va_G) (cI cJ cG : ClassId) (aM aM_numbers aM_ranks aM_ahead aM_ways : Nat) (Hs : Heap) (y1 : Int32) (y2 : Int64) (M_length : Int32) (M_waysCounted : Int32) (M_ahead : (Nat → Int32)) (M_ways : (Nat → Int32)) (out : Int32) (hf : fX4_nextRank y1 y2 M_length M_ahead M_ways = some out) : Met l yX4_nextRank wsX4_nextRank ({ frames := 2, cells := 0, slots := 0, locals := 46 }) (va_Pc [.ref aM, .int y1, .long y2] (rP D (tyL cI cJ cG) [(aM, .inr (4, [.ref aM_numbers, .ref aM_ranks, .ref aM_ahead, .int M_length, .ref aM_ways, .int M_waysCounted])), (aM_ahead, eI cI 12 M_ahead), (aM_ways, eI cI 4096 M_ways)] Hs)) (rQi out Hs) 0 0 (fun _ => False) := by
  refine Met.ofW (cc := cX4_nextRank) (maxL := 6) (ret := (some .int)) (by decide) rfl ?_
  intro p e s m args below meth c s₁ B hml hv
  obtain ⟨rfl, rfl, hP, hK⟩ := hv
  have hx := B.exec
  have hb := B.bytes
  have hr := B.returns
  have hts := atoms_spec (ws := wsX4_nextRank) B.pre
  have hown : s.vm.findClass RX4 = some m.cls := findClass_of_methodNamed B.named
  have hlocks := B.notSynchronized
  have iX4 : ∀ w ∈ wsX40, w ∈ wsX4_nextRank := by decide +kernel
  have k30 := hts (.fieldLink RX4 30 "BlockMarker$Model" "length" "I") (by decide +kernel)
  have hS : va_S (fun _ => False) s.heap s.heap [] := va_S.rf
  have hl := lv_entry ([.ref aM, .int y1, .long y2]) (n := 6) (Nat.le_of_ble_eq_true rfl)
  rw [lg_entry_eq]
  generalize (lg_sl ([.ref aM, .int y1, .long y2]) ++ List.replicate (6 - (lg_sl ([.ref aM, .int y1, .long y2])).length) Slot.unset).toArray = ls at hl ⊢
  have hl : lv_has ls 6 [(0, .ref aM), (1, .int y1), (2, .long y2)] := hl
  generalize hQQ : MQ below _ _ s 0 0 _ = QQ
  replace hQQ := hQQ.symm
  have b_6 : ∀ (n : Nat), ∀ (x1 : Int32) (x2 : Int64) (x4 : Int32) (x5 : Int32), fX4_nextRank_h6  n x1 x2 x4 x5 M_length M_ahead M_ways = some out → ∀ (locs : List Loc) (ls : Array Slot), va_S (fun _ => False) s.heap s.heap locs → lv_has ls 6 [(0, .ref aM), (1, .int x1), (2, .long x2), (4, .int x4), (5, .int x5)] → W p l e (headSpec wsX4_nextRank { frames := 2, cells := 0, slots := 0, locals := 46 }).room s m ([.ref aM, .int y1, .long y2] : List Value).toArray below meth c s.heap locs 0 0 QQ (F0 m 6 ls []) := by
    intro  n
    induction n with
    | zero => intro x1 x2 x4 x5 hf; exact nomatch (show (none : Option (Int32)) = some out from hf)
    | succ n ih =>
      intro x1 x2 x4 x5 hf locs ls hS hl
      replace hf : uX4_nextRank_h6  (fX4_nextRank_h6  n) x1 x2 x4 x5 M_length M_ahead M_ways = some out := hf
      unfold uX4_nextRank_h6 at hf
      refine lv_iload hx hb dX4_nextRank_6 (lv_at hl 4 rfl) ?_
      refine lv_aload_n hx hb dX4_nextRank_8 rfl (lv_at hl 0 rfl) ?_
      refine va_get (D := D) (ci := 4) (v := .int M_length) (C := RX4) (T := TX4) (N := 6) hx hb hts iX4 hown hK.1 hP 0 rfl rfl 3 (by decide) k30 (fun _ h9 => h9) rfl dX4_nextRank_9 ?_
      refine lv_icmp_ge (tgt := 48) hx hb dX4_nextRank_12 (by decide) (fun c12 => ?_) (fun c12 => ?_)
      · have hf := ifp hf c12
        refine lv_iload hx hb dX4_nextRank_48 (lv_at hl 3 rfl) ?_
        rw [hQQ]
        exact W.iret (v := x4) hx hb hr (fun t ht hW => ⟨⟨x4, (), rfl, Option.some.inj hf, ht⟩, rF ht⟩) hS.2.2 dX4_nextRank_50
      · have hf := ifn hf c12
        refine lv_aload_n hx hb dX4_nextRank_15 rfl (lv_at hl 0 rfl) ?_
        refine lv_iload hx hb dX4_nextRank_16 (lv_at hl 4 rfl) ?_
        refine lv_iload_n hx hb dX4_nextRank_18 rfl (lv_at hl 1 rfl) ?_
        refine bnd hf (fun o19 e19 hf => ?_)
        refine rdVi (As := [.int x5, .int x1]) (rest := []) ⟨hx, hb, hml, hown, hts⟩ (tX4_mayCome l D cI cJ cG aM aM_numbers aM_ranks aM_ahead aM_ways s.heap x5 x1 M_length M_waysCounted M_ahead o19 e19) (cwV 2 hts gX4_nextRank_X4_mayCome rfl rfl rfl (by decide +kernel) ⟨Nat.le_of_ble_eq_true rfl, Nat.le_of_ble_eq_true rfl⟩) (va_recv (ci := 4) (q0 := 0) hK.1 hP rfl rfl) hK (hP.sub (ws' := [(aM, .inr (4, [.ref aM_numbers, .ref aM_ranks, .ref aM_ahead, .int M_length, .ref aM_ways, .int M_waysCounted])), (aM_ahead, eI cI 12 M_ahead)]) [0, 1] rfl) rfl hl.1 rfl (lv_room (Nat.le_of_ble_eq_true rfl)) dX4_nextRank_19 ⟨Nat.le_of_ble_eq_true rfl, Nat.le_of_ble_eq_true rfl⟩ hS (fun locs hS => ?_)
        refine lv_if_eq (tgt := 42) hx hb dX4_nextRank_22 (by decide) (fun c22 => ?_) (fun c22 => ?_)
        · have hf := ifp hf c22
          refine lv_iinc (v := (x5 + (1 : Int32))) (lv' := [(5, .int (x5 + (1 : Int32))), (0, .ref aM), (1, .int x1), (2, .long x2), (4, .int x4)]) hx hb dX4_nextRank_42 hl (k := 4) rfl rfl (by decide) rfl (fun ls hl => ?_)
          refine lv_goto (tgt := 6) hx hb dX4_nextRank_45 (by decide) ?_
          exact ih x1 x2 x4 (x5 + (1 : Int32)) hf _ _ hS (lv_sub hl [1, 2, 3, 4, 0] rfl)
        · have hf := ifn hf c22
          refine lv_aload_n hx hb dX4_nextRank_25 rfl (lv_at hl 0 rfl) ?_
          refine lv_iload_n hx hb dX4_nextRank_26 rfl (lv_at hl 1 rfl) ?_
          refine lv_iload hx hb dX4_nextRank_27 (lv_at hl 4 rfl) ?_
          refine bnd hf (fun o29 e29 hf => ?_)
          refine rdVi (As := [.int x1, .int x5]) (rest := []) ⟨hx, hb, hml, hown, hts⟩ (tX4_waysBefore l D cI cJ cG aM aM_numbers aM_ranks aM_ahead aM_ways s.heap x1 x5 M_length M_waysCounted M_ahead M_ways o29 e29) (cwV 2 hts gX4_nextRank_X4_waysBefore rfl rfl rfl (by decide +kernel) ⟨Nat.le_of_ble_eq_true rfl, Nat.le_of_ble_eq_true rfl⟩) (va_recv (ci := 4) (q0 := 0) hK.1 hP rfl rfl) hK (hP.sub (ws' := [(aM, .inr (4, [.ref aM_numbers, .ref aM_ranks, .ref aM_ahead, .int M_length, .ref aM_ways, .int M_waysCounted])), (aM_ahead, eI cI 12 M_ahead), (aM_ways, eI cI 4096 M_ways)]) [0, 1, 2] rfl) rfl hl.1 rfl (lv_room (Nat.le_of_ble_eq_true rfl)) dX4_nextRank_29 ⟨Nat.le_of_ble_eq_true rfl, Nat.le_of_ble_eq_true rfl⟩ hS (fun locs hS => ?_)
          refine lv_i2l hx hb dX4_nextRank_32 rfl ?_
          refine lv_lload_n hx hb dX4_nextRank_33 rfl (lv_at hl 2 rfl) ?_
          refine W.lcmp hx hb dX4_nextRank_34 ?_
          refine lv_if_gt (tgt := 42) hx hb dX4_nextRank_35 (by decide) (fun c35 => ?_) (fun c35 => ?_)
          · have hf := ifp hf c35
            refine lv_iinc (v := (x5 + (1 : Int32))) (lv' := [(5, .int (x5 + (1 : Int32))), (0, .ref aM), (1, .int x1), (2, .long x2), (4, .int x4)]) hx hb dX4_nextRank_42 hl (k := 4) rfl rfl (by decide) rfl (fun ls hl => ?_)
            refine lv_goto (tgt := 6) hx hb dX4_nextRank_45 (by decide) ?_
            exact ih x1 x2 x4 (x5 + (1 : Int32)) hf _ _ hS (lv_sub hl [1, 2, 3, 4, 0] rfl)
          · have hf := ifn hf c35
            refine lv_iload hx hb dX4_nextRank_38 (lv_at hl 4 rfl) ?_
            refine lv_istore (lv' := [(4, .int x5), (0, .ref aM), (1, .int x1), (2, .long x2), (5, .int x5)]) hx hb dX4_nextRank_40 hl (by decide) rfl (fun ls hl => ?_)
            refine lv_iinc (v := (x5 + (1 : Int32))) (lv' := [(5, .int (x5 + (1 : Int32))), (4, .int x5), (0, .ref aM), (1, .int x1), (2, .long x2)]) hx hb dX4_nextRank_42 hl (k := 4) rfl rfl (by decide) rfl (fun ls hl => ?_)
            refine lv_goto (tgt := 6) hx hb dX4_nextRank_45 (by decide) ?_
            exact ih x1 x2 x5 (x5 + (1 : Int32)) hf _ _ hS (lv_sub hl [2, 3, 4, 1, 0] rfl)
  unfold fX4_nextRank at hf
  refine lv_iconst (v := (0 : Int32)) hx hb dX4_nextRank_0 (by decide) ?_
  refine lv_istore (lv' := [(4, .int (0 : Int32)), (0, .ref aM), (1, .int y1), (2, .long y2)]) hx hb dX4_nextRank_1 hl (by decide) rfl (fun ls hl => ?_)
  refine lv_iconst (v := (0 : Int32)) hx hb dX4_nextRank_3 (by decide) ?_
  refine lv_istore (lv' := [(5, .int (0 : Int32)), (4, .int (0 : Int32)), (0, .ref aM), (1, .int y1), (2, .long y2)]) hx hb dX4_nextRank_4 hl (by decide) rfl (fun ls hl => ?_)
  exact b_6 FU y1 y2 (0 : Int32) (0 : Int32) hf _ _ hS (lv_sub hl [2, 3, 4, 1, 0] rfl)

set_option maxHeartbeats 4000000 in
set_option maxRecDepth 100000 in
theorem tX4_lineOfOrder (l : Launch) (D : va_G) (cI cJ cG : ClassId) (aM aM_numbers aM_ranks aM_ahead aM_ways : Nat) (sz : Nat) (y1 : Int64) (y3 : Int32) (M_length : Int32) (M_waysCounted : Int32) (M_numbers : (Nat → Int32)) (M_ahead : (Nat → Int32)) (M_ways : (Nat → Int32)) (out : Int32 × Int32 × (Nat → Int32)) (hf : fX4_lineOfOrder y1 y3 M_length M_waysCounted M_numbers M_ahead M_ways = some out) : Met l yX4_lineOfOrder wsX4_lineOfOrder ({ frames := 4, cells := 0, slots := 0, locals := 88 }) (va_Pc [.ref aM, .long y1, .int y3] (wP D (tyL cI cJ cG) [(aM, .inr (4, [.ref aM_numbers, .ref aM_ranks, .ref aM_ahead, .int M_length, .ref aM_ways, .int M_waysCounted])), (aM_numbers, eI cI 12 M_numbers), (aM_ahead, eI cI 12 M_ahead), (aM_ways, eI cI 4096 M_ways)] sz)) (wQi D out.1 [(aM, .inr (4, [.ref aM_numbers, .ref aM_ranks, .ref aM_ahead, .int M_length, .ref aM_ways, .int M_waysCounted])), (aM_numbers, eI cI 12 M_numbers), (aM_ahead, eI cI 12 M_ahead), (aM_ways, eI cI 4096 M_ways)] [(aM, .inr (4, [.ref aM_numbers, .ref aM_ranks, .ref aM_ahead, .int M_length, .ref aM_ways, .int out.2.1])), (aM_numbers, eI cI 12 M_numbers), (aM_ahead, eI cI 12 M_ahead), (aM_ways, eI cI 4096 out.2.2)] sz) 0 0 (va_A [(aM, .inr (4, [.ref aM_numbers, .ref aM_ranks, .ref aM_ahead, .int M_length, .ref aM_ways, .int M_waysCounted])), (aM_numbers, eI cI 12 M_numbers), (aM_ahead, eI cI 12 M_ahead), (aM_ways, eI cI 4096 M_ways)] sz) := by
  refine Met.ofW (cc := cX4_lineOfOrder) (maxL := 9) (ret := (some .int)) (by decide) rfl ?_
  intro p e s m args below meth c s₁ B hml hv
  obtain ⟨rfl, hsz, hP, hK, hD0⟩ := hv
  have hx := B.exec
  have hb := B.bytes
  have hr := B.returns
  have hts := atoms_spec (ws := wsX4_lineOfOrder) B.pre
  have hown : s.vm.findClass RX4 = some m.cls := findClass_of_methodNamed B.named
  have hlocks := B.notSynchronized
  have iX4 : ∀ w ∈ wsX40, w ∈ wsX4_lineOfOrder := by decide +kernel
  have k30 := hts (.fieldLink RX4 30 "BlockMarker$Model" "length" "I") (by decide +kernel)
  subst hsz
  have hD := hD0.self (sz := s.heap.size)
  generalize hAe : va_A [(aM, .inr (4, [.ref aM_numbers, .ref aM_ranks, .ref aM_ahead, .int M_length, .ref aM_ways, .int M_waysCounted])), (aM_numbers, eI cI 12 M_numbers), (aM_ahead, eI cI 12 M_ahead), (aM_ways, eI cI 4096 M_ways)] s.heap.size = A at hD ⊢
  have hA : ∀ q : Nat, s.heap.size ≤ q → A q := fun q h => by rw [← hAe]; exact Or.inr h
  have hS : va_S A s.heap s.heap [] := va_S.rf
  have hl := lv_entry ([.ref aM, .long y1, .int y3]) (n := 9) (Nat.le_of_ble_eq_true rfl)
  rw [lg_entry_eq]
  generalize (lg_sl ([.ref aM, .long y1, .int y3]) ++ List.replicate (9 - (lg_sl ([.ref aM, .long y1, .int y3])).length) Slot.unset).toArray = ls at hl ⊢
  have hl : lv_has ls 9 [(0, .ref aM), (1, .long y1), (3, .int y3)] := hl
  generalize hQQ : MQ below _ _ s 0 0 _ = QQ
  replace hQQ := hQQ.symm
  have b_41 : ∀ (n : Nat), ∀ (x3 : Int32) (x4 : Int64) (x6 : Int32) (x7 : Int32) (x8 : Int32) (M_waysCounted : Int32) (M_ways : (Nat → Int32)), fX4_lineOfOrder_h41  n x3 x4 x6 x7 x8 M_length M_waysCounted M_numbers M_ahead M_ways = some out → ∀ (H : Heap) (locs : List Loc) (ls : Array Slot), va_P D vwCl [(aM, .inr (4, [.ref aM_numbers, .ref aM_ranks, .ref aM_ahead, .int M_length, .ref aM_ways, .int M_waysCounted])), (aM_numbers, eI cI 12 M_numbers), (aM_ahead, eI cI 12 M_ahead), (aM_ways, eI cI 4096 M_ways)] H → va_D A [(aM, .inr (4, [.ref aM_numbers, .ref aM_ranks, .ref aM_ahead, .int M_length, .ref aM_ways, .int M_waysCounted])), (aM_numbers, eI cI 12 M_numbers), (aM_ahead, eI cI 12 M_ahead), (aM_ways, eI cI 4096 M_ways)] → va_S A s.heap H locs → lv_has ls 9 [(0, .ref aM), (3, .int x3), (4, .long x4), (6, .int x6), (7, .int x7), (8, .int x8)] → W p l e (headSpec wsX4_lineOfOrder { frames := 4, cells := 0, slots := 0, locals := 88 }).room s m ([.ref aM, .long y1, .int y3] : List Value).toArray below meth c H locs 0 0 QQ (F0 m 41 ls []) := by
    intro  n
    induction n with
    | zero => intro x3 x4 x6 x7 x8 M_waysCounted M_ways hf; exact nomatch (show (none : Option (Int32 × Int32 × (Nat → Int32))) = some out from hf)
    | succ n ih =>
      intro x3 x4 x6 x7 x8 M_waysCounted M_ways hf H locs ls hP hD hS hl
      replace hf : uX4_lineOfOrder_h41  (fX4_lineOfOrder_h41  n) x3 x4 x6 x7 x8 M_length M_waysCounted M_numbers M_ahead M_ways = some out := hf
      unfold uX4_lineOfOrder_h41 at hf
      refine lv_iload hx hb dX4_lineOfOrder_41 (lv_at hl 5 rfl) ?_
      refine lv_iload_n hx hb dX4_lineOfOrder_43 rfl (lv_at hl 1 rfl) ?_
      refine lv_icmp_gt (tgt := 86) hx hb dX4_lineOfOrder_44 (by decide) (fun c44 => ?_) (fun c44 => ?_)
      · have hf := ifp hf c44
        refine lv_aload_n hx hb dX4_lineOfOrder_86 rfl (lv_at hl 0 rfl) ?_
        refine lv_iload hx hb dX4_lineOfOrder_87 (lv_at hl 4 rfl) ?_
        refine bnd hf (fun o89 e89 hf => ?_)
        refine rdVi (As := [.int x7]) (rest := []) ⟨hx, hb, hml, hown, hts⟩ (tX4_lineOf l D cI cJ cG aM aM_numbers aM_ranks aM_ahead aM_ways H x7 M_length M_waysCounted M_numbers o89 e89) (cwV 1 hts gX4_lineOfOrder_X4_lineOf rfl rfl rfl (by decide +kernel) ⟨Nat.le_of_ble_eq_true rfl, Nat.le_of_ble_eq_true rfl⟩) (va_recv (ci := 4) (q0 := 0) hK.1 hP rfl rfl) hK (hP.sub (ws' := [(aM, .inr (4, [.ref aM_numbers, .ref aM_ranks, .ref aM_ahead, .int M_length, .ref aM_ways, .int M_waysCounted])), (aM_numbers, eI cI 12 M_numbers)]) [0, 1] rfl) rfl hl.1 rfl (lv_room (Nat.le_of_ble_eq_true rfl)) dX4_lineOfOrder_89 ⟨Nat.le_of_ble_eq_true rfl, Nat.le_of_ble_eq_true rfl⟩ hS (fun locs hS => ?_)
        rw [hQQ]
        exact W.iret (v := o89) hx hb hr (fun t ht hW => by rw [← Option.some.inj hf]; rw [← hAe] at hD hS; exact ⟨⟨o89, (), rfl, rfl, by rw [ht]; exact hP, hD⟩, hS.F ht⟩) hS.2.2 dX4_lineOfOrder_92
      · have hf := ifn hf c44
        refine lv_aload_n hx hb dX4_lineOfOrder_47 rfl (lv_at hl 0 rfl) ?_
        refine lv_iload hx hb dX4_lineOfOrder_48 (lv_at hl 3 rfl) ?_
        refine lv_lload hx hb dX4_lineOfOrder_50 (lv_at hl 2 rfl) ?_
        refine bnd hf (fun o52 e52 hf => ?_)
        refine rdVi (As := [.int x6, .long x4]) (rest := []) ⟨hx, hb, hml, hown, hts⟩ (tX4_nextRank l D cI cJ cG aM aM_numbers aM_ranks aM_ahead aM_ways H x6 x4 M_length M_waysCounted M_ahead M_ways o52 e52) (cwV 2 hts gX4_lineOfOrder_X4_nextRank rfl rfl rfl (by decide +kernel) ⟨Nat.le_of_ble_eq_true rfl, Nat.le_of_ble_eq_true rfl⟩) (va_recv (ci := 4) (q0 := 0) hK.1 hP rfl rfl) hK (hP.sub (ws' := [(aM, .inr (4, [.ref aM_numbers, .ref aM_ranks, .ref aM_ahead, .int M_length, .ref aM_ways, .int M_waysCounted])), (aM_ahead, eI cI 12 M_ahead), (aM_ways, eI cI 4096 M_ways)]) [0, 2, 3] rfl) rfl hl.1 rfl (lv_room (Nat.le_of_ble_eq_true rfl)) dX4_lineOfOrder_52 ⟨Nat.le_of_ble_eq_true rfl, Nat.le_of_ble_eq_true rfl⟩ hS (fun locs hS => ?_)
        refine lv_istore (lv' := [(7, .int o52), (0, .ref aM), (3, .int x3), (4, .long x4), (6, .int x6), (8, .int x8)]) hx hb dX4_lineOfOrder_55 hl (by decide) rfl (fun ls hl => ?_)
        refine lv_lload hx hb dX4_lineOfOrder_57 (lv_at hl 3 rfl) ?_
        refine lv_aload_n hx hb dX4_lineOfOrder_59 rfl (lv_at hl 1 rfl) ?_
        refine lv_iload hx hb dX4_lineOfOrder_60 (lv_at hl 4 rfl) ?_
        refine lv_iload hx hb dX4_lineOfOrder_62 (lv_at hl 0 rfl) ?_
        refine bnd hf (fun o64 e64 hf => ?_)
        refine rdVi (As := [.int x6, .int o52]) (rest := [.long x4]) ⟨hx, hb, hml, hown, hts⟩ (tX4_waysBefore l D cI cJ cG aM aM_numbers aM_ranks aM_ahead aM_ways H x6 o52 M_length M_waysCounted M_ahead M_ways o64 e64) (cwV 2 hts gX4_lineOfOrder_X4_waysBefore rfl rfl rfl (by decide +kernel) ⟨Nat.le_of_ble_eq_true rfl, Nat.le_of_ble_eq_true rfl⟩) (va_recv (ci := 4) (q0 := 0) hK.1 hP rfl rfl) hK (hP.sub (ws' := [(aM, .inr (4, [.ref aM_numbers, .ref aM_ranks, .ref aM_ahead, .int M_length, .ref aM_ways, .int M_waysCounted])), (aM_ahead, eI cI 12 M_ahead), (aM_ways, eI cI 4096 M_ways)]) [0, 2, 3] rfl) rfl hl.1 rfl (lv_room (Nat.le_of_ble_eq_true rfl)) dX4_lineOfOrder_64 ⟨Nat.le_of_ble_eq_true rfl, Nat.le_of_ble_eq_true rfl⟩ hS (fun locs hS => ?_)
        refine lv_i2l hx hb dX4_lineOfOrder_67 rfl ?_
        refine lv_lsub hx hb dX4_lineOfOrder_68 ?_
        refine lv_lstore (lv' := [(4, .long (x4 - (o64).toInt64)), (7, .int o52), (0, .ref aM), (3, .int x3), (6, .int x6), (8, .int x8)]) hx hb dX4_lineOfOrder_69 hl (by decide) rfl (fun ls hl => ?_)
        refine lv_iload hx hb dX4_lineOfOrder_71 (lv_at hl 4 rfl) ?_
        refine lv_iconst (v := (1 : Int32)) hx hb dX4_lineOfOrder_73 (by decide) ?_
        refine lv_iload hx hb dX4_lineOfOrder_74 (lv_at hl 1 rfl) ?_
        refine lv_ishl hx hb dX4_lineOfOrder_76 ?_
        refine lv_ior hx hb dX4_lineOfOrder_77 ?_
        refine lv_istore (lv' := [(6, .int (x6 ||| ((1 : Int32) <<< (o52 &&& 31)))), (4, .long (x4 - (o64).toInt64)), (7, .int o52), (0, .ref aM), (3, .int x3), (8, .int x8)]) hx hb dX4_lineOfOrder_78 hl (by decide) rfl (fun ls hl => ?_)
        refine lv_iinc (v := (x8 + (1 : Int32))) (lv' := [(8, .int (x8 + (1 : Int32))), (6, .int (x6 ||| ((1 : Int32) <<< (o52 &&& 31)))), (4, .long (x4 - (o64).toInt64)), (7, .int o52), (0, .ref aM), (3, .int x3)]) hx hb dX4_lineOfOrder_80 hl (k := 5) rfl rfl (by decide) rfl (fun ls hl => ?_)
        refine lv_goto (tgt := 41) hx hb dX4_lineOfOrder_83 (by decide) ?_
        exact ih x3 (x4 - (o64).toInt64) (x6 ||| ((1 : Int32) <<< (o52 &&& 31))) o52 (x8 + (1 : Int32)) M_waysCounted M_ways hf _ _ _ hP hD hS (lv_sub hl [4, 5, 2, 1, 3, 0] rfl)
  generalize hHH : s.heap = H at hP ⊢
  have hS : va_S A s.heap H [] := by rw [← hHH]; exact va_S.rf
  generalize ([] : List Loc) = locs at hS ⊢
  unfold fX4_lineOfOrder at hf
  refine lv_iload_n hx hb dX4_lineOfOrder_0 rfl (lv_at hl 2 rfl) ?_
  refine lv_if_lt (tgt := 27) hx hb dX4_lineOfOrder_1 (by decide) (fun c1 => ?_) (fun c1 => ?_)
  · have hf := ifp hf c1
    refine lv_iconst (v := (-1 : Int32)) hx hb dX4_lineOfOrder_27 (by decide) ?_
    rw [hQQ]
    exact W.iret (v := (-1 : Int32)) hx hb hr (fun t ht hW => by rw [← Option.some.inj hf]; rw [← hAe] at hD hS; exact ⟨⟨(-1 : Int32), (), rfl, rfl, by rw [ht]; exact hP, hD⟩, hS.F ht⟩) hS.2.2 dX4_lineOfOrder_28
  · have hf := ifn hf c1
    refine lv_iload_n hx hb dX4_lineOfOrder_4 rfl (lv_at hl 2 rfl) ?_
    refine lv_aload_n hx hb dX4_lineOfOrder_5 rfl (lv_at hl 0 rfl) ?_
    refine va_get (D := D) (ci := 4) (v := .int M_length) (C := RX4) (T := TX4) (N := 6) hx hb hts iX4 hown hK.1 hP 0 rfl rfl 3 (by decide) k30 (fun _ h9 => h9) rfl dX4_lineOfOrder_6 ?_
    refine lv_icmp_ge (tgt := 27) hx hb dX4_lineOfOrder_9 (by decide) (fun c9 => ?_) (fun c9 => ?_)
    · have hf := ifp hf c9
      refine lv_iconst (v := (-1 : Int32)) hx hb dX4_lineOfOrder_27 (by decide) ?_
      rw [hQQ]
      exact W.iret (v := (-1 : Int32)) hx hb hr (fun t ht hW => by rw [← Option.some.inj hf]; rw [← hAe] at hD hS; exact ⟨⟨(-1 : Int32), (), rfl, rfl, by rw [ht]; exact hP, hD⟩, hS.F ht⟩) hS.2.2 dX4_lineOfOrder_28
    · have hf := ifn hf c9
      refine lv_lload_n hx hb dX4_lineOfOrder_12 rfl (lv_at hl 1 rfl) ?_
      refine lv_lconst (v := 0) hx hb dX4_lineOfOrder_13 (by decide) ?_
      refine W.lcmp hx hb dX4_lineOfOrder_14 ?_
      refine lv_if_lt (tgt := 27) hx hb dX4_lineOfOrder_15 (by decide) (fun c15 => ?_) (fun c15 => ?_)
      · have hf := ifp hf c15
        refine lv_iconst (v := (-1 : Int32)) hx hb dX4_lineOfOrder_27 (by decide) ?_
        rw [hQQ]
        exact W.iret (v := (-1 : Int32)) hx hb hr (fun t ht hW => by rw [← Option.some.inj hf]; rw [← hAe] at hD hS; exact ⟨⟨(-1 : Int32), (), rfl, rfl, by rw [ht]; exact hP, hD⟩, hS.F ht⟩) hS.2.2 dX4_lineOfOrder_28
      · have hf := ifn hf c15
        refine lv_lload_n hx hb dX4_lineOfOrder_18 rfl (lv_at hl 1 rfl) ?_
        refine lv_aload_n hx hb dX4_lineOfOrder_19 rfl (lv_at hl 0 rfl) ?_
        refine bnd hf (fun o20 e20 hf => ?_)
        refine wrVl (As := []) (rest := [.long y1]) (cw := [(aM, .inr (4, [.ref aM_numbers, .ref aM_ranks, .ref aM_ahead, .int M_length, .ref aM_ways, .int M_waysCounted])), (aM_ahead, eI cI 12 M_ahead), (aM_ways, eI cI 4096 M_ways)]) (cw' := [(aM, .inr (4, [.ref aM_numbers, .ref aM_ranks, .ref aM_ahead, .int M_length, .ref aM_ways, .int o20.2.1])), (aM_ahead, eI cI 12 M_ahead), (aM_ways, eI cI 4096 o20.2.2)]) (wr := [(aM_numbers, eI cI 12 M_numbers)]) (ws2 := [(aM, .inr (4, [.ref aM_numbers, .ref aM_ranks, .ref aM_ahead, .int M_length, .ref aM_ways, .int o20.2.1])), (aM_numbers, eI cI 12 M_numbers), (aM_ahead, eI cI 12 M_ahead), (aM_ways, eI cI 4096 o20.2.2)]) ⟨hx, hb, hml, hown, hts⟩ (tX4_manyOrders l D cI cJ cG aM aM_numbers aM_ranks aM_ahead aM_ways H.size  M_length M_waysCounted M_ahead M_ways o20 e20) (cwV 0 hts gX4_lineOfOrder_X4_manyOrders rfl rfl rfl (by decide +kernel) ⟨Nat.le_of_ble_eq_true rfl, Nat.le_of_ble_eq_true rfl⟩) (va_recv (ci := 4) (q0 := 0) hK.1 hP rfl rfl) hK hP hD hS hA [0, 2, 3] [1] [1, 0, 2, 3] rfl rfl rfl (by decide) (by decide) (by decide) (by decide) rfl hl.1 rfl (lv_room (Nat.le_of_ble_eq_true rfl)) dX4_lineOfOrder_20 ⟨Nat.le_of_ble_eq_true rfl, Nat.le_of_ble_eq_true rfl⟩ (fun H locs hP hD hS => ?_)
        refine W.lcmp hx hb dX4_lineOfOrder_23 ?_
        refine lv_if_lt (tgt := 29) hx hb dX4_lineOfOrder_24 (by decide) (fun c24 => ?_) (fun c24 => ?_)
        · have hf := ifp hf c24
          refine lv_lload_n hx hb dX4_lineOfOrder_29 rfl (lv_at hl 1 rfl) ?_
          refine lv_lstore (lv' := [(4, .long y1), (0, .ref aM), (1, .long y1), (3, .int y3)]) hx hb dX4_lineOfOrder_30 hl (by decide) rfl (fun ls hl => ?_)
          refine lv_iconst (v := (0 : Int32)) hx hb dX4_lineOfOrder_32 (by decide) ?_
          refine lv_istore (lv' := [(6, .int (0 : Int32)), (4, .long y1), (0, .ref aM), (1, .long y1), (3, .int y3)]) hx hb dX4_lineOfOrder_33 hl (by decide) rfl (fun ls hl => ?_)
          refine lv_iconst (v := (-1 : Int32)) hx hb dX4_lineOfOrder_35 (by decide) ?_
          refine lv_istore (lv' := [(7, .int (-1 : Int32)), (6, .int (0 : Int32)), (4, .long y1), (0, .ref aM), (1, .long y1), (3, .int y3)]) hx hb dX4_lineOfOrder_36 hl (by decide) rfl (fun ls hl => ?_)
          refine lv_iconst (v := (0 : Int32)) hx hb dX4_lineOfOrder_38 (by decide) ?_
          refine lv_istore (lv' := [(8, .int (0 : Int32)), (7, .int (-1 : Int32)), (6, .int (0 : Int32)), (4, .long y1), (0, .ref aM), (1, .long y1), (3, .int y3)]) hx hb dX4_lineOfOrder_39 hl (by decide) rfl (fun ls hl => ?_)
          exact b_41 FU y3 y1 (0 : Int32) (-1 : Int32) (0 : Int32) o20.2.1 o20.2.2 hf _ _ _ hP hD hS (lv_sub hl [4, 6, 3, 2, 1, 0] rfl)
        · have hf := ifn hf c24
          refine lv_iconst (v := (-1 : Int32)) hx hb dX4_lineOfOrder_27 (by decide) ?_
          rw [hQQ]
          exact W.iret (v := (-1 : Int32)) hx hb hr (fun t ht hW => by rw [← Option.some.inj hf]; rw [← hAe] at hD hS; exact ⟨⟨(-1 : Int32), (), rfl, rfl, by rw [ht]; exact hP, hD⟩, hS.F ht⟩) hS.2.2 dX4_lineOfOrder_28

set_option maxHeartbeats 4000000 in
set_option maxRecDepth 100000 in
theorem tX4_orderOf (l : Launch) (D : va_G) (cI cJ cG : ClassId) (aM aM_numbers aM_ranks aM_ahead aM_ways aA aA_row : Nat) (sz : Nat)  (M_length : Int32) (M_waysCounted : Int32) (M_ranks : (Nat → Int32)) (M_ahead : (Nat → Int32)) (M_ways : (Nat → Int32)) (A_length : Int32) (A_row : (Nat → Int32)) (out : Int64 × Int32 × (Nat → Int32)) (hf : fX4_orderOf M_length M_waysCounted M_ranks M_ahead M_ways A_length A_row = some out) : Met l yX4_orderOf wsX4_orderOf ({ frames := 3, cells := 0, slots := 0, locals := 68 }) (va_Pc [.ref aM, .ref aA] (wP D (tyL cI cJ cG) [(aM, .inr (4, [.ref aM_numbers, .ref aM_ranks, .ref aM_ahead, .int M_length, .ref aM_ways, .int M_waysCounted])), (aM_ranks, eI cI 16 M_ranks), (aM_ahead, eI cI 12 M_ahead), (aM_ways, eI cI 4096 M_ways), (aA, .inr (0, [.ref aA_row, .int A_length])), (aA_row, eI cI 16 A_row)] sz)) (wQl D out.1 [(aM, .inr (4, [.ref aM_numbers, .ref aM_ranks, .ref aM_ahead, .int M_length, .ref aM_ways, .int M_waysCounted])), (aM_ranks, eI cI 16 M_ranks), (aM_ahead, eI cI 12 M_ahead), (aM_ways, eI cI 4096 M_ways), (aA, .inr (0, [.ref aA_row, .int A_length])), (aA_row, eI cI 16 A_row)] [(aM, .inr (4, [.ref aM_numbers, .ref aM_ranks, .ref aM_ahead, .int M_length, .ref aM_ways, .int out.2.1])), (aM_ranks, eI cI 16 M_ranks), (aM_ahead, eI cI 12 M_ahead), (aM_ways, eI cI 4096 out.2.2), (aA, .inr (0, [.ref aA_row, .int A_length])), (aA_row, eI cI 16 A_row)] sz) 0 0 (va_A [(aM, .inr (4, [.ref aM_numbers, .ref aM_ranks, .ref aM_ahead, .int M_length, .ref aM_ways, .int M_waysCounted])), (aM_ranks, eI cI 16 M_ranks), (aM_ahead, eI cI 12 M_ahead), (aM_ways, eI cI 4096 M_ways), (aA, .inr (0, [.ref aA_row, .int A_length])), (aA_row, eI cI 16 A_row)] sz) := by
  refine Met.ofW (cc := cX4_orderOf) (maxL := 7) (ret := (some .long)) (by decide) rfl ?_
  intro p e s m args below meth c s₁ B hml hv
  obtain ⟨rfl, hsz, hP, hK, hD0⟩ := hv
  have hx := B.exec
  have hb := B.bytes
  have hr := B.returns
  have hts := atoms_spec (ws := wsX4_orderOf) B.pre
  have hown : s.vm.findClass RX4 = some m.cls := findClass_of_methodNamed B.named
  have hlocks := B.notSynchronized
  have iX0 : ∀ w ∈ wsX00, w ∈ wsX4_orderOf := by decide +kernel
  have iX4 : ∀ w ∈ wsX40, w ∈ wsX4_orderOf := by decide +kernel
  have k30 := hts (.fieldLink RX4 30 "BlockMarker$Model" "length" "I") (by decide +kernel)
  have n68 := va_Nw.use (A := ([.ref aM, .ref aA] : List Value).toArray) rfl (hK.2 (.fieldLinkNest "BlockMarker$Model" 68 "BlockMarker$Answer" "length" "I" "BlockMarker") (by decide +kernel))
  have q71 := hts (.constantLong RX4 71 (-1)) (by decide +kernel)
  subst hsz
  have hD := hD0.self (sz := s.heap.size)
  generalize hAe : va_A [(aM, .inr (4, [.ref aM_numbers, .ref aM_ranks, .ref aM_ahead, .int M_length, .ref aM_ways, .int M_waysCounted])), (aM_ranks, eI cI 16 M_ranks), (aM_ahead, eI cI 12 M_ahead), (aM_ways, eI cI 4096 M_ways), (aA, .inr (0, [.ref aA_row, .int A_length])), (aA_row, eI cI 16 A_row)] s.heap.size = A at hD ⊢
  have hA : ∀ q : Nat, s.heap.size ≤ q → A q := fun q h => by rw [← hAe]; exact Or.inr h
  have hS : va_S A s.heap s.heap [] := va_S.rf
  have hl := lv_entry ([.ref aM, .ref aA]) (n := 7) (Nat.le_of_ble_eq_true rfl)
  rw [lg_entry_eq]
  generalize (lg_sl ([.ref aM, .ref aA]) ++ List.replicate (7 - (lg_sl ([.ref aM, .ref aA])).length) Slot.unset).toArray = ls at hl ⊢
  have hl : lv_has ls 7 [(0, .ref aM), (1, .ref aA)] := hl
  generalize hQQ : MQ below _ _ s 0 0 _ = QQ
  replace hQQ := hQQ.symm
  have b_27 : ∀ (n : Nat), ∀ (x2 : Int64) (x4 : Int32) (x5 : Int32) (M_waysCounted : Int32) (M_ways : (Nat → Int32)), fX4_orderOf_h27  n x2 x4 x5 M_length M_waysCounted M_ranks M_ahead M_ways A_length A_row = some out → ∀ (H : Heap) (locs : List Loc) (ls : Array Slot), va_P D vwCl [(aM, .inr (4, [.ref aM_numbers, .ref aM_ranks, .ref aM_ahead, .int M_length, .ref aM_ways, .int M_waysCounted])), (aM_ranks, eI cI 16 M_ranks), (aM_ahead, eI cI 12 M_ahead), (aM_ways, eI cI 4096 M_ways), (aA, .inr (0, [.ref aA_row, .int A_length])), (aA_row, eI cI 16 A_row)] H → va_D A [(aM, .inr (4, [.ref aM_numbers, .ref aM_ranks, .ref aM_ahead, .int M_length, .ref aM_ways, .int M_waysCounted])), (aM_ranks, eI cI 16 M_ranks), (aM_ahead, eI cI 12 M_ahead), (aM_ways, eI cI 4096 M_ways), (aA, .inr (0, [.ref aA_row, .int A_length])), (aA_row, eI cI 16 A_row)] → va_S A s.heap H locs → lv_has ls 7 [(0, .ref aM), (1, .ref aA), (2, .long x2), (4, .int x4), (5, .int x5)] → W p l e (headSpec wsX4_orderOf { frames := 3, cells := 0, slots := 0, locals := 68 }).room s m ([.ref aM, .ref aA] : List Value).toArray below meth c H locs 0 0 QQ (F0 m 27 ls []) := by
    intro  n
    induction n with
    | zero => intro x2 x4 x5 M_waysCounted M_ways hf; exact nomatch (show (none : Option (Int64 × Int32 × (Nat → Int32))) = some out from hf)
    | succ n ih =>
      intro x2 x4 x5 M_waysCounted M_ways hf H locs ls hP hD hS hl
      replace hf : uX4_orderOf_h27  (fX4_orderOf_h27  n) x2 x4 x5 M_length M_waysCounted M_ranks M_ahead M_ways A_length A_row = some out := hf
      unfold uX4_orderOf_h27 at hf
      refine lv_iload hx hb dX4_orderOf_27 (lv_at hl 4 rfl) ?_
      refine lv_aload_n hx hb dX4_orderOf_29 rfl (lv_at hl 0 rfl) ?_
      refine va_get (D := D) (ci := 4) (v := .int M_length) (C := RX4) (T := TX4) (N := 6) hx hb hts iX4 hown hK.1 hP 0 rfl rfl 3 (by decide) k30 (fun _ h9 => h9) rfl dX4_orderOf_30 ?_
      refine lv_icmp_ge (tgt := 90) hx hb dX4_orderOf_33 (by decide) (fun c33 => ?_) (fun c33 => ?_)
      · have hf := ifp hf c33
        refine lv_lload_n hx hb dX4_orderOf_90 rfl (lv_at hl 2 rfl) ?_
        rw [hQQ]
        exact W.lret (v := x2) hx hb hr (fun t ht hW => by rw [← Option.some.inj hf]; rw [← hAe] at hD hS; exact ⟨⟨x2, (), rfl, rfl, by rw [ht]; exact hP, hD⟩, hS.F ht⟩) hS.2.2 dX4_orderOf_91
      · have hf := ifn hf c33
        refine lv_aload_n hx hb dX4_orderOf_36 rfl (lv_at hl 0 rfl) ?_
        refine lv_aload_n hx hb dX4_orderOf_37 rfl (lv_at hl 1 rfl) ?_
        refine lv_iload hx hb dX4_orderOf_38 (lv_at hl 4 rfl) ?_
        refine bnd hf (fun o40 e40 hf => ?_)
        refine rdVi (As := [.int x5]) (rest := [.ref aM]) ⟨hx, hb, hml, hown, hts⟩ (tX0_lineAt l D cI cJ cG aA aA_row H x5 A_length A_row o40 e40) (cwV 1 hts gX4_orderOf_X0_lineAt rfl rfl rfl (by decide +kernel) ⟨Nat.le_of_ble_eq_true rfl, Nat.le_of_ble_eq_true rfl⟩) (va_recv (ci := 0) (q0 := 4) hK.1 hP rfl rfl) hK (hP.sub (ws' := [(aA, .inr (0, [.ref aA_row, .int A_length])), (aA_row, eI cI 16 A_row)]) [4, 5] rfl) rfl hl.1 rfl (lv_room (Nat.le_of_ble_eq_true rfl)) dX4_orderOf_40 ⟨Nat.le_of_ble_eq_true rfl, Nat.le_of_ble_eq_true rfl⟩ hS (fun locs hS => ?_)
        refine bnd hf (fun o43 e43 hf => ?_)
        refine rdVi (As := [.int o40]) (rest := []) ⟨hx, hb, hml, hown, hts⟩ (tX4_rankOf l D cI cJ cG aM aM_numbers aM_ranks aM_ahead aM_ways H o40 M_length M_waysCounted M_ranks o43 e43) (cwV 1 hts gX4_orderOf_X4_rankOf rfl rfl rfl (by decide +kernel) ⟨Nat.le_of_ble_eq_true rfl, Nat.le_of_ble_eq_true rfl⟩) (va_recv (ci := 4) (q0 := 0) hK.1 hP rfl rfl) hK (hP.sub (ws' := [(aM, .inr (4, [.ref aM_numbers, .ref aM_ranks, .ref aM_ahead, .int M_length, .ref aM_ways, .int M_waysCounted])), (aM_ranks, eI cI 16 M_ranks)]) [0, 1] rfl) rfl hl.1 rfl (lv_room (Nat.le_of_ble_eq_true rfl)) dX4_orderOf_43 ⟨Nat.le_of_ble_eq_true rfl, Nat.le_of_ble_eq_true rfl⟩ hS (fun locs hS => ?_)
        refine lv_istore (lv' := [(6, .int o43), (0, .ref aM), (1, .ref aA), (2, .long x2), (4, .int x4), (5, .int x5)]) hx hb dX4_orderOf_46 hl (by decide) rfl (fun ls hl => ?_)
        refine lv_aload_n hx hb dX4_orderOf_48 rfl (lv_at hl 1 rfl) ?_
        refine lv_iload hx hb dX4_orderOf_49 (lv_at hl 0 rfl) ?_
        refine lv_iload hx hb dX4_orderOf_51 (lv_at hl 4 rfl) ?_
        refine bnd hf (fun o53 e53 hf => ?_)
        refine rdVi (As := [.int o43, .int x4]) (rest := []) ⟨hx, hb, hml, hown, hts⟩ (tX4_mayCome l D cI cJ cG aM aM_numbers aM_ranks aM_ahead aM_ways H o43 x4 M_length M_waysCounted M_ahead o53 e53) (cwV 2 hts gX4_orderOf_X4_mayCome rfl rfl rfl (by decide +kernel) ⟨Nat.le_of_ble_eq_true rfl, Nat.le_of_ble_eq_true rfl⟩) (va_recv (ci := 4) (q0 := 0) hK.1 hP rfl rfl) hK (hP.sub (ws' := [(aM, .inr (4, [.ref aM_numbers, .ref aM_ranks, .ref aM_ahead, .int M_length, .ref aM_ways, .int M_waysCounted])), (aM_ahead, eI cI 12 M_ahead)]) [0, 2] rfl) rfl hl.1 rfl (lv_room (Nat.le_of_ble_eq_true rfl)) dX4_orderOf_53 ⟨Nat.le_of_ble_eq_true rfl, Nat.le_of_ble_eq_true rfl⟩ hS (fun locs hS => ?_)
        refine lv_if_ne (tgt := 63) hx hb dX4_orderOf_56 (by decide) (fun c56 => ?_) (fun c56 => ?_)
        · have hf := ifn hf c56
          refine lv_lload_n hx hb dX4_orderOf_63 rfl (lv_at hl 3 rfl) ?_
          refine lv_aload_n hx hb dX4_orderOf_64 rfl (lv_at hl 1 rfl) ?_
          refine lv_iload hx hb dX4_orderOf_65 (lv_at hl 4 rfl) ?_
          refine lv_iload hx hb dX4_orderOf_67 (lv_at hl 0 rfl) ?_
          refine bnd hf (fun o69 e69 hf => ?_)
          refine rdVi (As := [.int x4, .int o43]) (rest := [.long x2]) ⟨hx, hb, hml, hown, hts⟩ (tX4_waysBefore l D cI cJ cG aM aM_numbers aM_ranks aM_ahead aM_ways H x4 o43 M_length M_waysCounted M_ahead M_ways o69 e69) (cwV 2 hts gX4_orderOf_X4_waysBefore rfl rfl rfl (by decide +kernel) ⟨Nat.le_of_ble_eq_true rfl, Nat.le_of_ble_eq_true rfl⟩) (va_recv (ci := 4) (q0 := 0) hK.1 hP rfl rfl) hK (hP.sub (ws' := [(aM, .inr (4, [.ref aM_numbers, .ref aM_ranks, .ref aM_ahead, .int M_length, .ref aM_ways, .int M_waysCounted])), (aM_ahead, eI cI 12 M_ahead), (aM_ways, eI cI 4096 M_ways)]) [0, 2, 3] rfl) rfl hl.1 rfl (lv_room (Nat.le_of_ble_eq_true rfl)) dX4_orderOf_69 ⟨Nat.le_of_ble_eq_true rfl, Nat.le_of_ble_eq_true rfl⟩ hS (fun locs hS => ?_)
          refine lv_i2l hx hb dX4_orderOf_72 rfl ?_
          refine lv_ladd hx hb dX4_orderOf_73 ?_
          refine lv_lstore_n (lv' := [(2, .long (x2 + (o69).toInt64)), (6, .int o43), (0, .ref aM), (1, .ref aA), (4, .int x4), (5, .int x5)]) hx hb dX4_orderOf_74 rfl hl (by decide) rfl (fun ls hl => ?_)
          refine lv_iload hx hb dX4_orderOf_75 (lv_at hl 4 rfl) ?_
          refine lv_iconst (v := (1 : Int32)) hx hb dX4_orderOf_77 (by decide) ?_
          refine lv_iload hx hb dX4_orderOf_78 (lv_at hl 1 rfl) ?_
          refine lv_ishl hx hb dX4_orderOf_80 ?_
          refine lv_ior hx hb dX4_orderOf_81 ?_
          refine lv_istore (lv' := [(4, .int (x4 ||| ((1 : Int32) <<< (o43 &&& 31)))), (2, .long (x2 + (o69).toInt64)), (6, .int o43), (0, .ref aM), (1, .ref aA), (5, .int x5)]) hx hb dX4_orderOf_82 hl (by decide) rfl (fun ls hl => ?_)
          refine lv_iinc (v := (x5 + (1 : Int32))) (lv' := [(5, .int (x5 + (1 : Int32))), (4, .int (x4 ||| ((1 : Int32) <<< (o43 &&& 31)))), (2, .long (x2 + (o69).toInt64)), (6, .int o43), (0, .ref aM), (1, .ref aA)]) hx hb dX4_orderOf_84 hl (k := 5) rfl rfl (by decide) rfl (fun ls hl => ?_)
          refine lv_goto (tgt := 27) hx hb dX4_orderOf_87 (by decide) ?_
          exact ih (x2 + (o69).toInt64) (x4 ||| ((1 : Int32) <<< (o43 &&& 31))) (x5 + (1 : Int32)) M_waysCounted M_ways hf _ _ _ hP hD hS (lv_sub hl [4, 5, 2, 1, 0] rfl)
        · have hf := ifp hf c56
          refine lv_ldc2 (v := (-1)) hx hb hown q71 dX4_orderOf_59 ?_
          rw [hQQ]
          exact W.lret (v := ((-1) : Int64)) hx hb hr (fun t ht hW => by rw [← Option.some.inj hf]; rw [← hAe] at hD hS; exact ⟨⟨((-1) : Int64), (), rfl, rfl, by rw [ht]; exact hP, hD⟩, hS.F ht⟩) hS.2.2 dX4_orderOf_62
  generalize hHH : s.heap = H at hP ⊢
  have hS : va_S A s.heap H [] := by rw [← hHH]; exact va_S.rf
  generalize ([] : List Loc) = locs at hS ⊢
  unfold fX4_orderOf at hf
  refine lv_aload_n hx hb dX4_orderOf_0 rfl (lv_at hl 1 rfl) ?_
  refine va_getN (D := D) (ci := 0) (v := .int A_length) (C := RX0) (T := TX0) (N := 2) hx hb hts iX0 hown hK.1 hP 4 rfl rfl 1 (by decide) n68 (fun _ h9 => h9) rfl dX4_orderOf_1 ?_
  refine lv_aload_n hx hb dX4_orderOf_4 rfl (lv_at hl 0 rfl) ?_
  refine va_get (D := D) (ci := 4) (v := .int M_length) (C := RX4) (T := TX4) (N := 6) hx hb hts iX4 hown hK.1 hP 0 rfl rfl 3 (by decide) k30 (fun _ h9 => h9) rfl dX4_orderOf_5 ?_
  refine lv_icmp_eq (tgt := 15) hx hb dX4_orderOf_8 (by decide) (fun c8 => ?_) (fun c8 => ?_)
  · have hf := ifp hf c8
    refine lv_aload_n hx hb dX4_orderOf_15 rfl (lv_at hl 0 rfl) ?_
    refine bnd hf (fun o16 e16 hf => ?_)
    refine wrVv (As := []) (rest := []) (cw := [(aM, .inr (4, [.ref aM_numbers, .ref aM_ranks, .ref aM_ahead, .int M_length, .ref aM_ways, .int M_waysCounted])), (aM_ahead, eI cI 12 M_ahead), (aM_ways, eI cI 4096 M_ways)]) (cw' := [(aM, .inr (4, [.ref aM_numbers, .ref aM_ranks, .ref aM_ahead, .int M_length, .ref aM_ways, .int o16.1])), (aM_ahead, eI cI 12 M_ahead), (aM_ways, eI cI 4096 o16.2)]) (wr := [(aM_ranks, eI cI 16 M_ranks), (aA, .inr (0, [.ref aA_row, .int A_length])), (aA_row, eI cI 16 A_row)]) (ws2 := [(aM, .inr (4, [.ref aM_numbers, .ref aM_ranks, .ref aM_ahead, .int M_length, .ref aM_ways, .int o16.1])), (aM_ranks, eI cI 16 M_ranks), (aM_ahead, eI cI 12 M_ahead), (aM_ways, eI cI 4096 o16.2), (aA, .inr (0, [.ref aA_row, .int A_length])), (aA_row, eI cI 16 A_row)]) ⟨hx, hb, hml, hown, hts⟩ (tX4_countWays l D cI cJ cG aM aM_numbers aM_ranks aM_ahead aM_ways H.size  M_length M_waysCounted M_ahead M_ways o16 e16) (cwV 0 hts gX4_orderOf_X4_countWays rfl rfl rfl (by decide +kernel) ⟨Nat.le_of_ble_eq_true rfl, Nat.le_of_ble_eq_true rfl⟩) (va_recv (ci := 4) (q0 := 0) hK.1 hP rfl rfl) hK hP hD hS hA [0, 2, 3] [1, 4, 5] [3, 0, 4, 5, 1, 2] rfl rfl rfl (by decide) (by decide) (by decide) (by decide) rfl hl.1 rfl (lv_room (Nat.le_of_ble_eq_true rfl)) dX4_orderOf_16 ⟨Nat.le_of_ble_eq_true rfl, Nat.le_of_ble_eq_true rfl⟩ (fun H locs hP hD hS => ?_)
    refine lv_lconst (v := 0) hx hb dX4_orderOf_19 (by decide) ?_
    refine lv_lstore_n (lv' := [(2, .long (0 : Int64)), (0, .ref aM), (1, .ref aA)]) hx hb dX4_orderOf_20 rfl hl (by decide) rfl (fun ls hl => ?_)
    refine lv_iconst (v := (0 : Int32)) hx hb dX4_orderOf_21 (by decide) ?_
    refine lv_istore (lv' := [(4, .int (0 : Int32)), (2, .long (0 : Int64)), (0, .ref aM), (1, .ref aA)]) hx hb dX4_orderOf_22 hl (by decide) rfl (fun ls hl => ?_)
    refine lv_iconst (v := (0 : Int32)) hx hb dX4_orderOf_24 (by decide) ?_
    refine lv_istore (lv' := [(5, .int (0 : Int32)), (4, .int (0 : Int32)), (2, .long (0 : Int64)), (0, .ref aM), (1, .ref aA)]) hx hb dX4_orderOf_25 hl (by decide) rfl (fun ls hl => ?_)
    exact b_27 FU (0 : Int64) (0 : Int32) (0 : Int32) o16.1 o16.2 hf _ _ _ hP hD hS (lv_sub hl [3, 4, 2, 1, 0] rfl)
  · have hf := ifn hf c8
    refine lv_ldc2 (v := (-1)) hx hb hown q71 dX4_orderOf_11 ?_
    rw [hQQ]
    exact W.lret (v := ((-1) : Int64)) hx hb hr (fun t ht hW => by rw [← Option.some.inj hf]; rw [← hAe] at hD hS; exact ⟨⟨((-1) : Int64), (), rfl, rfl, by rw [ht]; exact hP, hD⟩, hS.F ht⟩) hS.2.2 dX4_orderOf_14

