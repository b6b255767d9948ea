set_option maxHeartbeats 4000000 in
set_option maxRecDepth 100000 in
theorem tX2_forget (l : Launch) (D : va_G) (cI cJ cG : ClassId) (aC aC_variables aC_prints : Nat) (sz : Nat)  (C_manyPrints : Int32) (C_variables : (Nat → Int32)) (out : Int32 × (Nat → Int32)) (hf : fX2_forget C_manyPrints C_variables = some out) : Met l yX2_forget wsX2_forget ({ frames := 1, cells := 0, slots := 0, locals := 23 }) (va_Pc [.ref aC] (wP D (tyL cI cJ cG) [(aC, .inr (2, [.ref aC_variables, .ref aC_prints, .int C_manyPrints])), (aC_variables, eI cI 6 C_variables)] sz)) (wQv D  [(aC, .inr (2, [.ref aC_variables, .ref aC_prints, .int C_manyPrints])), (aC_variables, eI cI 6 C_variables)] [(aC, .inr (2, [.ref aC_variables, .ref aC_prints, .int out.1])), (aC_variables, eI cI 6 out.2)] sz) 0 0 (va_A [(aC, .inr (2, [.ref aC_variables, .ref aC_prints, .int C_manyPrints])), (aC_variables, eI cI 6 C_variables)] sz) := by
  refine Met.ofW (cc := cX2_forget) (maxL := 1) (ret := none) (by decide) rfl ?_
  intro p e s m args below meth c s₁ B hml hv
  obtain ⟨rfl, hsz, hP, hK, hD0⟩ := hv
  have hx := B.exec
  have hb := B.bytes
  have hr := B.returns
  have hts := atoms_spec (ws := wsX2_forget) B.pre
  have hown : s.vm.findClass RX2 = some m.cls := findClass_of_methodNamed B.named
  have hlocks := B.notSynchronized
  have iX2 : ∀ w ∈ wsX20, w ∈ wsX2_forget := by decide +kernel
  have k9 := hts (.fieldLink RX2 9 "BlockMarker$Machine" "variables" "[I") (by decide +kernel)
  have k24 := hts (.fieldLink RX2 24 "BlockMarker$Machine" "manyPrints" "I") (by decide +kernel)
  subst hsz
  have hD := hD0.self (sz := s.heap.size)
  generalize hAe : va_A [(aC, .inr (2, [.ref aC_variables, .ref aC_prints, .int C_manyPrints])), (aC_variables, eI cI 6 C_variables)] s.heap.size = A at hD ⊢
  have hA : ∀ q : Nat, s.heap.size ≤ q → A q := fun q h => by rw [← hAe]; exact Or.inr h
  have hS : va_S A s.heap s.heap [] := va_S.rf
  have hl := lv_entry ([.ref aC]) (n := 1) (Nat.le_of_ble_eq_true rfl)
  rw [lg_entry_eq]
  generalize (lg_sl ([.ref aC]) ++ List.replicate (1 - (lg_sl ([.ref aC])).length) Slot.unset).toArray = ls at hl ⊢
  have hl : lv_has ls 1 [(0, .ref aC)] := hl
  generalize hQQ : MQ below _ _ s 0 0 _ = QQ
  replace hQQ := hQQ.symm
  generalize hHH : s.heap = H at hP ⊢
  have hS : va_S A s.heap H [] := by rw [← hHH]; exact va_S.rf
  generalize ([] : List Loc) = locs at hS ⊢
  unfold fX2_forget at hf
  refine lv_aload_n hx hb dX2_forget_0 rfl (lv_at hl 0 rfl) ?_
  refine va_get (D := D) (ci := 2) (v := .ref aC_variables) (C := RX2) (T := TX2) (N := 3) hx hb hts iX2 hown hK.1 hP 0 rfl rfl 0 (by decide) k9 (fun _ h9 => h9) rfl dX2_forget_1 ?_
  refine lv_iconst (v := (0 : Int32)) hx hb dX2_forget_4 (by decide) ?_
  refine bnd hf (fun o5 e5 hf => ?_)
  refine wrSv (As := [.ref aC_variables, .int (0 : Int32)]) (rest := []) (cw := [(aC_variables, eI cI 6 C_variables)]) (cw' := [(aC_variables, eI cI 6 o5)]) (wr := [(aC, .inr (2, [.ref aC_variables, .ref aC_prints, .int C_manyPrints]))]) (ws2 := [(aC, .inr (2, [.ref aC_variables, .ref aC_prints, .int C_manyPrints])), (aC_variables, eI cI 6 o5)]) ⟨hx, hb, hml, hown, hts⟩ (tJ7_fill_53178 l D cI cJ cG aC_variables 6 H.size (0 : Int32) C_variables o5 e5) (va_cwS 2 hts gX2_forget_J7_fill_53178 rfl rfl rfl (by decide +kernel) ⟨Nat.le_of_ble_eq_true rfl, Nat.le_of_ble_eq_true rfl⟩) hK hP hD hS hA [1] [0] [0, 1] rfl rfl rfl (by decide) (by decide) (by decide) (by decide) rfl hl.1 rfl (lv_room (Nat.le_of_ble_eq_true rfl)) dX2_forget_5 ⟨Nat.le_of_ble_eq_true rfl, Nat.le_of_ble_eq_true rfl⟩ (fun H locs hP hD hS => ?_)
  refine lv_aload_n hx hb dX2_forget_8 rfl (lv_at hl 0 rfl) ?_
  refine lv_iconst (v := (0 : Int32)) hx hb dX2_forget_9 (by decide) ?_
  refine va_put (D := D) (ci := 2) (v := .int (0 : Int32)) (ty := .int) (C := RX2) (T := TX2) (N := 3) hx hb hts iX2 tyX2 tyX2_ok nmX2 hown hK.1 hP hD hS 0 rfl rfl 2 (by decide) k24 (fun _ h9 => h9) rfl (by decide +kernel) rfl rfl (Nat.le_of_ble_eq_true rfl) dX2_forget_10 (fun H locs hP hD hS => ?_)
  have hP : va_P D vwCl [(aC, .inr (2, [.ref aC_variables, .ref aC_prints, .int (0 : Int32)])), (aC_variables, eI cI 6 o5)] H := hP
  have hD : va_D A [(aC, .inr (2, [.ref aC_variables, .ref aC_prints, .int (0 : Int32)])), (aC_variables, eI cI 6 o5)] := hD
  rw [hQQ]
  exact W.vret hx hb hr (fun t ht hW => by rw [← Option.some.inj hf]; rw [← hAe] at hD hS; exact ⟨⟨(), rfl, trivial, by rw [ht]; exact hP, hD⟩, hS.F ht⟩) hS.2.2 dX2_forget_13

set_option maxHeartbeats 4000000 in
set_option maxRecDepth 100000 in
theorem tX2_start (l : Launch) (D : va_G) (cI cJ cG : ClassId) (aC aC_variables aC_prints aR : Nat) (sz : Nat)  (C_manyPrints : Int32) (C_variables : (Nat → Int32)) (R_ : (Nat → Int32)) (out : Int32 × (Nat → Int32)) (hf : fX2_start C_manyPrints C_variables R_ = some out) : Met l yX2_start wsX2_start ({ frames := 1, cells := 0, slots := 0, locals := 60 }) (va_Pc [.ref aC, .ref aR] (wP D (tyL cI cJ cG) [(aC, .inr (2, [.ref aC_variables, .ref aC_prints, .int C_manyPrints])), (aC_variables, eI cI 6 C_variables), (aR, eI cI 6 R_)] sz)) (wQv D  [(aC, .inr (2, [.ref aC_variables, .ref aC_prints, .int C_manyPrints])), (aC_variables, eI cI 6 C_variables), (aR, eI cI 6 R_)] [(aC, .inr (2, [.ref aC_variables, .ref aC_prints, .int out.1])), (aC_variables, eI cI 6 out.2), (aR, eI cI 6 R_)] sz) 0 0 (va_A [(aC, .inr (2, [.ref aC_variables, .ref aC_prints, .int C_manyPrints])), (aC_variables, eI cI 6 C_variables), (aR, eI cI 6 R_)] sz) := by
  refine Met.ofW (cc := cX2_start) (maxL := 2) (ret := none) (by decide) rfl ?_
  intro p e s m args below meth c s₁ B hml hv
  obtain ⟨rfl, hsz, hP, hK, hD0⟩ := hv
  have hx := B.exec
  have hb := B.bytes
  have hr := B.returns
  have hts := atoms_spec (ws := wsX2_start) B.pre
  have hown : s.vm.findClass RX2 = some m.cls := findClass_of_methodNamed B.named
  have hlocks := B.notSynchronized
  have iX2 : ∀ w ∈ wsX20, w ∈ wsX2_start := by decide +kernel
  have k9 := hts (.fieldLink RX2 9 "BlockMarker$Machine" "variables" "[I") (by decide +kernel)
  have k24 := hts (.fieldLink RX2 24 "BlockMarker$Machine" "manyPrints" "I") (by decide +kernel)
  subst hsz
  have hD := hD0.self (sz := s.heap.size)
  generalize hAe : va_A [(aC, .inr (2, [.ref aC_variables, .ref aC_prints, .int C_manyPrints])), (aC_variables, eI cI 6 C_variables), (aR, eI cI 6 R_)] s.heap.size = A at hD ⊢
  have hA : ∀ q : Nat, s.heap.size ≤ q → A q := fun q h => by rw [← hAe]; exact Or.inr h
  have hS : va_S A s.heap s.heap [] := va_S.rf
  have hl := lv_entry ([.ref aC, .ref aR]) (n := 2) (Nat.le_of_ble_eq_true rfl)
  rw [lg_entry_eq]
  generalize (lg_sl ([.ref aC, .ref aR]) ++ List.replicate (2 - (lg_sl ([.ref aC, .ref aR])).length) Slot.unset).toArray = ls at hl ⊢
  have hl : lv_has ls 2 [(0, .ref aC), (1, .ref aR)] := hl
  generalize hQQ : MQ below _ _ s 0 0 _ = QQ
  replace hQQ := hQQ.symm
  generalize hHH : s.heap = H at hP ⊢
  have hS : va_S A s.heap H [] := by rw [← hHH]; exact va_S.rf
  generalize ([] : List Loc) = locs at hS ⊢
  unfold fX2_start at hf
  refine lv_aload_n hx hb dX2_start_0 rfl (lv_at hl 1 rfl) ?_
  refine lv_iconst (v := (0 : Int32)) hx hb dX2_start_1 (by decide) ?_
  refine lv_aload_n hx hb dX2_start_2 rfl (lv_at hl 0 rfl) ?_
  refine va_get (D := D) (ci := 2) (v := .ref aC_variables) (C := RX2) (T := TX2) (N := 3) hx hb hts iX2 hown hK.1 hP 0 rfl rfl 0 (by decide) k9 (fun _ h9 => h9) rfl dX2_start_3 ?_
  refine lv_iconst (v := (0 : Int32)) hx hb dX2_start_6 (by decide) ?_
  refine lv_bipush (v := (6 : Int32)) hx hb dX2_start_7 (by decide) ?_
  refine va_copyi (ty := .int) hx hb (by rw [hml]; exact hl.1.symm) hown (hts (.methodLink RX2 28 arraycopyName) (by decide +kernel)) (hts (.native arraycopyName) (by decide +kernel)) (hts (.static arraycopyName) (by decide +kernel)) (hts (.initialized "java/lang/System") (by decide +kernel)) hK.1 hP hD hS 2 1 0 0 rfl rfl rfl rfl rfl (by decide) (by decide) (by decide) (by decide) (by decide) (fun _ _ => rfl) (Nat.le_of_ble_eq_true rfl) (by decide) dX2_start_9 (fun H locs hP hD hS => ?_)
  have hP : va_P D vwCl [(aC, .inr (2, [.ref aC_variables, .ref aC_prints, .int C_manyPrints])), (aC_variables, eI cI 6 (va_cpy R_ C_variables 0 0 6)), (aR, eI cI 6 R_)] H := hP
  have hD : va_D A [(aC, .inr (2, [.ref aC_variables, .ref aC_prints, .int C_manyPrints])), (aC_variables, eI cI 6 (va_cpy R_ C_variables 0 0 6)), (aR, eI cI 6 R_)] := hD
  refine lv_aload_n hx hb dX2_start_12 rfl (lv_at hl 0 rfl) ?_
  refine lv_iconst (v := (0 : Int32)) hx hb dX2_start_13 (by decide) ?_
  refine va_put (D := D) (ci := 2) (v := .int (0 : Int32)) (ty := .int) (C := RX2) (T := TX2) (N := 3) hx hb hts iX2 tyX2 tyX2_ok nmX2 hown hK.1 hP hD hS 0 rfl rfl 2 (by decide) k24 (fun _ h9 => h9) rfl (by decide +kernel) rfl rfl (Nat.le_of_ble_eq_true rfl) dX2_start_14 (fun H locs hP hD hS => ?_)
  have hP : va_P D vwCl [(aC, .inr (2, [.ref aC_variables, .ref aC_prints, .int (0 : Int32)])), (aC_variables, eI cI 6 (va_cpy R_ C_variables 0 0 6)), (aR, eI cI 6 R_)] H := hP
  have hD : va_D A [(aC, .inr (2, [.ref aC_variables, .ref aC_prints, .int (0 : Int32)])), (aC_variables, eI cI 6 (va_cpy R_ C_variables 0 0 6)), (aR, eI cI 6 R_)] := hD
  rw [hQQ]
  exact W.vret hx hb hr (fun t ht hW => by rw [← Option.some.inj hf]; rw [← hAe] at hD hS; exact ⟨⟨(), rfl, trivial, by rw [ht]; exact hP, hD⟩, hS.F ht⟩) hS.2.2 dX2_start_17

set_option maxHeartbeats 4000000 in
set_option maxRecDepth 100000 in
theorem tX2_become (l : Launch) (D : va_G) (cI cJ cG : ClassId) (aC aC_variables aC_prints : Nat) (sz : Nat) (y1 : Int32) (y2 : Int32) (C_manyPrints : Int32) (C_variables : (Nat → Int32)) (out : (Nat → Int32)) (hf : fX2_become y1 y2 C_variables = some out) : Met l yX2_become wsX2_become ({ frames := 1, cells := 0, slots := 0, locals := 20 }) (va_Pc [.ref aC, .int y1, .int y2] (wP D (tyL cI cJ cG) [(aC, .inr (2, [.ref aC_variables, .ref aC_prints, .int C_manyPrints])), (aC_variables, eI cI 6 C_variables)] sz)) (wQv D  [(aC, .inr (2, [.ref aC_variables, .ref aC_prints, .int C_manyPrints])), (aC_variables, eI cI 6 C_variables)] [(aC, .inr (2, [.ref aC_variables, .ref aC_prints, .int C_manyPrints])), (aC_variables, eI cI 6 out)] sz) 0 0 (va_A [(aC, .inr (2, [.ref aC_variables, .ref aC_prints, .int C_manyPrints])), (aC_variables, eI cI 6 C_variables)] sz) := by
  refine Met.ofW (cc := cX2_become) (maxL := 3) (ret := none) (by decide) rfl ?_
  intro p e s m args below meth c s₁ B hml hv
  obtain ⟨rfl, hsz, hP, hK, hD0⟩ := hv
  have hx := B.exec
  have hb := B.bytes
  have hr := B.returns
  have hts := atoms_spec (ws := wsX2_become) B.pre
  have hown : s.vm.findClass RX2 = some m.cls := findClass_of_methodNamed B.named
  have hlocks := B.notSynchronized
  have iX2 : ∀ w ∈ wsX20, w ∈ wsX2_become := by decide +kernel
  have k9 := hts (.fieldLink RX2 9 "BlockMarker$Machine" "variables" "[I") (by decide +kernel)
  subst hsz
  have hD := hD0.self (sz := s.heap.size)
  generalize hAe : va_A [(aC, .inr (2, [.ref aC_variables, .ref aC_prints, .int C_manyPrints])), (aC_variables, eI cI 6 C_variables)] s.heap.size = A at hD ⊢
  have hA : ∀ q : Nat, s.heap.size ≤ q → A q := fun q h => by rw [← hAe]; exact Or.inr h
  have hS : va_S A s.heap s.heap [] := va_S.rf
  have hl := lv_entry ([.ref aC, .int y1, .int y2]) (n := 3) (Nat.le_of_ble_eq_true rfl)
  rw [lg_entry_eq]
  generalize (lg_sl ([.ref aC, .int y1, .int y2]) ++ List.replicate (3 - (lg_sl ([.ref aC, .int y1, .int y2])).length) Slot.unset).toArray = ls at hl ⊢
  have hl : lv_has ls 3 [(0, .ref aC), (1, .int y1), (2, .int y2)] := hl
  generalize hQQ : MQ below _ _ s 0 0 _ = QQ
  replace hQQ := hQQ.symm
  generalize hHH : s.heap = H at hP ⊢
  have hS : va_S A s.heap H [] := by rw [← hHH]; exact va_S.rf
  generalize ([] : List Loc) = locs at hS ⊢
  unfold fX2_become at hf
  refine lv_iload_n hx hb dX2_become_0 rfl (lv_at hl 1 rfl) ?_
  refine bnd hf (fun o1 e1 hf => ?_)
  refine rdSi (As := [.int y1]) (rest := []) ⟨hx, hb, hml, hown, hts⟩ (tX1_isVariable l D cI cJ cG  H y1  o1 e1) (va_cwS 1 hts gX2_become_X1_isVariable rfl rfl rfl (by decide +kernel) ⟨Nat.le_of_ble_eq_true rfl, Nat.le_of_ble_eq_true rfl⟩) hK (hP.sub (ws' := []) [] rfl) rfl hl.1 rfl (lv_room (Nat.le_of_ble_eq_true rfl)) dX2_become_1 ⟨Nat.le_of_ble_eq_true rfl, Nat.le_of_ble_eq_true rfl⟩ hS (fun locs hS => ?_)
  refine lv_if_eq (tgt := 14) hx hb dX2_become_4 (by decide) (fun c4 => ?_) (fun c4 => ?_)
  · have hf := ifp hf c4
    rw [hQQ]
    exact W.vret hx hb hr (fun t ht hW => by rw [← Option.some.inj hf]; rw [← hAe] at hD hS; exact ⟨⟨(), rfl, trivial, by rw [ht]; exact hP, hD⟩, hS.F ht⟩) hS.2.2 dX2_become_14
  · have hf := ifn hf c4
    refine lv_aload_n hx hb dX2_become_7 rfl (lv_at hl 0 rfl) ?_
    refine va_get (D := D) (ci := 2) (v := .ref aC_variables) (C := RX2) (T := TX2) (N := 3) hx hb hts iX2 hown hK.1 hP 0 rfl rfl 0 (by decide) k9 (fun _ h9 => h9) rfl dX2_become_8 ?_
    refine lv_iload_n hx hb dX2_become_11 rfl (lv_at hl 1 rfl) ?_
    refine lv_iload_n hx hb dX2_become_12 rfl (lv_at hl 2 rfl) ?_
    refine ckE hf (fun h13 hf => ?_)
    refine va_iast hx hb hK.1 hP hD hS 1 0 rfl rfl (inB_in h13) dX2_become_13 (fun H locs hP hD hS => ?_)
    have hP : va_P D vwCl [(aC, .inr (2, [.ref aC_variables, .ref aC_prints, .int C_manyPrints])), (aC_variables, eI cI 6 (upd C_variables (y1).toNatClampNeg y2))] H := hP
    have hD : va_D A [(aC, .inr (2, [.ref aC_variables, .ref aC_prints, .int C_manyPrints])), (aC_variables, eI cI 6 (upd C_variables (y1).toNatClampNeg y2))] := hD
    rw [hQQ]
    exact W.vret hx hb hr (fun t ht hW => by rw [← Option.some.inj hf]; rw [← hAe] at hD hS; exact ⟨⟨(), rfl, trivial, by rw [ht]; exact hP, hD⟩, hS.F ht⟩) hS.2.2 dX2_become_14

set_option maxHeartbeats 4000000 in
set_option maxRecDepth 100000 in
theorem tX2_valueOf (l : Launch) (D : va_G) (cI cJ cG : ClassId) (aC aC_variables aC_prints : Nat) (Hs : Heap) (y1 : Int32) (C_manyPrints : Int32) (C_variables : (Nat → Int32)) (out : Int32) (hf : fX2_valueOf y1 C_variables = some out) : Met l yX2_valueOf wsX2_valueOf ({ frames := 1, cells := 0, slots := 0, locals := 20 }) (va_Pc [.ref aC, .int y1] (rP D (tyL cI cJ cG) [(aC, .inr (2, [.ref aC_variables, .ref aC_prints, .int C_manyPrints])), (aC_variables, eI cI 6 C_variables)] Hs)) (rQi out Hs) 0 0 (fun _ => False) := by
  refine Met.ofW (cc := cX2_valueOf) (maxL := 2) (ret := (some .int)) (by decide) rfl ?_
  intro p e s m args below meth c s₁ B hml hv
  obtain ⟨rfl, rfl, hP, hK⟩ := hv
  have hx := B.exec
  have hb := B.bytes
  have hr := B.returns
  have hts := atoms_spec (ws := wsX2_valueOf) B.pre
  have hown : s.vm.findClass RX2 = some m.cls := findClass_of_methodNamed B.named
  have hlocks := B.notSynchronized
  have iX2 : ∀ w ∈ wsX20, w ∈ wsX2_valueOf := by decide +kernel
  have k9 := hts (.fieldLink RX2 9 "BlockMarker$Machine" "variables" "[I") (by decide +kernel)
  have hS : va_S (fun _ => False) s.heap s.heap [] := va_S.rf
  have hl := lv_entry ([.ref aC, .int y1]) (n := 2) (Nat.le_of_ble_eq_true rfl)
  rw [lg_entry_eq]
  generalize (lg_sl ([.ref aC, .int y1]) ++ List.replicate (2 - (lg_sl ([.ref aC, .int y1])).length) Slot.unset).toArray = ls at hl ⊢
  have hl : lv_has ls 2 [(0, .ref aC), (1, .int y1)] := hl
  generalize hQQ : MQ below _ _ s 0 0 _ = QQ
  replace hQQ := hQQ.symm
  unfold fX2_valueOf at hf
  refine lv_iload_n hx hb dX2_valueOf_0 rfl (lv_at hl 1 rfl) ?_
  refine bnd hf (fun o1 e1 hf => ?_)
  refine rdSi (As := [.int y1]) (rest := []) ⟨hx, hb, hml, hown, hts⟩ (tX1_isVariable l D cI cJ cG  s.heap y1  o1 e1) (va_cwS 1 hts gX2_valueOf_X1_isVariable rfl rfl rfl (by decide +kernel) ⟨Nat.le_of_ble_eq_true rfl, Nat.le_of_ble_eq_true rfl⟩) hK (hP.sub (ws' := []) [] rfl) rfl hl.1 rfl (lv_room (Nat.le_of_ble_eq_true rfl)) dX2_valueOf_1 ⟨Nat.le_of_ble_eq_true rfl, Nat.le_of_ble_eq_true rfl⟩ hS (fun locs hS => ?_)
  refine lv_if_eq (tgt := 16) hx hb dX2_valueOf_4 (by decide) (fun c4 => ?_) (fun c4 => ?_)
  · have hf := ifp hf c4
    refine lv_iconst (v := (0 : Int32)) hx hb dX2_valueOf_16 (by decide) ?_
    rw [hQQ]
    exact W.iret (v := (0 : Int32)) hx hb hr (fun t ht hW => ⟨⟨(0 : Int32), (), rfl, Option.some.inj hf, ht⟩, rF ht⟩) hS.2.2 dX2_valueOf_17
  · have hf := ifn hf c4
    refine lv_aload_n hx hb dX2_valueOf_7 rfl (lv_at hl 0 rfl) ?_
    refine va_get (D := D) (ci := 2) (v := .ref aC_variables) (C := RX2) (T := TX2) (N := 3) hx hb hts iX2 hown hK.1 hP 0 rfl rfl 0 (by decide) k9 (fun _ h9 => h9) rfl dX2_valueOf_8 ?_
    refine lv_iload_n hx hb dX2_valueOf_11 rfl (lv_at hl 1 rfl) ?_
    refine ckE hf (fun h12 hf => ?_)
    refine va_iald hx hb hK.1 hP 1 0 rfl rfl (inB_in h12) dX2_valueOf_12 ?_
    refine lv_goto (tgt := 17) hx hb dX2_valueOf_13 (by decide) ?_
    rw [hQQ]
    exact W.iret (v := (C_variables (y1).toNatClampNeg)) hx hb hr (fun t ht hW => ⟨⟨(C_variables (y1).toNatClampNeg), (), rfl, Option.some.inj hf, ht⟩, rF ht⟩) hS.2.2 dX2_valueOf_17

set_option maxHeartbeats 4000000 in
set_option maxRecDepth 100000 in
theorem tX2_print (l : Launch) (D : va_G) (cI cJ cG : ClassId) (aC aC_variables aC_prints : Nat) (sz : Nat) (y1 : Int32) (C_manyPrints : Int32) (C_prints : (Nat → Int32)) (out : Int32 × (Nat → Int32)) (hf : fX2_print y1 C_manyPrints C_prints = some out) : Met l yX2_print wsX2_print ({ frames := 0, cells := 0, slots := 0, locals := 0 }) (va_Pc [.ref aC, .int y1] (wP D (tyL cI cJ cG) [(aC, .inr (2, [.ref aC_variables, .ref aC_prints, .int C_manyPrints])), (aC_prints, eI cI 16 C_prints)] sz)) (wQv D  [(aC, .inr (2, [.ref aC_variables, .ref aC_prints, .int C_manyPrints])), (aC_prints, eI cI 16 C_prints)] [(aC, .inr (2, [.ref aC_variables, .ref aC_prints, .int out.1])), (aC_prints, eI cI 16 out.2)] sz) 0 0 (va_A [(aC, .inr (2, [.ref aC_variables, .ref aC_prints, .int C_manyPrints])), (aC_prints, eI cI 16 C_prints)] sz) := by
  refine Met.ofW (cc := cX2_print) (maxL := 2) (ret := none) (by decide) rfl ?_
  intro p e s m args below meth c s₁ B hml hv
  obtain ⟨rfl, hsz, hP, hK, hD0⟩ := hv
  have hx := B.exec
  have hb := B.bytes
  have hr := B.returns
  have hts := atoms_spec (ws := wsX2_print) B.pre
  have hown : s.vm.findClass RX2 = some m.cls := findClass_of_methodNamed B.named
  have hlocks := B.notSynchronized
  have iX2 : ∀ w ∈ wsX20, w ∈ wsX2_print := by decide +kernel
  have k15 := hts (.fieldLink RX2 15 "BlockMarker$Machine" "prints" "[I") (by decide +kernel)
  have k24 := hts (.fieldLink RX2 24 "BlockMarker$Machine" "manyPrints" "I") (by decide +kernel)
  subst hsz
  have hD := hD0.self (sz := s.heap.size)
  generalize hAe : va_A [(aC, .inr (2, [.ref aC_variables, .ref aC_prints, .int C_manyPrints])), (aC_prints, eI cI 16 C_prints)] s.heap.size = A at hD ⊢
  have hA : ∀ q : Nat, s.heap.size ≤ q → A q := fun q h => by rw [← hAe]; exact Or.inr h
  have hS : va_S A s.heap s.heap [] := va_S.rf
  have hl := lv_entry ([.ref aC, .int y1]) (n := 2) (Nat.le_of_ble_eq_true rfl)
  rw [lg_entry_eq]
  generalize (lg_sl ([.ref aC, .int y1]) ++ List.replicate (2 - (lg_sl ([.ref aC, .int y1])).length) Slot.unset).toArray = ls at hl ⊢
  have hl : lv_has ls 2 [(0, .ref aC), (1, .int y1)] := hl
  generalize hQQ : MQ below _ _ s 0 0 _ = QQ
  replace hQQ := hQQ.symm
  generalize hHH : s.heap = H at hP ⊢
  have hS : va_S A s.heap H [] := by rw [← hHH]; exact va_S.rf
  generalize ([] : List Loc) = locs at hS ⊢
  unfold fX2_print at hf
  refine lv_aload_n hx hb dX2_print_0 rfl (lv_at hl 0 rfl) ?_
  refine va_get (D := D) (ci := 2) (v := .int C_manyPrints) (C := RX2) (T := TX2) (N := 3) hx hb hts iX2 hown hK.1 hP 0 rfl rfl 2 (by decide) k24 (fun _ h9 => h9) rfl dX2_print_1 ?_
  refine lv_bipush (v := (16 : Int32)) hx hb dX2_print_4 (by decide) ?_
  refine lv_icmp_ge (tgt := 26) hx hb dX2_print_6 (by decide) (fun c6 => ?_) (fun c6 => ?_)
  · have hf := ifp hf c6
    rw [hQQ]
    exact W.vret hx hb hr (fun t ht hW => by rw [← Option.some.inj hf]; rw [← hAe] at hD hS; exact ⟨⟨(), rfl, trivial, by rw [ht]; exact hP, hD⟩, hS.F ht⟩) hS.2.2 dX2_print_26
  · have hf := ifn hf c6
    refine lv_aload_n hx hb dX2_print_9 rfl (lv_at hl 0 rfl) ?_
    refine va_get (D := D) (ci := 2) (v := .ref aC_prints) (C := RX2) (T := TX2) (N := 3) hx hb hts iX2 hown hK.1 hP 0 rfl rfl 1 (by decide) k15 (fun _ h9 => h9) rfl dX2_print_10 ?_
    refine lv_aload_n hx hb dX2_print_13 rfl (lv_at hl 0 rfl) ?_
    refine lv_dup hx hb dX2_print_14 rfl ?_
    refine va_get (D := D) (ci := 2) (v := .int C_manyPrints) (C := RX2) (T := TX2) (N := 3) hx hb hts iX2 hown hK.1 hP 0 rfl rfl 2 (by decide) k24 (fun _ h9 => h9) rfl dX2_print_15 ?_
    refine lv_dup_x1 hx hb dX2_print_18 rfl rfl ?_
    refine lv_iconst (v := (1 : Int32)) hx hb dX2_print_19 (by decide) ?_
    refine lv_iadd hx hb dX2_print_20 ?_
    refine va_put (D := D) (ci := 2) (v := .int (C_manyPrints + (1 : Int32))) (ty := .int) (C := RX2) (T := TX2) (N := 3) hx hb hts iX2 tyX2 tyX2_ok nmX2 hown hK.1 hP hD hS 0 rfl rfl 2 (by decide) k24 (fun _ h9 => h9) rfl (by decide +kernel) rfl rfl (Nat.le_of_ble_eq_true rfl) dX2_print_21 (fun H locs hP hD hS => ?_)
    have hP : va_P D vwCl [(aC, .inr (2, [.ref aC_variables, .ref aC_prints, .int (C_manyPrints + (1 : Int32))])), (aC_prints, eI cI 16 C_prints)] H := hP
    have hD : va_D A [(aC, .inr (2, [.ref aC_variables, .ref aC_prints, .int (C_manyPrints + (1 : Int32))])), (aC_prints, eI cI 16 C_prints)] := hD
    refine lv_iload_n hx hb dX2_print_24 rfl (lv_at hl 1 rfl) ?_
    refine ckE hf (fun h25 hf => ?_)
    refine va_iast hx hb hK.1 hP hD hS 1 0 rfl rfl (inB_in h25) dX2_print_25 (fun H locs hP hD hS => ?_)
    have hP : va_P D vwCl [(aC, .inr (2, [.ref aC_variables, .ref aC_prints, .int (C_manyPrints + (1 : Int32))])), (aC_prints, eI cI 16 (upd C_prints (C_manyPrints).toNatClampNeg y1))] H := hP
    have hD : va_D A [(aC, .inr (2, [.ref aC_variables, .ref aC_prints, .int (C_manyPrints + (1 : Int32))])), (aC_prints, eI cI 16 (upd C_prints (C_manyPrints).toNatClampNeg y1))] := hD
    rw [hQQ]
    exact W.vret hx hb hr (fun t ht hW => by rw [← Option.some.inj hf]; rw [← hAe] at hD hS; exact ⟨⟨(), rfl, trivial, by rw [ht]; exact hP, hD⟩, hS.F ht⟩) hS.2.2 dX2_print_26

set_option maxHeartbeats 4000000 in
set_option maxRecDepth 100000 in
theorem tX2_step (l : Launch) (D : va_G) (cI cJ cG : ClassId) (aL aL_kinds aL_vs aL_ws aL_roles aL_mates aC aC_variables aC_prints : Nat) (sz : Nat) (y2 : Int32) (L_many : Int32) (L_kinds : (Nat → Int32)) (L_vs : (Nat → Int32)) (L_ws : (Nat → Int32)) (L_roles : (Nat → Int32)) (L_mates : (Nat → Int32)) (C_manyPrints : Int32) (C_variables : (Nat → Int32)) (C_prints : (Nat → Int32)) (out : Int32 × (Nat → Int32) × (Nat → Int32)) (hf : fX2_step y2 L_many L_kinds L_vs L_ws L_roles L_mates C_manyPrints C_variables C_prints = some out) : Met l yX2_step wsX2_step ({ frames := 2, cells := 0, slots := 0, locals := 43 }) (va_Pc [.ref aC, .ref aL, .int y2] (wP D (tyL cI cJ cG) [(aL, .inr (1, [.ref aL_kinds, .ref aL_vs, .ref aL_ws, .ref aL_roles, .ref aL_mates, .int L_many])), (aL_kinds, eI cI 16 L_kinds), (aL_vs, eI cI 16 L_vs), (aL_ws, eI cI 16 L_ws), (aL_roles, eI cI 16 L_roles), (aL_mates, eI cI 16 L_mates), (aC, .inr (2, [.ref aC_variables, .ref aC_prints, .int C_manyPrints])), (aC_variables, eI cI 6 C_variables), (aC_prints, eI cI 16 C_prints)] sz)) (wQv D  [(aL, .inr (1, [.ref aL_kinds, .ref aL_vs, .ref aL_ws, .ref aL_roles, .ref aL_mates, .int L_many])), (aL_kinds, eI cI 16 L_kinds), (aL_vs, eI cI 16 L_vs), (aL_ws, eI cI 16 L_ws), (aL_roles, eI cI 16 L_roles), (aL_mates, eI cI 16 L_mates), (aC, .inr (2, [.ref aC_variables, .ref aC_prints, .int C_manyPrints])), (aC_variables, eI cI 6 C_variables), (aC_prints, eI cI 16 C_prints)] [(aL, .inr (1, [.ref aL_kinds, .ref aL_vs, .ref aL_ws, .ref aL_roles, .ref aL_mates, .int L_many])), (aL_kinds, eI cI 16 L_kinds), (aL_vs, eI cI 16 L_vs), (aL_ws, eI cI 16 L_ws), (aL_roles, eI cI 16 L_roles), (aL_mates, eI cI 16 L_mates), (aC, .inr (2, [.ref aC_variables, .ref aC_prints, .int out.1])), (aC_variables, eI cI 6 out.2.1), (aC_prints, eI cI 16 out.2.2)] sz) 0 0 (va_A [(aL, .inr (1, [.ref aL_kinds, .ref aL_vs, .ref aL_ws, .ref aL_roles, .ref aL_mates, .int L_many])), (aL_kinds, eI cI 16 L_kinds), (aL_vs, eI cI 16 L_vs), (aL_ws, eI cI 16 L_ws), (aL_roles, eI cI 16 L_roles), (aL_mates, eI cI 16 L_mates), (aC, .inr (2, [.ref aC_variables, .ref aC_prints, .int C_manyPrints])), (aC_variables, eI cI 6 C_variables), (aC_prints, eI cI 16 C_prints)] sz) := by
  refine Met.ofW (cc := cX2_step) (maxL := 5) (ret := none) (by decide) rfl ?_
  intro p e s m args below meth c s₁ B hml hv
  obtain ⟨rfl, hsz, hP, hK, hD0⟩ := hv
  have hx := B.exec
  have hb := B.bytes
  have hr := B.returns
  have hts := atoms_spec (ws := wsX2_step) B.pre
  have hown : s.vm.findClass RX2 = some m.cls := findClass_of_methodNamed B.named
  have hlocks := B.notSynchronized
  subst hsz
  have hD := hD0.self (sz := s.heap.size)
  generalize hAe : va_A [(aL, .inr (1, [.ref aL_kinds, .ref aL_vs, .ref aL_ws, .ref aL_roles, .ref aL_mates, .int L_many])), (aL_kinds, eI cI 16 L_kinds), (aL_vs, eI cI 16 L_vs), (aL_ws, eI cI 16 L_ws), (aL_roles, eI cI 16 L_roles), (aL_mates, eI cI 16 L_mates), (aC, .inr (2, [.ref aC_variables, .ref aC_prints, .int C_manyPrints])), (aC_variables, eI cI 6 C_variables), (aC_prints, eI cI 16 C_prints)] s.heap.size = A at hD ⊢
  have hA : ∀ q : Nat, s.heap.size ≤ q → A q := fun q h => by rw [← hAe]; exact Or.inr h
  have hS : va_S A s.heap s.heap [] := va_S.rf
  have hl := lv_entry ([.ref aC, .ref aL, .int y2]) (n := 5) (Nat.le_of_ble_eq_true rfl)
  rw [lg_entry_eq]
  generalize (lg_sl ([.ref aC, .ref aL, .int y2]) ++ List.replicate (5 - (lg_sl ([.ref aC, .ref aL, .int y2])).length) Slot.unset).toArray = ls at hl ⊢
  have hl : lv_has ls 5 [(0, .ref aC), (1, .ref aL), (2, .int y2)] := hl
  generalize hQQ : MQ below _ _ s 0 0 _ = QQ
  replace hQQ := hQQ.symm
  generalize hHH : s.heap = H at hP ⊢
  have hS : va_S A s.heap H [] := by rw [← hHH]; exact va_S.rf
  generalize ([] : List Loc) = locs at hS ⊢
  unfold fX2_step at hf
  refine lv_aload_n hx hb dX2_step_0 rfl (lv_at hl 1 rfl) ?_
  refine lv_iload_n hx hb dX2_step_1 rfl (lv_at hl 2 rfl) ?_
  refine lv_iconst (v := (1 : Int32)) hx hb dX2_step_2 (by decide) ?_
  refine bnd hf (fun o3 e3 hf => ?_)
  refine rdVi (As := [.int y2, .int (1 : Int32)]) (rest := []) ⟨hx, hb, hml, hown, hts⟩ (tX1_tell l D cI cJ cG aL aL_kinds aL_vs aL_ws aL_roles aL_mates H y2 (1 : Int32) L_many L_kinds L_vs L_ws L_roles L_mates o3 e3) (cwV 2 hts gX2_step_X1_tell rfl rfl rfl (by decide +kernel) ⟨Nat.le_of_ble_eq_true rfl, Nat.le_of_ble_eq_true rfl⟩) (va_recv (ci := 1) (q0 := 0) hK.1 hP rfl rfl) hK (hP.sub (ws' := [(aL, .inr (1, [.ref aL_kinds, .ref aL_vs, .ref aL_ws, .ref aL_roles, .ref aL_mates, .int L_many])), (aL_kinds, eI cI 16 L_kinds), (aL_vs, eI cI 16 L_vs), (aL_ws, eI cI 16 L_ws), (aL_roles, eI cI 16 L_roles), (aL_mates, eI cI 16 L_mates)]) [0, 1, 2, 3, 4, 5] rfl) rfl hl.1 rfl (lv_room (Nat.le_of_ble_eq_true rfl)) dX2_step_3 ⟨Nat.le_of_ble_eq_true rfl, Nat.le_of_ble_eq_true rfl⟩ hS (fun locs hS => ?_)
  refine lv_istore_n (lv' := [(3, .int o3), (0, .ref aC), (1, .ref aL), (2, .int y2)]) hx hb dX2_step_6 rfl hl (by decide) rfl (fun ls hl => ?_)
  refine lv_aload_n hx hb dX2_step_7 rfl (lv_at hl 2 rfl) ?_
  refine lv_iload_n hx hb dX2_step_8 rfl (lv_at hl 3 rfl) ?_
  refine lv_iconst (v := (2 : Int32)) hx hb dX2_step_9 (by decide) ?_
  refine bnd hf (fun o10 e10 hf => ?_)
  refine rdVi (As := [.int y2, .int (2 : Int32)]) (rest := []) ⟨hx, hb, hml, hown, hts⟩ (tX1_tell l D cI cJ cG aL aL_kinds aL_vs aL_ws aL_roles aL_mates H y2 (2 : Int32) L_many L_kinds L_vs L_ws L_roles L_mates o10 e10) (cwV 2 hts gX2_step_X1_tell rfl rfl rfl (by decide +kernel) ⟨Nat.le_of_ble_eq_true rfl, Nat.le_of_ble_eq_true rfl⟩) (va_recv (ci := 1) (q0 := 0) hK.1 hP rfl rfl) hK (hP.sub (ws' := [(aL, .inr (1, [.ref aL_kinds, .ref aL_vs, .ref aL_ws, .ref aL_roles, .ref aL_mates, .int L_many])), (aL_kinds, eI cI 16 L_kinds), (aL_vs, eI cI 16 L_vs), (aL_ws, eI cI 16 L_ws), (aL_roles, eI cI 16 L_roles), (aL_mates, eI cI 16 L_mates)]) [0, 1, 2, 3, 4, 5] rfl) rfl hl.1 rfl (lv_room (Nat.le_of_ble_eq_true rfl)) dX2_step_10 ⟨Nat.le_of_ble_eq_true rfl, Nat.le_of_ble_eq_true rfl⟩ hS (fun locs hS => ?_)
  refine lv_istore (lv' := [(4, .int o10), (3, .int o3), (0, .ref aC), (1, .ref aL), (2, .int y2)]) hx hb dX2_step_13 hl (by decide) rfl (fun ls hl => ?_)
  refine lv_aload_n hx hb dX2_step_15 rfl (lv_at hl 3 rfl) ?_
  refine lv_iload_n hx hb dX2_step_16 rfl (lv_at hl 4 rfl) ?_
  refine bnd hf (fun o17 e17 hf => ?_)
  refine rdVi (As := [.int y2]) (rest := []) ⟨hx, hb, hml, hown, hts⟩ (tX1_kindOf l D cI cJ cG aL aL_kinds aL_vs aL_ws aL_roles aL_mates H y2 L_many L_kinds o17 e17) (cwV 1 hts gX2_step_X1_kindOf rfl rfl rfl (by decide +kernel) ⟨Nat.le_of_ble_eq_true rfl, Nat.le_of_ble_eq_true rfl⟩) (va_recv (ci := 1) (q0 := 0) hK.1 hP rfl rfl) hK (hP.sub (ws' := [(aL, .inr (1, [.ref aL_kinds, .ref aL_vs, .ref aL_ws, .ref aL_roles, .ref aL_mates, .int L_many])), (aL_kinds, eI cI 16 L_kinds)]) [0, 1] rfl) rfl hl.1 rfl (lv_room (Nat.le_of_ble_eq_true rfl)) dX2_step_17 ⟨Nat.le_of_ble_eq_true rfl, Nat.le_of_ble_eq_true rfl⟩ hS (fun locs hS => ?_)
  by_cases c20_0 : o17 = (0 : Int32)
  · have hf := ifp hf c20_0
    refine lv_tableIn (off := 44) (tgt := 64) hx hb dX2_step_20 (by rw [c20_0]; decide) (by rw [c20_0]; decide) (by rw [c20_0]; decide) (by decide) ?_
    refine lv_aload_n hx hb dX2_step_64 rfl (lv_at hl 2 rfl) ?_
    refine lv_iload_n hx hb dX2_step_65 rfl (lv_at hl 1 rfl) ?_
    refine lv_iload hx hb dX2_step_66 (lv_at hl 0 rfl) ?_
    refine bnd hf (fun o68 e68 hf => ?_)
    refine wrVv (As := [.int o3, .int o10]) (rest := []) (cw := [(aC, .inr (2, [.ref aC_variables, .ref aC_prints, .int C_manyPrints])), (aC_variables, eI cI 6 C_variables)]) (cw' := [(aC, .inr (2, [.ref aC_variables, .ref aC_prints, .int C_manyPrints])), (aC_variables, eI cI 6 o68)]) (wr := [(aL, .inr (1, [.ref aL_kinds, .ref aL_vs, .ref aL_ws, .ref aL_roles, .ref aL_mates, .int L_many])), (aL_kinds, eI cI 16 L_kinds), (aL_vs, eI cI 16 L_vs), (aL_ws, eI cI 16 L_ws), (aL_roles, eI cI 16 L_roles), (aL_mates, eI cI 16 L_mates), (aC_prints, eI cI 16 C_prints)]) (ws2 := [(aL, .inr (1, [.ref aL_kinds, .ref aL_vs, .ref aL_ws, .ref aL_roles, .ref aL_mates, .int L_many])), (aL_kinds, eI cI 16 L_kinds), (aL_vs, eI cI 16 L_vs), (aL_ws, eI cI 16 L_ws), (aL_roles, eI cI 16 L_roles), (aL_mates, eI cI 16 L_mates), (aC, .inr (2, [.ref aC_variables, .ref aC_prints, .int C_manyPrints])), (aC_variables, eI cI 6 o68), (aC_prints, eI cI 16 C_prints)]) ⟨hx, hb, hml, hown, hts⟩ (tX2_become l D cI cJ cG aC aC_variables aC_prints H.size o3 o10 C_manyPrints C_variables o68 e68) (cwV 2 hts gX2_step_X2_become rfl rfl rfl (by decide +kernel) ⟨Nat.le_of_ble_eq_true rfl, Nat.le_of_ble_eq_true rfl⟩) (va_recv (ci := 2) (q0 := 6) hK.1 hP rfl rfl) hK hP hD hS hA [6, 7] [0, 1, 2, 3, 4, 5, 8] [0, 1, 2, 3, 4, 5, 7, 8, 6] rfl rfl rfl (by decide) (by decide) (by decide) (by decide) rfl hl.1 rfl (lv_room (Nat.le_of_ble_eq_true rfl)) dX2_step_68 ⟨Nat.le_of_ble_eq_true rfl, Nat.le_of_ble_eq_true rfl⟩ (fun H locs hP hD hS => ?_)
    refine lv_goto (tgt := 172) hx hb dX2_step_71 (by decide) ?_
    rw [hQQ]
    exact W.vret hx hb hr (fun t ht hW => by rw [← Option.some.inj hf]; rw [← hAe] at hD hS; exact ⟨⟨(), rfl, trivial, by rw [ht]; exact hP, hD⟩, hS.F ht⟩) hS.2.2 dX2_step_172
  · have hf := ifn hf c20_0
    by_cases c20_1 : o17 = (1 : Int32)
    · have hf := ifp hf c20_1
      refine lv_tableIn (off := 54) (tgt := 74) hx hb dX2_step_20 (by rw [c20_1]; decide) (by rw [c20_1]; decide) (by rw [c20_1]; decide) (by decide) ?_
      refine lv_aload_n hx hb dX2_step_74 rfl (lv_at hl 2 rfl) ?_
      refine lv_iload_n hx hb dX2_step_75 rfl (lv_at hl 1 rfl) ?_
      refine lv_aload_n hx hb dX2_step_76 rfl (lv_at hl 2 rfl) ?_
      refine lv_iload hx hb dX2_step_77 (lv_at hl 0 rfl) ?_
      refine bnd hf (fun o79 e79 hf => ?_)
      refine rdVi (As := [.int o10]) (rest := [.int o3, .ref aC]) ⟨hx, hb, hml, hown, hts⟩ (tX2_valueOf l D cI cJ cG aC aC_variables aC_prints H o10 C_manyPrints C_variables o79 e79) (cwV 1 hts gX2_step_X2_valueOf rfl rfl rfl (by decide +kernel) ⟨Nat.le_of_ble_eq_true rfl, Nat.le_of_ble_eq_true rfl⟩) (va_recv (ci := 2) (q0 := 6) hK.1 hP rfl rfl) hK (hP.sub (ws' := [(aC, .inr (2, [.ref aC_variables, .ref aC_prints, .int C_manyPrints])), (aC_variables, eI cI 6 C_variables)]) [6, 7] rfl) rfl hl.1 rfl (lv_room (Nat.le_of_ble_eq_true rfl)) dX2_step_79 ⟨Nat.le_of_ble_eq_true rfl, Nat.le_of_ble_eq_true rfl⟩ hS (fun locs hS => ?_)
      refine bnd hf (fun o82 e82 hf => ?_)
      refine wrVv (As := [.int o3, .int o79]) (rest := []) (cw := [(aC, .inr (2, [.ref aC_variables, .ref aC_prints, .int C_manyPrints])), (aC_variables, eI cI 6 C_variables)]) (cw' := [(aC, .inr (2, [.ref aC_variables, .ref aC_prints, .int C_manyPrints])), (aC_variables, eI cI 6 o82)]) (wr := [(aL, .inr (1, [.ref aL_kinds, .ref aL_vs, .ref aL_ws, .ref aL_roles, .ref aL_mates, .int L_many])), (aL_kinds, eI cI 16 L_kinds), (aL_vs, eI cI 16 L_vs), (aL_ws, eI cI 16 L_ws), (aL_roles, eI cI 16 L_roles), (aL_mates, eI cI 16 L_mates), (aC_prints, eI cI 16 C_prints)]) (ws2 := [(aL, .inr (1, [.ref aL_kinds, .ref aL_vs, .ref aL_ws, .ref aL_roles, .ref aL_mates, .int L_many])), (aL_kinds, eI cI 16 L_kinds), (aL_vs, eI cI 16 L_vs), (aL_ws, eI cI 16 L_ws), (aL_roles, eI cI 16 L_roles), (aL_mates, eI cI 16 L_mates), (aC, .inr (2, [.ref aC_variables, .ref aC_prints, .int C_manyPrints])), (aC_variables, eI cI 6 o82), (aC_prints, eI cI 16 C_prints)]) ⟨hx, hb, hml, hown, hts⟩ (tX2_become l D cI cJ cG aC aC_variables aC_prints H.size o3 o79 C_manyPrints C_variables o82 e82) (cwV 2 hts gX2_step_X2_become rfl rfl rfl (by decide +kernel) ⟨Nat.le_of_ble_eq_true rfl, Nat.le_of_ble_eq_true rfl⟩) (va_recv (ci := 2) (q0 := 6) hK.1 hP rfl rfl) hK hP hD hS hA [6, 7] [0, 1, 2, 3, 4, 5, 8] [0, 1, 2, 3, 4, 5, 7, 8, 6] rfl rfl rfl (by decide) (by decide) (by decide) (by decide) rfl hl.1 rfl (lv_room (Nat.le_of_ble_eq_true rfl)) dX2_step_82 ⟨Nat.le_of_ble_eq_true rfl, Nat.le_of_ble_eq_true rfl⟩ (fun H locs hP hD hS => ?_)
      refine lv_goto (tgt := 172) hx hb dX2_step_85 (by decide) ?_
      rw [hQQ]
      exact W.vret hx hb hr (fun t ht hW => by rw [← Option.some.inj hf]; rw [← hAe] at hD hS; exact ⟨⟨(), rfl, trivial, by rw [ht]; exact hP, hD⟩, hS.F ht⟩) hS.2.2 dX2_step_172
    · have hf := ifn hf c20_1
      by_cases c20_2 : o17 = (2 : Int32)
      · have hf := ifp hf c20_2
        refine lv_tableIn (off := 68) (tgt := 88) hx hb dX2_step_20 (by rw [c20_2]; decide) (by rw [c20_2]; decide) (by rw [c20_2]; decide) (by decide) ?_
        refine lv_aload_n hx hb dX2_step_88 rfl (lv_at hl 2 rfl) ?_
        refine lv_iload_n hx hb dX2_step_89 rfl (lv_at hl 1 rfl) ?_
        refine lv_aload_n hx hb dX2_step_90 rfl (lv_at hl 2 rfl) ?_
        refine lv_iload_n hx hb dX2_step_91 rfl (lv_at hl 1 rfl) ?_
        refine bnd hf (fun o92 e92 hf => ?_)
        refine rdVi (As := [.int o3]) (rest := [.int o3, .ref aC]) ⟨hx, hb, hml, hown, hts⟩ (tX2_valueOf l D cI cJ cG aC aC_variables aC_prints H o3 C_manyPrints C_variables o92 e92) (cwV 1 hts gX2_step_X2_valueOf rfl rfl rfl (by decide +kernel) ⟨Nat.le_of_ble_eq_true rfl, Nat.le_of_ble_eq_true rfl⟩) (va_recv (ci := 2) (q0 := 6) hK.1 hP rfl rfl) hK (hP.sub (ws' := [(aC, .inr (2, [.ref aC_variables, .ref aC_prints, .int C_manyPrints])), (aC_variables, eI cI 6 C_variables)]) [6, 7] rfl) rfl hl.1 rfl (lv_room (Nat.le_of_ble_eq_true rfl)) dX2_step_92 ⟨Nat.le_of_ble_eq_true rfl, Nat.le_of_ble_eq_true rfl⟩ hS (fun locs hS => ?_)
        refine lv_aload_n hx hb dX2_step_95 rfl (lv_at hl 2 rfl) ?_
        refine lv_iload hx hb dX2_step_96 (lv_at hl 0 rfl) ?_
        refine bnd hf (fun o98 e98 hf => ?_)
        refine rdVi (As := [.int o10]) (rest := [.int o92, .int o3, .ref aC]) ⟨hx, hb, hml, hown, hts⟩ (tX2_valueOf l D cI cJ cG aC aC_variables aC_prints H o10 C_manyPrints C_variables o98 e98) (cwV 1 hts gX2_step_X2_valueOf rfl rfl rfl (by decide +kernel) ⟨Nat.le_of_ble_eq_true rfl, Nat.le_of_ble_eq_true rfl⟩) (va_recv (ci := 2) (q0 := 6) hK.1 hP rfl rfl) hK (hP.sub (ws' := [(aC, .inr (2, [.ref aC_variables, .ref aC_prints, .int C_manyPrints])), (aC_variables, eI cI 6 C_variables)]) [6, 7] rfl) rfl hl.1 rfl (lv_room (Nat.le_of_ble_eq_true rfl)) dX2_step_98 ⟨Nat.le_of_ble_eq_true rfl, Nat.le_of_ble_eq_true rfl⟩ hS (fun locs hS => ?_)
        refine lv_iadd hx hb dX2_step_101 ?_
        refine bnd hf (fun o102 e102 hf => ?_)
        refine wrVv (As := [.int o3, .int (o92 + o98)]) (rest := []) (cw := [(aC, .inr (2, [.ref aC_variables, .ref aC_prints, .int C_manyPrints])), (aC_variables, eI cI 6 C_variables)]) (cw' := [(aC, .inr (2, [.ref aC_variables, .ref aC_prints, .int C_manyPrints])), (aC_variables, eI cI 6 o102)]) (wr := [(aL, .inr (1, [.ref aL_kinds, .ref aL_vs, .ref aL_ws, .ref aL_roles, .ref aL_mates, .int L_many])), (aL_kinds, eI cI 16 L_kinds), (aL_vs, eI cI 16 L_vs), (aL_ws, eI cI 16 L_ws), (aL_roles, eI cI 16 L_roles), (aL_mates, eI cI 16 L_mates), (aC_prints, eI cI 16 C_prints)]) (ws2 := [(aL, .inr (1, [.ref aL_kinds, .ref aL_vs, .ref aL_ws, .ref aL_roles, .ref aL_mates, .int L_many])), (aL_kinds, eI cI 16 L_kinds), (aL_vs, eI cI 16 L_vs), (aL_ws, eI cI 16 L_ws), (aL_roles, eI cI 16 L_roles), (aL_mates, eI cI 16 L_mates), (aC, .inr (2, [.ref aC_variables, .ref aC_prints, .int C_manyPrints])), (aC_variables, eI cI 6 o102), (aC_prints, eI cI 16 C_prints)]) ⟨hx, hb, hml, hown, hts⟩ (tX2_become l D cI cJ cG aC aC_variables aC_prints H.size o3 (o92 + o98) C_manyPrints C_variables o102 e102) (cwV 2 hts gX2_step_X2_become rfl rfl rfl (by decide +kernel) ⟨Nat.le_of_ble_eq_true rfl, Nat.le_of_ble_eq_true rfl⟩) (va_recv (ci := 2) (q0 := 6) hK.1 hP rfl rfl) hK hP hD hS hA [6, 7] [0, 1, 2, 3, 4, 5, 8] [0, 1, 2, 3, 4, 5, 7, 8, 6] rfl rfl rfl (by decide) (by decide) (by decide) (by decide) rfl hl.1 rfl (lv_room (Nat.le_of_ble_eq_true rfl)) dX2_step_102 ⟨Nat.le_of_ble_eq_true rfl, Nat.le_of_ble_eq_true rfl⟩ (fun H locs hP hD hS => ?_)
        refine lv_goto (tgt := 172) hx hb dX2_step_105 (by decide) ?_
        rw [hQQ]
        exact W.vret hx hb hr (fun t ht hW => by rw [← Option.some.inj hf]; rw [← hAe] at hD hS; exact ⟨⟨(), rfl, trivial, by rw [ht]; exact hP, hD⟩, hS.F ht⟩) hS.2.2 dX2_step_172
      · have hf := ifn hf c20_2
        by_cases c20_3 : o17 = (3 : Int32)
        · have hf := ifp hf c20_3
          refine lv_tableIn (off := 88) (tgt := 108) hx hb dX2_step_20 (by rw [c20_3]; decide) (by rw [c20_3]; decide) (by rw [c20_3]; decide) (by decide) ?_
          refine lv_aload_n hx hb dX2_step_108 rfl (lv_at hl 2 rfl) ?_
          refine lv_iload_n hx hb dX2_step_109 rfl (lv_at hl 1 rfl) ?_
          refine lv_aload_n hx hb dX2_step_110 rfl (lv_at hl 2 rfl) ?_
          refine lv_iload_n hx hb dX2_step_111 rfl (lv_at hl 1 rfl) ?_
          refine bnd hf (fun o112 e112 hf => ?_)
          refine rdVi (As := [.int o3]) (rest := [.int o3, .ref aC]) ⟨hx, hb, hml, hown, hts⟩ (tX2_valueOf l D cI cJ cG aC aC_variables aC_prints H o3 C_manyPrints C_variables o112 e112) (cwV 1 hts gX2_step_X2_valueOf rfl rfl rfl (by decide +kernel) ⟨Nat.le_of_ble_eq_true rfl, Nat.le_of_ble_eq_true rfl⟩) (va_recv (ci := 2) (q0 := 6) hK.1 hP rfl rfl) hK (hP.sub (ws' := [(aC, .inr (2, [.ref aC_variables, .ref aC_prints, .int C_manyPrints])), (aC_variables, eI cI 6 C_variables)]) [6, 7] rfl) rfl hl.1 rfl (lv_room (Nat.le_of_ble_eq_true rfl)) dX2_step_112 ⟨Nat.le_of_ble_eq_true rfl, Nat.le_of_ble_eq_true rfl⟩ hS (fun locs hS => ?_)
          refine lv_aload_n hx hb dX2_step_115 rfl (lv_at hl 2 rfl) ?_
          refine lv_iload hx hb dX2_step_116 (lv_at hl 0 rfl) ?_
          refine bnd hf (fun o118 e118 hf => ?_)
          refine rdVi (As := [.int o10]) (rest := [.int o112, .int o3, .ref aC]) ⟨hx, hb, hml, hown, hts⟩ (tX2_valueOf l D cI cJ cG aC aC_variables aC_prints H o10 C_manyPrints C_variables o118 e118) (cwV 1 hts gX2_step_X2_valueOf rfl rfl rfl (by decide +kernel) ⟨Nat.le_of_ble_eq_true rfl, Nat.le_of_ble_eq_true rfl⟩) (va_recv (ci := 2) (q0 := 6) hK.1 hP rfl rfl) hK (hP.sub (ws' := [(aC, .inr (2, [.ref aC_variables, .ref aC_prints, .int C_manyPrints])), (aC_variables, eI cI 6 C_variables)]) [6, 7] rfl) rfl hl.1 rfl (lv_room (Nat.le_of_ble_eq_true rfl)) dX2_step_118 ⟨Nat.le_of_ble_eq_true rfl, Nat.le_of_ble_eq_true rfl⟩ hS (fun locs hS => ?_)
          refine lv_imul hx hb dX2_step_121 ?_
          refine bnd hf (fun o122 e122 hf => ?_)
          refine wrVv (As := [.int o3, .int (o112 * o118)]) (rest := []) (cw := [(aC, .inr (2, [.ref aC_variables, .ref aC_prints, .int C_manyPrints])), (aC_variables, eI cI 6 C_variables)]) (cw' := [(aC, .inr (2, [.ref aC_variables, .ref aC_prints, .int C_manyPrints])), (aC_variables, eI cI 6 o122)]) (wr := [(aL, .inr (1, [.ref aL_kinds, .ref aL_vs, .ref aL_ws, .ref aL_roles, .ref aL_mates, .int L_many])), (aL_kinds, eI cI 16 L_kinds), (aL_vs, eI cI 16 L_vs), (aL_ws, eI cI 16 L_ws), (aL_roles, eI cI 16 L_roles), (aL_mates, eI cI 16 L_mates), (aC_prints, eI cI 16 C_prints)]) (ws2 := [(aL, .inr (1, [.ref aL_kinds, .ref aL_vs, .ref aL_ws, .ref aL_roles, .ref aL_mates, .int L_many])), (aL_kinds, eI cI 16 L_kinds), (aL_vs, eI cI 16 L_vs), (aL_ws, eI cI 16 L_ws), (aL_roles, eI cI 16 L_roles), (aL_mates, eI cI 16 L_mates), (aC, .inr (2, [.ref aC_variables, .ref aC_prints, .int C_manyPrints])), (aC_variables, eI cI 6 o122), (aC_prints, eI cI 16 C_prints)]) ⟨hx, hb, hml, hown, hts⟩ (tX2_become l D cI cJ cG aC aC_variables aC_prints H.size o3 (o112 * o118) C_manyPrints C_variables o122 e122) (cwV 2 hts gX2_step_X2_become rfl rfl rfl (by decide +kernel) ⟨Nat.le_of_ble_eq_true rfl, Nat.le_of_ble_eq_true rfl⟩) (va_recv (ci := 2) (q0 := 6) hK.1 hP rfl rfl) hK hP hD hS hA [6, 7] [0, 1, 2, 3, 4, 5, 8] [0, 1, 2, 3, 4, 5, 7, 8, 6] rfl rfl rfl (by decide) (by decide) (by decide) (by decide) rfl hl.1 rfl (lv_room (Nat.le_of_ble_eq_true rfl)) dX2_step_122 ⟨Nat.le_of_ble_eq_true rfl, Nat.le_of_ble_eq_true rfl⟩ (fun H locs hP hD hS => ?_)
          refine lv_goto (tgt := 172) hx hb dX2_step_125 (by decide) ?_
          rw [hQQ]
          exact W.vret hx hb hr (fun t ht hW => by rw [← Option.some.inj hf]; rw [← hAe] at hD hS; exact ⟨⟨(), rfl, trivial, by rw [ht]; exact hP, hD⟩, hS.F ht⟩) hS.2.2 dX2_step_172
        · have hf := ifn hf c20_3
          by_cases c20_4 : o17 = (4 : Int32)
          · have hf := ifp hf c20_4
            refine lv_tableIn (off := 108) (tgt := 128) hx hb dX2_step_20 (by rw [c20_4]; decide) (by rw [c20_4]; decide) (by rw [c20_4]; decide) (by decide) ?_
            refine lv_aload_n hx hb dX2_step_128 rfl (lv_at hl 2 rfl) ?_
            refine lv_aload_n hx hb dX2_step_129 rfl (lv_at hl 2 rfl) ?_
            refine lv_iload_n hx hb dX2_step_130 rfl (lv_at hl 1 rfl) ?_
            refine bnd hf (fun o131 e131 hf => ?_)
            refine rdVi (As := [.int o3]) (rest := [.ref aC]) ⟨hx, hb, hml, hown, hts⟩ (tX2_valueOf l D cI cJ cG aC aC_variables aC_prints H o3 C_manyPrints C_variables o131 e131) (cwV 1 hts gX2_step_X2_valueOf rfl rfl rfl (by decide +kernel) ⟨Nat.le_of_ble_eq_true rfl, Nat.le_of_ble_eq_true rfl⟩) (va_recv (ci := 2) (q0 := 6) hK.1 hP rfl rfl) hK (hP.sub (ws' := [(aC, .inr (2, [.ref aC_variables, .ref aC_prints, .int C_manyPrints])), (aC_variables, eI cI 6 C_variables)]) [6, 7] rfl) rfl hl.1 rfl (lv_room (Nat.le_of_ble_eq_true rfl)) dX2_step_131 ⟨Nat.le_of_ble_eq_true rfl, Nat.le_of_ble_eq_true rfl⟩ hS (fun locs hS => ?_)
            refine bnd hf (fun o134 e134 hf => ?_)
            refine wrVv (As := [.int o131]) (rest := []) (cw := [(aC, .inr (2, [.ref aC_variables, .ref aC_prints, .int C_manyPrints])), (aC_prints, eI cI 16 C_prints)]) (cw' := [(aC, .inr (2, [.ref aC_variables, .ref aC_prints, .int o134.1])), (aC_prints, eI cI 16 o134.2)]) (wr := [(aL, .inr (1, [.ref aL_kinds, .ref aL_vs, .ref aL_ws, .ref aL_roles, .ref aL_mates, .int L_many])), (aL_kinds, eI cI 16 L_kinds), (aL_vs, eI cI 16 L_vs), (aL_ws, eI cI 16 L_ws), (aL_roles, eI cI 16 L_roles), (aL_mates, eI cI 16 L_mates), (aC_variables, eI cI 6 C_variables)]) (ws2 := [(aL, .inr (1, [.ref aL_kinds, .ref aL_vs, .ref aL_ws, .ref aL_roles, .ref aL_mates, .int L_many])), (aL_kinds, eI cI 16 L_kinds), (aL_vs, eI cI 16 L_vs), (aL_ws, eI cI 16 L_ws), (aL_roles, eI cI 16 L_roles), (aL_mates, eI cI 16 L_mates), (aC, .inr (2, [.ref aC_variables, .ref aC_prints, .int o134.1])), (aC_variables, eI cI 6 C_variables), (aC_prints, eI cI 16 o134.2)]) ⟨hx, hb, hml, hown, hts⟩ (tX2_print l D cI cJ cG aC aC_variables aC_prints H.size o131 C_manyPrints C_prints o134 e134) (cwV 1 hts gX2_step_X2_print rfl rfl rfl (by decide +kernel) ⟨Nat.le_of_ble_eq_true rfl, Nat.le_of_ble_eq_true rfl⟩) (va_recv (ci := 2) (q0 := 6) hK.1 hP rfl rfl) hK hP hD hS hA [6, 8] [0, 1, 2, 3, 4, 5, 7] [0, 1, 2, 3, 4, 5, 7, 6, 8] rfl rfl rfl (by decide) (by decide) (by decide) (by decide) rfl hl.1 rfl (lv_room (Nat.le_of_ble_eq_true rfl)) dX2_step_134 ⟨Nat.le_of_ble_eq_true rfl, Nat.le_of_ble_eq_true rfl⟩ (fun H locs hP hD hS => ?_)
            refine lv_goto (tgt := 172) hx hb dX2_step_137 (by decide) ?_
            rw [hQQ]
            exact W.vret hx hb hr (fun t ht hW => by rw [← Option.some.inj hf]; rw [← hAe] at hD hS; exact ⟨⟨(), rfl, trivial, by rw [ht]; exact hP, hD⟩, hS.F ht⟩) hS.2.2 dX2_step_172
          · have hf := ifn hf c20_4
            by_cases c20_5 : o17 = (5 : Int32)
            · have hf := ifp hf c20_5
              refine lv_tableIn (off := 152) (tgt := 172) hx hb dX2_step_20 (by rw [c20_5]; decide) (by rw [c20_5]; decide) (by rw [c20_5]; decide) (by decide) ?_
              rw [hQQ]
              exact W.vret hx hb hr (fun t ht hW => by rw [← Option.some.inj hf]; rw [← hAe] at hD hS; exact ⟨⟨(), rfl, trivial, by rw [ht]; exact hP, hD⟩, hS.F ht⟩) hS.2.2 dX2_step_172
            · have hf := ifn hf c20_5
              by_cases c20_6 : o17 = (6 : Int32)
              · have hf := ifp hf c20_6
                refine lv_tableIn (off := 120) (tgt := 140) hx hb dX2_step_20 (by rw [c20_6]; decide) (by rw [c20_6]; decide) (by rw [c20_6]; decide) (by decide) ?_
                refine lv_aload_n hx hb dX2_step_140 rfl (lv_at hl 2 rfl) ?_
                refine lv_iload_n hx hb dX2_step_141 rfl (lv_at hl 1 rfl) ?_
                refine lv_aload_n hx hb dX2_step_142 rfl (lv_at hl 2 rfl) ?_
                refine lv_iload hx hb dX2_step_143 (lv_at hl 0 rfl) ?_
                refine bnd hf (fun o145 e145 hf => ?_)
                refine rdVi (As := [.int o10]) (rest := [.int o3, .ref aC]) ⟨hx, hb, hml, hown, hts⟩ (tX2_valueOf l D cI cJ cG aC aC_variables aC_prints H o10 C_manyPrints C_variables o145 e145) (cwV 1 hts gX2_step_X2_valueOf rfl rfl rfl (by decide +kernel) ⟨Nat.le_of_ble_eq_true rfl, Nat.le_of_ble_eq_true rfl⟩) (va_recv (ci := 2) (q0 := 6) hK.1 hP rfl rfl) hK (hP.sub (ws' := [(aC, .inr (2, [.ref aC_variables, .ref aC_prints, .int C_manyPrints])), (aC_variables, eI cI 6 C_variables)]) [6, 7] rfl) rfl hl.1 rfl (lv_room (Nat.le_of_ble_eq_true rfl)) dX2_step_145 ⟨Nat.le_of_ble_eq_true rfl, Nat.le_of_ble_eq_true rfl⟩ hS (fun locs hS => ?_)
                refine lv_if_le (tgt := 161) hx hb dX2_step_148 (by decide) (fun c148 => ?_) (fun c148 => ?_)
                · have hf := ifp hf c148
                  refine lv_aload_n hx hb dX2_step_161 rfl (lv_at hl 2 rfl) ?_
                  refine lv_iload_n hx hb dX2_step_162 rfl (lv_at hl 1 rfl) ?_
                  refine bnd hf (fun o163 e163 hf => ?_)
                  refine rdVi (As := [.int o3]) (rest := [.int o3, .ref aC]) ⟨hx, hb, hml, hown, hts⟩ (tX2_valueOf l D cI cJ cG aC aC_variables aC_prints H o3 C_manyPrints C_variables o163 e163) (cwV 1 hts gX2_step_X2_valueOf rfl rfl rfl (by decide +kernel) ⟨Nat.le_of_ble_eq_true rfl, Nat.le_of_ble_eq_true rfl⟩) (va_recv (ci := 2) (q0 := 6) hK.1 hP rfl rfl) hK (hP.sub (ws' := [(aC, .inr (2, [.ref aC_variables, .ref aC_prints, .int C_manyPrints])), (aC_variables, eI cI 6 C_variables)]) [6, 7] rfl) rfl hl.1 rfl (lv_room (Nat.le_of_ble_eq_true rfl)) dX2_step_163 ⟨Nat.le_of_ble_eq_true rfl, Nat.le_of_ble_eq_true rfl⟩ hS (fun locs hS => ?_)
                  refine bnd hf (fun o166 e166 hf => ?_)
                  refine wrVv (As := [.int o3, .int o163]) (rest := []) (cw := [(aC, .inr (2, [.ref aC_variables, .ref aC_prints, .int C_manyPrints])), (aC_variables, eI cI 6 C_variables)]) (cw' := [(aC, .inr (2, [.ref aC_variables, .ref aC_prints, .int C_manyPrints])), (aC_variables, eI cI 6 o166)]) (wr := [(aL, .inr (1, [.ref aL_kinds, .ref aL_vs, .ref aL_ws, .ref aL_roles, .ref aL_mates, .int L_many])), (aL_kinds, eI cI 16 L_kinds), (aL_vs, eI cI 16 L_vs), (aL_ws, eI cI 16 L_ws), (aL_roles, eI cI 16 L_roles), (aL_mates, eI cI 16 L_mates), (aC_prints, eI cI 16 C_prints)]) (ws2 := [(aL, .inr (1, [.ref aL_kinds, .ref aL_vs, .ref aL_ws, .ref aL_roles, .ref aL_mates, .int L_many])), (aL_kinds, eI cI 16 L_kinds), (aL_vs, eI cI 16 L_vs), (aL_ws, eI cI 16 L_ws), (aL_roles, eI cI 16 L_roles), (aL_mates, eI cI 16 L_mates), (aC, .inr (2, [.ref aC_variables, .ref aC_prints, .int C_manyPrints])), (aC_variables, eI cI 6 o166), (aC_prints, eI cI 16 C_prints)]) ⟨hx, hb, hml, hown, hts⟩ (tX2_become l D cI cJ cG aC aC_variables aC_prints H.size o3 o163 C_manyPrints C_variables o166 e166) (cwV 2 hts gX2_step_X2_become rfl rfl rfl (by decide +kernel) ⟨Nat.le_of_ble_eq_true rfl, Nat.le_of_ble_eq_true rfl⟩) (va_recv (ci := 2) (q0 := 6) hK.1 hP rfl rfl) hK hP hD hS hA [6, 7] [0, 1, 2, 3, 4, 5, 8] [0, 1, 2, 3, 4, 5, 7, 8, 6] rfl rfl rfl (by decide) (by decide) (by decide) (by decide) rfl hl.1 rfl (lv_room (Nat.le_of_ble_eq_true rfl)) dX2_step_166 ⟨Nat.le_of_ble_eq_true rfl, Nat.le_of_ble_eq_true rfl⟩ (fun H locs hP hD hS => ?_)
                  refine lv_goto (tgt := 172) hx hb dX2_step_169 (by decide) ?_
                  rw [hQQ]
                  exact W.vret hx hb hr (fun t ht hW => by rw [← Option.some.inj hf]; rw [← hAe] at hD hS; exact ⟨⟨(), rfl, trivial, by rw [ht]; exact hP, hD⟩, hS.F ht⟩) hS.2.2 dX2_step_172
                · have hf := ifn hf c148
                  refine lv_aload_n hx hb dX2_step_151 rfl (lv_at hl 2 rfl) ?_
                  refine lv_iload_n hx hb dX2_step_152 rfl (lv_at hl 1 rfl) ?_
                  refine bnd hf (fun o153 e153 hf => ?_)
                  refine rdVi (As := [.int o3]) (rest := [.int o3, .ref aC]) ⟨hx, hb, hml, hown, hts⟩ (tX2_valueOf l D cI cJ cG aC aC_variables aC_prints H o3 C_manyPrints C_variables o153 e153) (cwV 1 hts gX2_step_X2_valueOf rfl rfl rfl (by decide +kernel) ⟨Nat.le_of_ble_eq_true rfl, Nat.le_of_ble_eq_true rfl⟩) (va_recv (ci := 2) (q0 := 6) hK.1 hP rfl rfl) hK (hP.sub (ws' := [(aC, .inr (2, [.ref aC_variables, .ref aC_prints, .int C_manyPrints])), (aC_variables, eI cI 6 C_variables)]) [6, 7] rfl) rfl hl.1 rfl (lv_room (Nat.le_of_ble_eq_true rfl)) dX2_step_153 ⟨Nat.le_of_ble_eq_true rfl, Nat.le_of_ble_eq_true rfl⟩ hS (fun locs hS => ?_)
                  refine lv_iconst (v := (1 : Int32)) hx hb dX2_step_156 (by decide) ?_
                  refine lv_iadd hx hb dX2_step_157 ?_
                  refine lv_goto (tgt := 166) hx hb dX2_step_158 (by decide) ?_
                  refine bnd hf (fun o166 e166 hf => ?_)
                  refine wrVv (As := [.int o3, .int (o153 + (1 : Int32))]) (rest := []) (cw := [(aC, .inr (2, [.ref aC_variables, .ref aC_prints, .int C_manyPrints])), (aC_variables, eI cI 6 C_variables)]) (cw' := [(aC, .inr (2, [.ref aC_variables, .ref aC_prints, .int C_manyPrints])), (aC_variables, eI cI 6 o166)]) (wr := [(aL, .inr (1, [.ref aL_kinds, .ref aL_vs, .ref aL_ws, .ref aL_roles, .ref aL_mates, .int L_many])), (aL_kinds, eI cI 16 L_kinds), (aL_vs, eI cI 16 L_vs), (aL_ws, eI cI 16 L_ws), (aL_roles, eI cI 16 L_roles), (aL_mates, eI cI 16 L_mates), (aC_prints, eI cI 16 C_prints)]) (ws2 := [(aL, .inr (1, [.ref aL_kinds, .ref aL_vs, .ref aL_ws, .ref aL_roles, .ref aL_mates, .int L_many])), (aL_kinds, eI cI 16 L_kinds), (aL_vs, eI cI 16 L_vs), (aL_ws, eI cI 16 L_ws), (aL_roles, eI cI 16 L_roles), (aL_mates, eI cI 16 L_mates), (aC, .inr (2, [.ref aC_variables, .ref aC_prints, .int C_manyPrints])), (aC_variables, eI cI 6 o166), (aC_prints, eI cI 16 C_prints)]) ⟨hx, hb, hml, hown, hts⟩ (tX2_become l D cI cJ cG aC aC_variables aC_prints H.size o3 (o153 + (1 : Int32)) C_manyPrints C_variables o166 e166) (cwV 2 hts gX2_step_X2_become rfl rfl rfl (by decide +kernel) ⟨Nat.le_of_ble_eq_true rfl, Nat.le_of_ble_eq_true rfl⟩) (va_recv (ci := 2) (q0 := 6) hK.1 hP rfl rfl) hK hP hD hS hA [6, 7] [0, 1, 2, 3, 4, 5, 8] [0, 1, 2, 3, 4, 5, 7, 8, 6] rfl rfl rfl (by decide) (by decide) (by decide) (by decide) rfl hl.1 rfl (lv_room (Nat.le_of_ble_eq_true rfl)) dX2_step_166 ⟨Nat.le_of_ble_eq_true rfl, Nat.le_of_ble_eq_true rfl⟩ (fun H locs hP hD hS => ?_)
                  refine lv_goto (tgt := 172) hx hb dX2_step_169 (by decide) ?_
                  rw [hQQ]
                  exact W.vret hx hb hr (fun t ht hW => by rw [← Option.some.inj hf]; rw [← hAe] at hD hS; exact ⟨⟨(), rfl, trivial, by rw [ht]; exact hP, hD⟩, hS.F ht⟩) hS.2.2 dX2_step_172
              · have hf := ifn hf c20_6
                have u20_0 := lv_neT c20_0 (a := 0) rfl
                have u20_1 := lv_neT c20_1 (a := 1) rfl
                have u20_2 := lv_neT c20_2 (a := 2) rfl
                have u20_3 := lv_neT c20_3 (a := 3) rfl
                have u20_4 := lv_neT c20_4 (a := 4) rfl
                have u20_5 := lv_neT c20_5 (a := 5) rfl
                have u20_6 := lv_neT c20_6 (a := 6) rfl
                refine lv_tableOut (tgt := 172) hx hb dX2_step_20 (by omega) (by decide) ?_
                rw [hQQ]
                exact W.vret hx hb hr (fun t ht hW => by rw [← Option.some.inj hf]; rw [← hAe] at hD hS; exact ⟨⟨(), rfl, trivial, by rw [ht]; exact hP, hD⟩, hS.F ht⟩) hS.2.2 dX2_step_172

set_option maxHeartbeats 4000000 in
set_option maxRecDepth 100000 in
theorem tX2_printAt (l : Launch) (D : va_G) (cI cJ cG : ClassId) (aC aC_variables aC_prints : Nat) (Hs : Heap) (y1 : Int32) (C_manyPrints : Int32) (C_prints : (Nat → Int32)) (out : Int32) (hf : fX2_printAt y1 C_manyPrints C_prints = some out) : Met l yX2_printAt wsX2_printAt ({ frames := 0, cells := 0, slots := 0, locals := 0 }) (va_Pc [.ref aC, .int y1] (rP D (tyL cI cJ cG) [(aC, .inr (2, [.ref aC_variables, .ref aC_prints, .int C_manyPrints])), (aC_prints, eI cI 16 C_prints)] Hs)) (rQi out Hs) 0 0 (fun _ => False) := by
  refine Met.ofW (cc := cX2_printAt) (maxL := 2) (ret := (some .int)) (by decide) rfl ?_
  intro p e s m args below meth c s₁ B hml hv
  obtain ⟨rfl, rfl, hP, hK⟩ := hv
  have hx := B.exec
  have hb := B.bytes
  have hr := B.returns
  have hts := atoms_spec (ws := wsX2_printAt) B.pre
  have hown : s.vm.findClass RX2 = some m.cls := findClass_of_methodNamed B.named
  have hlocks := B.notSynchronized
  have iX2 : ∀ w ∈ wsX20, w ∈ wsX2_printAt := by decide +kernel
  have k15 := hts (.fieldLink RX2 15 "BlockMarker$Machine" "prints" "[I") (by decide +kernel)
  have k24 := hts (.fieldLink RX2 24 "BlockMarker$Machine" "manyPrints" "I") (by decide +kernel)
  have hS : va_S (fun _ => False) s.heap s.heap [] := va_S.rf
  have hl := lv_entry ([.ref aC, .int y1]) (n := 2) (Nat.le_of_ble_eq_true rfl)
  rw [lg_entry_eq]
  generalize (lg_sl ([.ref aC, .int y1]) ++ List.replicate (2 - (lg_sl ([.ref aC, .int y1])).length) Slot.unset).toArray = ls at hl ⊢
  have hl : lv_has ls 2 [(0, .ref aC), (1, .int y1)] := hl
  generalize hQQ : MQ below _ _ s 0 0 _ = QQ
  replace hQQ := hQQ.symm
  unfold fX2_printAt at hf
  refine lv_iload_n hx hb dX2_printAt_0 rfl (lv_at hl 1 rfl) ?_
  refine lv_if_lt (tgt := 21) hx hb dX2_printAt_1 (by decide) (fun c1 => ?_) (fun c1 => ?_)
  · have hf := ifp hf c1
    refine lv_iconst (v := (0 : Int32)) hx hb dX2_printAt_21 (by decide) ?_
    rw [hQQ]
    exact W.iret (v := (0 : Int32)) hx hb hr (fun t ht hW => ⟨⟨(0 : Int32), (), rfl, Option.some.inj hf, ht⟩, rF ht⟩) hS.2.2 dX2_printAt_22
  · have hf := ifn hf c1
    refine lv_iload_n hx hb dX2_printAt_4 rfl (lv_at hl 1 rfl) ?_
    refine lv_aload_n hx hb dX2_printAt_5 rfl (lv_at hl 0 rfl) ?_
    refine va_get (D := D) (ci := 2) (v := .int C_manyPrints) (C := RX2) (T := TX2) (N := 3) hx hb hts iX2 hown hK.1 hP 0 rfl rfl 2 (by decide) k24 (fun _ h9 => h9) rfl dX2_printAt_6 ?_
    refine lv_icmp_ge (tgt := 21) hx hb dX2_printAt_9 (by decide) (fun c9 => ?_) (fun c9 => ?_)
    · have hf := ifp hf c9
      refine lv_iconst (v := (0 : Int32)) hx hb dX2_printAt_21 (by decide) ?_
      rw [hQQ]
      exact W.iret (v := (0 : Int32)) hx hb hr (fun t ht hW => ⟨⟨(0 : Int32), (), rfl, Option.some.inj hf, ht⟩, rF ht⟩) hS.2.2 dX2_printAt_22
    · have hf := ifn hf c9
      refine lv_aload_n hx hb dX2_printAt_12 rfl (lv_at hl 0 rfl) ?_
      refine va_get (D := D) (ci := 2) (v := .ref aC_prints) (C := RX2) (T := TX2) (N := 3) hx hb hts iX2 hown hK.1 hP 0 rfl rfl 1 (by decide) k15 (fun _ h9 => h9) rfl dX2_printAt_13 ?_
      refine lv_iload_n hx hb dX2_printAt_16 rfl (lv_at hl 1 rfl) ?_
      refine ckE hf (fun h17 hf => ?_)
      refine va_iald hx hb hK.1 hP 1 0 rfl rfl (inB_in h17) dX2_printAt_17 ?_
      refine lv_goto (tgt := 22) hx hb dX2_printAt_18 (by decide) ?_
      rw [hQQ]
      exact W.iret (v := (C_prints (y1).toNatClampNeg)) hx hb hr (fun t ht hW => ⟨⟨(C_prints (y1).toNatClampNeg), (), rfl, Option.some.inj hf, ht⟩, rF ht⟩) hS.2.2 dX2_printAt_22

set_option maxHeartbeats 4000000 in
set_option maxRecDepth 100000 in
theorem tX2_printsAs (l : Launch) (D : va_G) (cI cJ cG : ClassId) (aC aC_variables aC_prints aD aD_variables aD_prints : Nat) (Hs : Heap)  (C_manyPrints : Int32) (C_prints : (Nat → Int32)) (D_manyPrints : Int32) (D_prints : (Nat → Int32)) (out : Int32) (hf : fX2_printsAs C_manyPrints C_prints D_manyPrints D_prints = some out) : Met l yX2_printsAs wsX2_printsAs ({ frames := 0, cells := 0, slots := 0, locals := 0 }) (va_Pc [.ref aC, .ref aD] (rP D (tyL cI cJ cG) [(aC, .inr (2, [.ref aC_variables, .ref aC_prints, .int C_manyPrints])), (aC_prints, eI cI 16 C_prints), (aD, .inr (2, [.ref aD_variables, .ref aD_prints, .int D_manyPrints])), (aD_prints, eI cI 16 D_prints)] Hs)) (rQi out Hs) 0 0 (fun _ => False) := by
  refine Met.ofW (cc := cX2_printsAs) (maxL := 3) (ret := (some .boolean)) (by decide) rfl ?_
  intro p e s m args below meth c s₁ B hml hv
  obtain ⟨rfl, rfl, hP, hK⟩ := hv
  have hx := B.exec
  have hb := B.bytes
  have hr := B.returns
  have hts := atoms_spec (ws := wsX2_printsAs) B.pre
  have hown : s.vm.findClass RX2 = some m.cls := findClass_of_methodNamed B.named
  have hlocks := B.notSynchronized
  have iX2 : ∀ w ∈ wsX20, w ∈ wsX2_printsAs := by decide +kernel
  have k15 := hts (.fieldLink RX2 15 "BlockMarker$Machine" "prints" "[I") (by decide +kernel)
  have k24 := hts (.fieldLink RX2 24 "BlockMarker$Machine" "manyPrints" "I") (by decide +kernel)
  have hS : va_S (fun _ => False) s.heap s.heap [] := va_S.rf
  have hl := lv_entry ([.ref aC, .ref aD]) (n := 3) (Nat.le_of_ble_eq_true rfl)
  rw [lg_entry_eq]
  generalize (lg_sl ([.ref aC, .ref aD]) ++ List.replicate (3 - (lg_sl ([.ref aC, .ref aD])).length) Slot.unset).toArray = ls at hl ⊢
  have hl : lv_has ls 3 [(0, .ref aC), (1, .ref aD)] := hl
  generalize hQQ : MQ below _ _ s 0 0 _ = QQ
  replace hQQ := hQQ.symm
  have b_15 : ∀ (n : Nat), ∀ (x2 : Int32), fX2_printsAs_h15  n x2 C_manyPrints C_prints D_manyPrints D_prints = some out → ∀ (locs : List Loc) (ls : Array Slot), va_S (fun _ => False) s.heap s.heap locs → lv_has ls 3 [(0, .ref aC), (1, .ref aD), (2, .int x2)] → W p l e (headSpec wsX2_printsAs { frames := 0, cells := 0, slots := 0, locals := 0 }).room s m ([.ref aC, .ref aD] : List Value).toArray below meth c s.heap locs 0 0 QQ (F0 m 15 ls []) := by
    intro  n
    induction n with
    | zero => intro x2 hf; exact nomatch (show (none : Option (Int32)) = some out from hf)
    | succ n ih =>
      intro x2 hf locs ls hS hl
      replace hf : uX2_printsAs_h15  (fX2_printsAs_h15  n) x2 C_manyPrints C_prints D_manyPrints D_prints = some out := hf
      unfold uX2_printsAs_h15 at hf
      refine lv_iload_n hx hb dX2_printsAs_15 rfl (lv_at hl 2 rfl) ?_
      refine lv_aload_n hx hb dX2_printsAs_16 rfl (lv_at hl 0 rfl) ?_
      refine va_get (D := D) (ci := 2) (v := .int C_manyPrints) (C := RX2) (T := TX2) (N := 3) hx hb hts iX2 hown hK.1 hP 0 rfl rfl 2 (by decide) k24 (fun _ h9 => h9) rfl dX2_printsAs_17 ?_
      refine lv_icmp_ge (tgt := 46) hx hb dX2_printsAs_20 (by decide) (fun c20 => ?_) (fun c20 => ?_)
      · have hf := ifp hf c20
        refine lv_iconst (v := (1 : Int32)) hx hb dX2_printsAs_46 (by decide) ?_
        rw [hQQ]
        exact W.zret (v := (1 : Int32)) hx hb hr rfl (fun t ht hW => ⟨⟨(1 : Int32), (), rfl, Option.some.inj hf, ht⟩, rF ht⟩) hS.2.2 dX2_printsAs_47
      · have hf := ifn hf c20
        refine lv_aload_n hx hb dX2_printsAs_23 rfl (lv_at hl 0 rfl) ?_
        refine va_get (D := D) (ci := 2) (v := .ref aC_prints) (C := RX2) (T := TX2) (N := 3) hx hb hts iX2 hown hK.1 hP 0 rfl rfl 1 (by decide) k15 (fun _ h9 => h9) rfl dX2_printsAs_24 ?_
        refine lv_iload_n hx hb dX2_printsAs_27 rfl (lv_at hl 2 rfl) ?_
        refine ckE hf (fun h28 hf => ?_)
        refine va_iald hx hb hK.1 hP 1 0 rfl rfl (inB_in h28) dX2_printsAs_28 ?_
        refine lv_aload_n hx hb dX2_printsAs_29 rfl (lv_at hl 1 rfl) ?_
        refine va_get (D := D) (ci := 2) (v := .ref aD_prints) (C := RX2) (T := TX2) (N := 3) hx hb hts iX2 hown hK.1 hP 2 rfl rfl 1 (by decide) k15 (fun _ h9 => h9) rfl dX2_printsAs_30 ?_
        refine lv_iload_n hx hb dX2_printsAs_33 rfl (lv_at hl 2 rfl) ?_
        refine ckE hf (fun h34 hf => ?_)
        refine va_iald hx hb hK.1 hP 3 0 rfl rfl (inB_in h34) dX2_printsAs_34 ?_
        refine lv_icmp_eq (tgt := 40) hx hb dX2_printsAs_35 (by decide) (fun c35 => ?_) (fun c35 => ?_)
        · have hf := ifp hf c35
          refine lv_iinc (v := (x2 + (1 : Int32))) (lv' := [(2, .int (x2 + (1 : Int32))), (0, .ref aC), (1, .ref aD)]) hx hb dX2_printsAs_40 hl (k := 2) rfl rfl (by decide) rfl (fun ls hl => ?_)
          refine lv_goto (tgt := 15) hx hb dX2_printsAs_43 (by decide) ?_
          exact ih (x2 + (1 : Int32)) hf _ _ hS (lv_sub hl [1, 2, 0] rfl)
        · have hf := ifn hf c35
          refine lv_iconst (v := (0 : Int32)) hx hb dX2_printsAs_38 (by decide) ?_
          rw [hQQ]
          exact W.zret (v := (0 : Int32)) hx hb hr rfl (fun t ht hW => ⟨⟨(0 : Int32), (), rfl, Option.some.inj hf, ht⟩, rF ht⟩) hS.2.2 dX2_printsAs_39
  unfold fX2_printsAs at hf
  refine lv_aload_n hx hb dX2_printsAs_0 rfl (lv_at hl 0 rfl) ?_
  refine va_get (D := D) (ci := 2) (v := .int C_manyPrints) (C := RX2) (T := TX2) (N := 3) hx hb hts iX2 hown hK.1 hP 0 rfl rfl 2 (by decide) k24 (fun _ h9 => h9) rfl dX2_printsAs_1 ?_
  refine lv_aload_n hx hb dX2_printsAs_4 rfl (lv_at hl 1 rfl) ?_
  refine va_get (D := D) (ci := 2) (v := .int D_manyPrints) (C := RX2) (T := TX2) (N := 3) hx hb hts iX2 hown hK.1 hP 2 rfl rfl 2 (by decide) k24 (fun _ h9 => h9) rfl dX2_printsAs_5 ?_
  refine lv_icmp_eq (tgt := 13) hx hb dX2_printsAs_8 (by decide) (fun c8 => ?_) (fun c8 => ?_)
  · have hf := ifp hf c8
    refine lv_iconst (v := (0 : Int32)) hx hb dX2_printsAs_13 (by decide) ?_
    refine lv_istore_n (lv' := [(2, .int (0 : Int32)), (0, .ref aC), (1, .ref aD)]) hx hb dX2_printsAs_14 rfl hl (by decide) rfl (fun ls hl => ?_)
    exact b_15 FU (0 : Int32) hf _ _ hS (lv_sub hl [1, 2, 0] rfl)
  · have hf := ifn hf c8
    refine lv_iconst (v := (0 : Int32)) hx hb dX2_printsAs_11 (by decide) ?_
    rw [hQQ]
    exact W.zret (v := (0 : Int32)) hx hb hr rfl (fun t ht hW => ⟨⟨(0 : Int32), (), rfl, Option.some.inj hf, ht⟩, rF ht⟩) hS.2.2 dX2_printsAs_12

