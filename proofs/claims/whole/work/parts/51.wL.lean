set_option maxHeartbeats 4000000 in
set_option maxRecDepth 100000 in
theorem tX1_isVariable (l : Launch) (D : va_G) (cI cJ cG : ClassId)  (Hs : Heap) (y0 : Int32)  (out : Int32) (hf : fX1_isVariable y0 = some out) : Met l yX1_isVariable wsX1_isVariable ({ frames := 0, cells := 0, slots := 0, locals := 0 }) (va_Pc [.int y0] (rP D (tyL cI cJ cG) [] Hs)) (rQi out Hs) 0 0 (fun _ => False) := by
  refine Met.ofW (cc := cX1_isVariable) (maxL := 1) (ret := (some .boolean)) (by decide) rfl ?_
  intro p e s m args below meth c s₁ B hml hv
  obtain ⟨rfl, rfl, hP, hK⟩ := hv
  have hx := B.exec
  have hb := B.bytes
  have hr := B.returns
  have hts := atoms_spec (ws := wsX1_isVariable) B.pre
  have hown : s.vm.findClass RX1 = some m.cls := findClass_of_methodNamed B.named
  have hlocks := B.notSynchronized
  have hS : va_S (fun _ => False) s.heap s.heap [] := va_S.rf
  have hl := lv_entry ([.int y0]) (n := 1) (Nat.le_of_ble_eq_true rfl)
  rw [lg_entry_eq]
  generalize (lg_sl ([.int y0]) ++ List.replicate (1 - (lg_sl ([.int y0])).length) Slot.unset).toArray = ls at hl ⊢
  have hl : lv_has ls 1 [(0, .int y0)] := hl
  generalize hQQ : MQ below _ _ s 0 0 _ = QQ
  replace hQQ := hQQ.symm
  unfold fX1_isVariable at hf
  refine lv_iload_n hx hb dX1_isVariable_0 rfl (lv_at hl 0 rfl) ?_
  refine lv_if_lt (tgt := 14) hx hb dX1_isVariable_1 (by decide) (fun c1 => ?_) (fun c1 => ?_)
  · have hf := ifp hf c1
    refine lv_iconst (v := (0 : Int32)) hx hb dX1_isVariable_14 (by decide) ?_
    rw [hQQ]
    exact W.zret (v := (0 : Int32)) hx hb hr rfl (fun t ht hW => ⟨⟨(0 : Int32), (), rfl, Option.some.inj hf, ht⟩, rF ht⟩) hS.2.2 dX1_isVariable_15
  · have hf := ifn hf c1
    refine lv_iload_n hx hb dX1_isVariable_4 rfl (lv_at hl 0 rfl) ?_
    refine lv_bipush (v := (6 : Int32)) hx hb dX1_isVariable_5 (by decide) ?_
    refine lv_icmp_ge (tgt := 14) hx hb dX1_isVariable_7 (by decide) (fun c7 => ?_) (fun c7 => ?_)
    · have hf := ifp hf c7
      refine lv_iconst (v := (0 : Int32)) hx hb dX1_isVariable_14 (by decide) ?_
      rw [hQQ]
      exact W.zret (v := (0 : Int32)) hx hb hr rfl (fun t ht hW => ⟨⟨(0 : Int32), (), rfl, Option.some.inj hf, ht⟩, rF ht⟩) hS.2.2 dX1_isVariable_15
    · have hf := ifn hf c7
      refine lv_iconst (v := (1 : Int32)) hx hb dX1_isVariable_10 (by decide) ?_
      refine lv_goto (tgt := 15) hx hb dX1_isVariable_11 (by decide) ?_
      rw [hQQ]
      exact W.zret (v := (1 : Int32)) hx hb hr rfl (fun t ht hW => ⟨⟨(1 : Int32), (), rfl, Option.some.inj hf, ht⟩, rF ht⟩) hS.2.2 dX1_isVariable_15

set_option maxHeartbeats 4000000 in
set_option maxRecDepth 100000 in
theorem tX1_isAsTold (l : Launch) (D : va_G) (cI cJ cG : ClassId)  (Hs : Heap) (y0 : Int32) (y1 : Int32) (y2 : Int32)  (out : Int32) (hf : fX1_isAsTold y0 y1 y2 = some out) : Met l yX1_isAsTold wsX1_isAsTold ({ frames := 1, cells := 0, slots := 0, locals := 20 }) (va_Pc [.int y0, .int y1, .int y2] (rP D (tyL cI cJ cG) [] Hs)) (rQi out Hs) 0 0 (fun _ => False) := by
  refine Met.ofW (cc := cX1_isAsTold) (maxL := 3) (ret := (some .boolean)) (by decide) rfl ?_
  intro p e s m args below meth c s₁ B hml hv
  obtain ⟨rfl, rfl, hP, hK⟩ := hv
  have hx := B.exec
  have hb := B.bytes
  have hr := B.returns
  have hts := atoms_spec (ws := wsX1_isAsTold) B.pre
  have hown : s.vm.findClass RX1 = some m.cls := findClass_of_methodNamed B.named
  have hlocks := B.notSynchronized
  have hS : va_S (fun _ => False) s.heap s.heap [] := va_S.rf
  have hl := lv_entry ([.int y0, .int y1, .int y2]) (n := 3) (Nat.le_of_ble_eq_true rfl)
  rw [lg_entry_eq]
  generalize (lg_sl ([.int y0, .int y1, .int y2]) ++ List.replicate (3 - (lg_sl ([.int y0, .int y1, .int y2])).length) Slot.unset).toArray = ls at hl ⊢
  have hl : lv_has ls 3 [(0, .int y0), (1, .int y1), (2, .int y2)] := hl
  generalize hQQ : MQ below _ _ s 0 0 _ = QQ
  replace hQQ := hQQ.symm
  unfold fX1_isAsTold at hf
  refine lv_iload_n hx hb dX1_isAsTold_0 rfl (lv_at hl 0 rfl) ?_
  by_cases c1_0 : y0 = (0 : Int32)
  · have hf := ifp hf c1_0
    refine lv_tableIn (off := 45) (tgt := 46) hx hb dX1_isAsTold_1 (by rw [c1_0]; decide) (by rw [c1_0]; decide) (by rw [c1_0]; decide) (by decide) ?_
    refine lv_iload_n hx hb dX1_isAsTold_46 rfl (lv_at hl 1 rfl) ?_
    refine bnd hf (fun o47 e47 hf => ?_)
    refine rdSi (As := [.int y1]) (rest := []) ⟨hx, hb, hml, hown, hts⟩ (tX1_isVariable l D cI cJ cG  s.heap y1  o47 e47) (va_cwS 1 hts gX1_isAsTold_X1_isVariable rfl rfl rfl (by decide +kernel) ⟨Nat.le_of_ble_eq_true rfl, Nat.le_of_ble_eq_true rfl⟩) hK (hP.sub (ws' := []) [] rfl) rfl hl.1 rfl (lv_room (Nat.le_of_ble_eq_true rfl)) dX1_isAsTold_47 ⟨Nat.le_of_ble_eq_true rfl, Nat.le_of_ble_eq_true rfl⟩ hS (fun locs hS => ?_)
    refine ckE hf (fun h50 hf => ?_)
    rw [hQQ]
    exact W.zret (v := o47) hx hb hr (z01 h50) (fun t ht hW => ⟨⟨o47, (), rfl, Option.some.inj hf, ht⟩, rF ht⟩) hS.2.2 dX1_isAsTold_50
  · have hf := ifn hf c1_0
    by_cases c1_1 : y0 = (1 : Int32)
    · have hf := ifp hf c1_1
      refine lv_tableIn (off := 50) (tgt := 51) hx hb dX1_isAsTold_1 (by rw [c1_1]; decide) (by rw [c1_1]; decide) (by rw [c1_1]; decide) (by decide) ?_
      refine lv_iload_n hx hb dX1_isAsTold_51 rfl (lv_at hl 1 rfl) ?_
      refine bnd hf (fun o52 e52 hf => ?_)
      refine rdSi (As := [.int y1]) (rest := []) ⟨hx, hb, hml, hown, hts⟩ (tX1_isVariable l D cI cJ cG  s.heap y1  o52 e52) (va_cwS 1 hts gX1_isAsTold_X1_isVariable rfl rfl rfl (by decide +kernel) ⟨Nat.le_of_ble_eq_true rfl, Nat.le_of_ble_eq_true rfl⟩) hK (hP.sub (ws' := []) [] rfl) rfl hl.1 rfl (lv_room (Nat.le_of_ble_eq_true rfl)) dX1_isAsTold_52 ⟨Nat.le_of_ble_eq_true rfl, Nat.le_of_ble_eq_true rfl⟩ hS (fun locs hS => ?_)
      refine lv_if_eq (tgt := 69) hx hb dX1_isAsTold_55 (by decide) (fun c55 => ?_) (fun c55 => ?_)
      · have hf := ifp hf c55
        refine lv_iconst (v := (0 : Int32)) hx hb dX1_isAsTold_69 (by decide) ?_
        rw [hQQ]
        exact W.zret (v := (0 : Int32)) hx hb hr rfl (fun t ht hW => ⟨⟨(0 : Int32), (), rfl, Option.some.inj hf, ht⟩, rF ht⟩) hS.2.2 dX1_isAsTold_70
      · have hf := ifn hf c55
        refine lv_iload_n hx hb dX1_isAsTold_58 rfl (lv_at hl 2 rfl) ?_
        refine bnd hf (fun o59 e59 hf => ?_)
        refine rdSi (As := [.int y2]) (rest := []) ⟨hx, hb, hml, hown, hts⟩ (tX1_isVariable l D cI cJ cG  s.heap y2  o59 e59) (va_cwS 1 hts gX1_isAsTold_X1_isVariable rfl rfl rfl (by decide +kernel) ⟨Nat.le_of_ble_eq_true rfl, Nat.le_of_ble_eq_true rfl⟩) hK (hP.sub (ws' := []) [] rfl) rfl hl.1 rfl (lv_room (Nat.le_of_ble_eq_true rfl)) dX1_isAsTold_59 ⟨Nat.le_of_ble_eq_true rfl, Nat.le_of_ble_eq_true rfl⟩ hS (fun locs hS => ?_)
        refine lv_if_eq (tgt := 69) hx hb dX1_isAsTold_62 (by decide) (fun c62 => ?_) (fun c62 => ?_)
        · have hf := ifp hf c62
          refine lv_iconst (v := (0 : Int32)) hx hb dX1_isAsTold_69 (by decide) ?_
          rw [hQQ]
          exact W.zret (v := (0 : Int32)) hx hb hr rfl (fun t ht hW => ⟨⟨(0 : Int32), (), rfl, Option.some.inj hf, ht⟩, rF ht⟩) hS.2.2 dX1_isAsTold_70
        · have hf := ifn hf c62
          refine lv_iconst (v := (1 : Int32)) hx hb dX1_isAsTold_65 (by decide) ?_
          refine lv_goto (tgt := 70) hx hb dX1_isAsTold_66 (by decide) ?_
          rw [hQQ]
          exact W.zret (v := (1 : Int32)) hx hb hr rfl (fun t ht hW => ⟨⟨(1 : Int32), (), rfl, Option.some.inj hf, ht⟩, rF ht⟩) hS.2.2 dX1_isAsTold_70
    · have hf := ifn hf c1_1
      by_cases c1_2 : y0 = (2 : Int32)
      · have hf := ifp hf c1_2
        refine lv_tableIn (off := 50) (tgt := 51) hx hb dX1_isAsTold_1 (by rw [c1_2]; decide) (by rw [c1_2]; decide) (by rw [c1_2]; decide) (by decide) ?_
        refine lv_iload_n hx hb dX1_isAsTold_51 rfl (lv_at hl 1 rfl) ?_
        refine bnd hf (fun o52 e52 hf => ?_)
        refine rdSi (As := [.int y1]) (rest := []) ⟨hx, hb, hml, hown, hts⟩ (tX1_isVariable l D cI cJ cG  s.heap y1  o52 e52) (va_cwS 1 hts gX1_isAsTold_X1_isVariable rfl rfl rfl (by decide +kernel) ⟨Nat.le_of_ble_eq_true rfl, Nat.le_of_ble_eq_true rfl⟩) hK (hP.sub (ws' := []) [] rfl) rfl hl.1 rfl (lv_room (Nat.le_of_ble_eq_true rfl)) dX1_isAsTold_52 ⟨Nat.le_of_ble_eq_true rfl, Nat.le_of_ble_eq_true rfl⟩ hS (fun locs hS => ?_)
        refine lv_if_eq (tgt := 69) hx hb dX1_isAsTold_55 (by decide) (fun c55 => ?_) (fun c55 => ?_)
        · have hf := ifp hf c55
          refine lv_iconst (v := (0 : Int32)) hx hb dX1_isAsTold_69 (by decide) ?_
          rw [hQQ]
          exact W.zret (v := (0 : Int32)) hx hb hr rfl (fun t ht hW => ⟨⟨(0 : Int32), (), rfl, Option.some.inj hf, ht⟩, rF ht⟩) hS.2.2 dX1_isAsTold_70
        · have hf := ifn hf c55
          refine lv_iload_n hx hb dX1_isAsTold_58 rfl (lv_at hl 2 rfl) ?_
          refine bnd hf (fun o59 e59 hf => ?_)
          refine rdSi (As := [.int y2]) (rest := []) ⟨hx, hb, hml, hown, hts⟩ (tX1_isVariable l D cI cJ cG  s.heap y2  o59 e59) (va_cwS 1 hts gX1_isAsTold_X1_isVariable rfl rfl rfl (by decide +kernel) ⟨Nat.le_of_ble_eq_true rfl, Nat.le_of_ble_eq_true rfl⟩) hK (hP.sub (ws' := []) [] rfl) rfl hl.1 rfl (lv_room (Nat.le_of_ble_eq_true rfl)) dX1_isAsTold_59 ⟨Nat.le_of_ble_eq_true rfl, Nat.le_of_ble_eq_true rfl⟩ hS (fun locs hS => ?_)
          refine lv_if_eq (tgt := 69) hx hb dX1_isAsTold_62 (by decide) (fun c62 => ?_) (fun c62 => ?_)
          · have hf := ifp hf c62
            refine lv_iconst (v := (0 : Int32)) hx hb dX1_isAsTold_69 (by decide) ?_
            rw [hQQ]
            exact W.zret (v := (0 : Int32)) hx hb hr rfl (fun t ht hW => ⟨⟨(0 : Int32), (), rfl, Option.some.inj hf, ht⟩, rF ht⟩) hS.2.2 dX1_isAsTold_70
          · have hf := ifn hf c62
            refine lv_iconst (v := (1 : Int32)) hx hb dX1_isAsTold_65 (by decide) ?_
            refine lv_goto (tgt := 70) hx hb dX1_isAsTold_66 (by decide) ?_
            rw [hQQ]
            exact W.zret (v := (1 : Int32)) hx hb hr rfl (fun t ht hW => ⟨⟨(1 : Int32), (), rfl, Option.some.inj hf, ht⟩, rF ht⟩) hS.2.2 dX1_isAsTold_70
      · have hf := ifn hf c1_2
        by_cases c1_3 : y0 = (3 : Int32)
        · have hf := ifp hf c1_3
          refine lv_tableIn (off := 50) (tgt := 51) hx hb dX1_isAsTold_1 (by rw [c1_3]; decide) (by rw [c1_3]; decide) (by rw [c1_3]; decide) (by decide) ?_
          refine lv_iload_n hx hb dX1_isAsTold_51 rfl (lv_at hl 1 rfl) ?_
          refine bnd hf (fun o52 e52 hf => ?_)
          refine rdSi (As := [.int y1]) (rest := []) ⟨hx, hb, hml, hown, hts⟩ (tX1_isVariable l D cI cJ cG  s.heap y1  o52 e52) (va_cwS 1 hts gX1_isAsTold_X1_isVariable rfl rfl rfl (by decide +kernel) ⟨Nat.le_of_ble_eq_true rfl, Nat.le_of_ble_eq_true rfl⟩) hK (hP.sub (ws' := []) [] rfl) rfl hl.1 rfl (lv_room (Nat.le_of_ble_eq_true rfl)) dX1_isAsTold_52 ⟨Nat.le_of_ble_eq_true rfl, Nat.le_of_ble_eq_true rfl⟩ hS (fun locs hS => ?_)
          refine lv_if_eq (tgt := 69) hx hb dX1_isAsTold_55 (by decide) (fun c55 => ?_) (fun c55 => ?_)
          · have hf := ifp hf c55
            refine lv_iconst (v := (0 : Int32)) hx hb dX1_isAsTold_69 (by decide) ?_
            rw [hQQ]
            exact W.zret (v := (0 : Int32)) hx hb hr rfl (fun t ht hW => ⟨⟨(0 : Int32), (), rfl, Option.some.inj hf, ht⟩, rF ht⟩) hS.2.2 dX1_isAsTold_70
          · have hf := ifn hf c55
            refine lv_iload_n hx hb dX1_isAsTold_58 rfl (lv_at hl 2 rfl) ?_
            refine bnd hf (fun o59 e59 hf => ?_)
            refine rdSi (As := [.int y2]) (rest := []) ⟨hx, hb, hml, hown, hts⟩ (tX1_isVariable l D cI cJ cG  s.heap y2  o59 e59) (va_cwS 1 hts gX1_isAsTold_X1_isVariable rfl rfl rfl (by decide +kernel) ⟨Nat.le_of_ble_eq_true rfl, Nat.le_of_ble_eq_true rfl⟩) hK (hP.sub (ws' := []) [] rfl) rfl hl.1 rfl (lv_room (Nat.le_of_ble_eq_true rfl)) dX1_isAsTold_59 ⟨Nat.le_of_ble_eq_true rfl, Nat.le_of_ble_eq_true rfl⟩ hS (fun locs hS => ?_)
            refine lv_if_eq (tgt := 69) hx hb dX1_isAsTold_62 (by decide) (fun c62 => ?_) (fun c62 => ?_)
            · have hf := ifp hf c62
              refine lv_iconst (v := (0 : Int32)) hx hb dX1_isAsTold_69 (by decide) ?_
              rw [hQQ]
              exact W.zret (v := (0 : Int32)) hx hb hr rfl (fun t ht hW => ⟨⟨(0 : Int32), (), rfl, Option.some.inj hf, ht⟩, rF ht⟩) hS.2.2 dX1_isAsTold_70
            · have hf := ifn hf c62
              refine lv_iconst (v := (1 : Int32)) hx hb dX1_isAsTold_65 (by decide) ?_
              refine lv_goto (tgt := 70) hx hb dX1_isAsTold_66 (by decide) ?_
              rw [hQQ]
              exact W.zret (v := (1 : Int32)) hx hb hr rfl (fun t ht hW => ⟨⟨(1 : Int32), (), rfl, Option.some.inj hf, ht⟩, rF ht⟩) hS.2.2 dX1_isAsTold_70
        · have hf := ifn hf c1_3
          by_cases c1_4 : y0 = (4 : Int32)
          · have hf := ifp hf c1_4
            refine lv_tableIn (off := 45) (tgt := 46) hx hb dX1_isAsTold_1 (by rw [c1_4]; decide) (by rw [c1_4]; decide) (by rw [c1_4]; decide) (by decide) ?_
            refine lv_iload_n hx hb dX1_isAsTold_46 rfl (lv_at hl 1 rfl) ?_
            refine bnd hf (fun o47 e47 hf => ?_)
            refine rdSi (As := [.int y1]) (rest := []) ⟨hx, hb, hml, hown, hts⟩ (tX1_isVariable l D cI cJ cG  s.heap y1  o47 e47) (va_cwS 1 hts gX1_isAsTold_X1_isVariable rfl rfl rfl (by decide +kernel) ⟨Nat.le_of_ble_eq_true rfl, Nat.le_of_ble_eq_true rfl⟩) hK (hP.sub (ws' := []) [] rfl) rfl hl.1 rfl (lv_room (Nat.le_of_ble_eq_true rfl)) dX1_isAsTold_47 ⟨Nat.le_of_ble_eq_true rfl, Nat.le_of_ble_eq_true rfl⟩ hS (fun locs hS => ?_)
            refine ckE hf (fun h50 hf => ?_)
            rw [hQQ]
            exact W.zret (v := o47) hx hb hr (z01 h50) (fun t ht hW => ⟨⟨o47, (), rfl, Option.some.inj hf, ht⟩, rF ht⟩) hS.2.2 dX1_isAsTold_50
          · have hf := ifn hf c1_4
            by_cases c1_5 : y0 = (5 : Int32)
            · have hf := ifp hf c1_5
              refine lv_tableIn (off := 43) (tgt := 44) hx hb dX1_isAsTold_1 (by rw [c1_5]; decide) (by rw [c1_5]; decide) (by rw [c1_5]; decide) (by decide) ?_
              refine lv_iconst (v := (1 : Int32)) hx hb dX1_isAsTold_44 (by decide) ?_
              rw [hQQ]
              exact W.zret (v := (1 : Int32)) hx hb hr rfl (fun t ht hW => ⟨⟨(1 : Int32), (), rfl, Option.some.inj hf, ht⟩, rF ht⟩) hS.2.2 dX1_isAsTold_45
            · have hf := ifn hf c1_5
              by_cases c1_6 : y0 = (6 : Int32)
              · have hf := ifp hf c1_6
                refine lv_tableIn (off := 50) (tgt := 51) hx hb dX1_isAsTold_1 (by rw [c1_6]; decide) (by rw [c1_6]; decide) (by rw [c1_6]; decide) (by decide) ?_
                refine lv_iload_n hx hb dX1_isAsTold_51 rfl (lv_at hl 1 rfl) ?_
                refine bnd hf (fun o52 e52 hf => ?_)
                refine rdSi (As := [.int y1]) (rest := []) ⟨hx, hb, hml, hown, hts⟩ (tX1_isVariable l D cI cJ cG  s.heap y1  o52 e52) (va_cwS 1 hts gX1_isAsTold_X1_isVariable rfl rfl rfl (by decide +kernel) ⟨Nat.le_of_ble_eq_true rfl, Nat.le_of_ble_eq_true rfl⟩) hK (hP.sub (ws' := []) [] rfl) rfl hl.1 rfl (lv_room (Nat.le_of_ble_eq_true rfl)) dX1_isAsTold_52 ⟨Nat.le_of_ble_eq_true rfl, Nat.le_of_ble_eq_true rfl⟩ hS (fun locs hS => ?_)
                refine lv_if_eq (tgt := 69) hx hb dX1_isAsTold_55 (by decide) (fun c55 => ?_) (fun c55 => ?_)
                · have hf := ifp hf c55
                  refine lv_iconst (v := (0 : Int32)) hx hb dX1_isAsTold_69 (by decide) ?_
                  rw [hQQ]
                  exact W.zret (v := (0 : Int32)) hx hb hr rfl (fun t ht hW => ⟨⟨(0 : Int32), (), rfl, Option.some.inj hf, ht⟩, rF ht⟩) hS.2.2 dX1_isAsTold_70
                · have hf := ifn hf c55
                  refine lv_iload_n hx hb dX1_isAsTold_58 rfl (lv_at hl 2 rfl) ?_
                  refine bnd hf (fun o59 e59 hf => ?_)
                  refine rdSi (As := [.int y2]) (rest := []) ⟨hx, hb, hml, hown, hts⟩ (tX1_isVariable l D cI cJ cG  s.heap y2  o59 e59) (va_cwS 1 hts gX1_isAsTold_X1_isVariable rfl rfl rfl (by decide +kernel) ⟨Nat.le_of_ble_eq_true rfl, Nat.le_of_ble_eq_true rfl⟩) hK (hP.sub (ws' := []) [] rfl) rfl hl.1 rfl (lv_room (Nat.le_of_ble_eq_true rfl)) dX1_isAsTold_59 ⟨Nat.le_of_ble_eq_true rfl, Nat.le_of_ble_eq_true rfl⟩ hS (fun locs hS => ?_)
                  refine lv_if_eq (tgt := 69) hx hb dX1_isAsTold_62 (by decide) (fun c62 => ?_) (fun c62 => ?_)
                  · have hf := ifp hf c62
                    refine lv_iconst (v := (0 : Int32)) hx hb dX1_isAsTold_69 (by decide) ?_
                    rw [hQQ]
                    exact W.zret (v := (0 : Int32)) hx hb hr rfl (fun t ht hW => ⟨⟨(0 : Int32), (), rfl, Option.some.inj hf, ht⟩, rF ht⟩) hS.2.2 dX1_isAsTold_70
                  · have hf := ifn hf c62
                    refine lv_iconst (v := (1 : Int32)) hx hb dX1_isAsTold_65 (by decide) ?_
                    refine lv_goto (tgt := 70) hx hb dX1_isAsTold_66 (by decide) ?_
                    rw [hQQ]
                    exact W.zret (v := (1 : Int32)) hx hb hr rfl (fun t ht hW => ⟨⟨(1 : Int32), (), rfl, Option.some.inj hf, ht⟩, rF ht⟩) hS.2.2 dX1_isAsTold_70
              · have hf := ifn hf c1_6
                have u1_0 := lv_neT c1_0 (a := 0) rfl
                have u1_1 := lv_neT c1_1 (a := 1) rfl
                have u1_2 := lv_neT c1_2 (a := 2) rfl
                have u1_3 := lv_neT c1_3 (a := 3) rfl
                have u1_4 := lv_neT c1_4 (a := 4) rfl
                have u1_5 := lv_neT c1_5 (a := 5) rfl
                have u1_6 := lv_neT c1_6 (a := 6) rfl
                refine lv_tableOut (tgt := 71) hx hb dX1_isAsTold_1 (by omega) (by decide) ?_
                refine lv_iconst (v := (0 : Int32)) hx hb dX1_isAsTold_71 (by decide) ?_
                rw [hQQ]
                exact W.zret (v := (0 : Int32)) hx hb hr rfl (fun t ht hW => ⟨⟨(0 : Int32), (), rfl, Option.some.inj hf, ht⟩, rF ht⟩) hS.2.2 dX1_isAsTold_72

set_option maxHeartbeats 4000000 in
set_option maxRecDepth 100000 in
theorem tX1_has (l : Launch) (D : va_G) (cI cJ cG : ClassId) (aL aL_kinds aL_vs aL_ws aL_roles aL_mates : Nat) (Hs : Heap) (y1 : Int32) (L_many : Int32) (out : Int32) (hf : fX1_has y1 L_many = some out) : Met l yX1_has wsX1_has ({ frames := 0, cells := 0, slots := 0, locals := 0 }) (va_Pc [.ref aL, .int y1] (rP D (tyL cI cJ cG) [(aL, .inr (1, [.ref aL_kinds, .ref aL_vs, .ref aL_ws, .ref aL_roles, .ref aL_mates, .int L_many]))] Hs)) (rQi out Hs) 0 0 (fun _ => False) := by
  refine Met.ofW (cc := cX1_has) (maxL := 2) (ret := (some .boolean)) (by decide) rfl ?_
  intro p e s m args below meth c s₁ B hml hv
  obtain ⟨rfl, rfl, hP, hK⟩ := hv
  have hx := B.exec
  have hb := B.bytes
  have hr := B.returns
  have hts := atoms_spec (ws := wsX1_has) B.pre
  have hown : s.vm.findClass RX1 = some m.cls := findClass_of_methodNamed B.named
  have hlocks := B.notSynchronized
  have iX1 : ∀ w ∈ wsX10, w ∈ wsX1_has := by decide +kernel
  have k31 := hts (.fieldLink RX1 31 "BlockMarker$Lines" "many" "I") (by decide +kernel)
  have hS : va_S (fun _ => False) s.heap s.heap [] := va_S.rf
  have hl := lv_entry ([.ref aL, .int y1]) (n := 2) (Nat.le_of_ble_eq_true rfl)
  rw [lg_entry_eq]
  generalize (lg_sl ([.ref aL, .int y1]) ++ List.replicate (2 - (lg_sl ([.ref aL, .int y1])).length) Slot.unset).toArray = ls at hl ⊢
  have hl : lv_has ls 2 [(0, .ref aL), (1, .int y1)] := hl
  generalize hQQ : MQ below _ _ s 0 0 _ = QQ
  replace hQQ := hQQ.symm
  unfold fX1_has at hf
  refine lv_iload_n hx hb dX1_has_0 rfl (lv_at hl 1 rfl) ?_
  refine lv_if_lt (tgt := 16) hx hb dX1_has_1 (by decide) (fun c1 => ?_) (fun c1 => ?_)
  · have hf := ifp hf c1
    refine lv_iconst (v := (0 : Int32)) hx hb dX1_has_16 (by decide) ?_
    rw [hQQ]
    exact W.zret (v := (0 : Int32)) hx hb hr rfl (fun t ht hW => ⟨⟨(0 : Int32), (), rfl, Option.some.inj hf, ht⟩, rF ht⟩) hS.2.2 dX1_has_17
  · have hf := ifn hf c1
    refine lv_iload_n hx hb dX1_has_4 rfl (lv_at hl 1 rfl) ?_
    refine lv_aload_n hx hb dX1_has_5 rfl (lv_at hl 0 rfl) ?_
    refine va_get (D := D) (ci := 1) (v := .int L_many) (C := RX1) (T := TX1) (N := 6) hx hb hts iX1 hown hK.1 hP 0 rfl rfl 5 (by decide) k31 (fun _ h9 => h9) rfl dX1_has_6 ?_
    refine lv_icmp_ge (tgt := 16) hx hb dX1_has_9 (by decide) (fun c9 => ?_) (fun c9 => ?_)
    · have hf := ifp hf c9
      refine lv_iconst (v := (0 : Int32)) hx hb dX1_has_16 (by decide) ?_
      rw [hQQ]
      exact W.zret (v := (0 : Int32)) hx hb hr rfl (fun t ht hW => ⟨⟨(0 : Int32), (), rfl, Option.some.inj hf, ht⟩, rF ht⟩) hS.2.2 dX1_has_17
    · have hf := ifn hf c9
      refine lv_iconst (v := (1 : Int32)) hx hb dX1_has_12 (by decide) ?_
      refine lv_goto (tgt := 17) hx hb dX1_has_13 (by decide) ?_
      rw [hQQ]
      exact W.zret (v := (1 : Int32)) hx hb hr rfl (fun t ht hW => ⟨⟨(1 : Int32), (), rfl, Option.some.inj hf, ht⟩, rF ht⟩) hS.2.2 dX1_has_17

set_option maxHeartbeats 4000000 in
set_option maxRecDepth 100000 in
theorem tX1_add (l : Launch) (D : va_G) (cI cJ cG : ClassId) (aL aL_kinds aL_vs aL_ws aL_roles aL_mates : Nat) (sz : Nat) (y1 : Int32) (y2 : Int32) (y3 : Int32) (y4 : Int32) (y5 : Int32) (L_many : Int32) (L_kinds : (Nat → Int32)) (L_vs : (Nat → Int32)) (L_ws : (Nat → Int32)) (L_roles : (Nat → Int32)) (L_mates : (Nat → Int32)) (out : Int32 × Int32 × (Nat → Int32) × (Nat → Int32) × (Nat → Int32) × (Nat → Int32) × (Nat → Int32)) (hf : fX1_add y1 y2 y3 y4 y5 L_many L_kinds L_vs L_ws L_roles L_mates = some out) : Met l yX1_add wsX1_add ({ frames := 1, cells := 0, slots := 0, locals := 21 }) (va_Pc [.ref aL, .int y1, .int y2, .int y3, .int y4, .int y5] (wP D (tyL cI cJ cG) [(aL, .inr (1, [.ref aL_kinds, .ref aL_vs, .ref aL_ws, .ref aL_roles, .ref aL_mates, .int L_many])), (aL_kinds, eI cI 16 L_kinds), (aL_vs, eI cI 16 L_vs), (aL_ws, eI cI 16 L_ws), (aL_roles, eI cI 16 L_roles), (aL_mates, eI cI 16 L_mates)] sz)) (wQi D out.1 [(aL, .inr (1, [.ref aL_kinds, .ref aL_vs, .ref aL_ws, .ref aL_roles, .ref aL_mates, .int L_many])), (aL_kinds, eI cI 16 L_kinds), (aL_vs, eI cI 16 L_vs), (aL_ws, eI cI 16 L_ws), (aL_roles, eI cI 16 L_roles), (aL_mates, eI cI 16 L_mates)] [(aL, .inr (1, [.ref aL_kinds, .ref aL_vs, .ref aL_ws, .ref aL_roles, .ref aL_mates, .int out.2.1])), (aL_kinds, eI cI 16 out.2.2.1), (aL_vs, eI cI 16 out.2.2.2.1), (aL_ws, eI cI 16 out.2.2.2.2.1), (aL_roles, eI cI 16 out.2.2.2.2.2.1), (aL_mates, eI cI 16 out.2.2.2.2.2.2)] sz) 0 0 (va_A [(aL, .inr (1, [.ref aL_kinds, .ref aL_vs, .ref aL_ws, .ref aL_roles, .ref aL_mates, .int L_many])), (aL_kinds, eI cI 16 L_kinds), (aL_vs, eI cI 16 L_vs), (aL_ws, eI cI 16 L_ws), (aL_roles, eI cI 16 L_roles), (aL_mates, eI cI 16 L_mates)] sz) := by
  refine Met.ofW (cc := cX1_add) (maxL := 6) (ret := (some .int)) (by decide) rfl ?_
  intro p e s m args below meth c s₁ B hml hv
  obtain ⟨rfl, hsz, hP, hK, hD0⟩ := hv
  have hx := B.exec
  have hb := B.bytes
  have hr := B.returns
  have hts := atoms_spec (ws := wsX1_add) B.pre
  have hown : s.vm.findClass RX1 = some m.cls := findClass_of_methodNamed B.named
  have hlocks := B.notSynchronized
  have iX1 : ∀ w ∈ wsX10, w ∈ wsX1_add := by decide +kernel
  have k9 := hts (.fieldLink RX1 9 "BlockMarker$Lines" "kinds" "[I") (by decide +kernel)
  have k15 := hts (.fieldLink RX1 15 "BlockMarker$Lines" "vs" "[I") (by decide +kernel)
  have k18 := hts (.fieldLink RX1 18 "BlockMarker$Lines" "ws" "[I") (by decide +kernel)
  have k21 := hts (.fieldLink RX1 21 "BlockMarker$Lines" "roles" "[I") (by decide +kernel)
  have k24 := hts (.fieldLink RX1 24 "BlockMarker$Lines" "mates" "[I") (by decide +kernel)
  have k31 := hts (.fieldLink RX1 31 "BlockMarker$Lines" "many" "I") (by decide +kernel)
  subst hsz
  have hD := hD0.self (sz := s.heap.size)
  generalize hAe : va_A [(aL, .inr (1, [.ref aL_kinds, .ref aL_vs, .ref aL_ws, .ref aL_roles, .ref aL_mates, .int L_many])), (aL_kinds, eI cI 16 L_kinds), (aL_vs, eI cI 16 L_vs), (aL_ws, eI cI 16 L_ws), (aL_roles, eI cI 16 L_roles), (aL_mates, eI cI 16 L_mates)] s.heap.size = A at hD ⊢
  have hA : ∀ q : Nat, s.heap.size ≤ q → A q := fun q h => by rw [← hAe]; exact Or.inr h
  have hS : va_S A s.heap s.heap [] := va_S.rf
  have hl := lv_entry ([.ref aL, .int y1, .int y2, .int y3, .int y4, .int y5]) (n := 6) (Nat.le_of_ble_eq_true rfl)
  rw [lg_entry_eq]
  generalize (lg_sl ([.ref aL, .int y1, .int y2, .int y3, .int y4, .int y5]) ++ List.replicate (6 - (lg_sl ([.ref aL, .int y1, .int y2, .int y3, .int y4, .int y5])).length) Slot.unset).toArray = ls at hl ⊢
  have hl : lv_has ls 6 [(0, .ref aL), (1, .int y1), (2, .int y2), (3, .int y3), (4, .int y4), (5, .int y5)] := hl
  generalize hQQ : MQ below _ _ s 0 0 _ = QQ
  replace hQQ := hQQ.symm
  generalize hHH : s.heap = H at hP ⊢
  have hS : va_S A s.heap H [] := by rw [← hHH]; exact va_S.rf
  generalize ([] : List Loc) = locs at hS ⊢
  unfold fX1_add at hf
  refine lv_aload_n hx hb dX1_add_0 rfl (lv_at hl 0 rfl) ?_
  refine va_get (D := D) (ci := 1) (v := .int L_many) (C := RX1) (T := TX1) (N := 6) hx hb hts iX1 hown hK.1 hP 0 rfl rfl 5 (by decide) k31 (fun _ h9 => h9) rfl dX1_add_1 ?_
  refine lv_bipush (v := (16 : Int32)) hx hb dX1_add_4 (by decide) ?_
  refine lv_icmp_lt (tgt := 12) hx hb dX1_add_6 (by decide) (fun c6 => ?_) (fun c6 => ?_)
  · have hf := ifp hf c6
    refine lv_aload_n hx hb dX1_add_12 rfl (lv_at hl 0 rfl) ?_
    refine va_get (D := D) (ci := 1) (v := .ref aL_kinds) (C := RX1) (T := TX1) (N := 6) hx hb hts iX1 hown hK.1 hP 0 rfl rfl 0 (by decide) k9 (fun _ h9 => h9) rfl dX1_add_13 ?_
    refine lv_aload_n hx hb dX1_add_16 rfl (lv_at hl 0 rfl) ?_
    refine va_get (D := D) (ci := 1) (v := .int L_many) (C := RX1) (T := TX1) (N := 6) hx hb hts iX1 hown hK.1 hP 0 rfl rfl 5 (by decide) k31 (fun _ h9 => h9) rfl dX1_add_17 ?_
    refine lv_iload_n hx hb dX1_add_20 rfl (lv_at hl 1 rfl) ?_
    refine ckE hf (fun h21 hf => ?_)
    refine va_iast hx hb hK.1 hP hD hS 1 0 rfl rfl (inB_in h21) dX1_add_21 (fun H locs hP hD hS => ?_)
    have hP : va_P D vwCl [(aL, .inr (1, [.ref aL_kinds, .ref aL_vs, .ref aL_ws, .ref aL_roles, .ref aL_mates, .int L_many])), (aL_kinds, eI cI 16 (upd L_kinds (L_many).toNatClampNeg y1)), (aL_vs, eI cI 16 L_vs), (aL_ws, eI cI 16 L_ws), (aL_roles, eI cI 16 L_roles), (aL_mates, eI cI 16 L_mates)] H := hP
    have hD : va_D A [(aL, .inr (1, [.ref aL_kinds, .ref aL_vs, .ref aL_ws, .ref aL_roles, .ref aL_mates, .int L_many])), (aL_kinds, eI cI 16 (upd L_kinds (L_many).toNatClampNeg y1)), (aL_vs, eI cI 16 L_vs), (aL_ws, eI cI 16 L_ws), (aL_roles, eI cI 16 L_roles), (aL_mates, eI cI 16 L_mates)] := hD
    refine lv_aload_n hx hb dX1_add_22 rfl (lv_at hl 0 rfl) ?_
    refine va_get (D := D) (ci := 1) (v := .ref aL_vs) (C := RX1) (T := TX1) (N := 6) hx hb hts iX1 hown hK.1 hP 0 rfl rfl 1 (by decide) k15 (fun _ h9 => h9) rfl dX1_add_23 ?_
    refine lv_aload_n hx hb dX1_add_26 rfl (lv_at hl 0 rfl) ?_
    refine va_get (D := D) (ci := 1) (v := .int L_many) (C := RX1) (T := TX1) (N := 6) hx hb hts iX1 hown hK.1 hP 0 rfl rfl 5 (by decide) k31 (fun _ h9 => h9) rfl dX1_add_27 ?_
    refine lv_iload_n hx hb dX1_add_30 rfl (lv_at hl 2 rfl) ?_
    refine ckE hf (fun h31 hf => ?_)
    refine va_iast hx hb hK.1 hP hD hS 2 0 rfl rfl (inB_in h31) dX1_add_31 (fun H locs hP hD hS => ?_)
    have hP : va_P D vwCl [(aL, .inr (1, [.ref aL_kinds, .ref aL_vs, .ref aL_ws, .ref aL_roles, .ref aL_mates, .int L_many])), (aL_kinds, eI cI 16 (upd L_kinds (L_many).toNatClampNeg y1)), (aL_vs, eI cI 16 (upd L_vs (L_many).toNatClampNeg y2)), (aL_ws, eI cI 16 L_ws), (aL_roles, eI cI 16 L_roles), (aL_mates, eI cI 16 L_mates)] H := hP
    have hD : va_D A [(aL, .inr (1, [.ref aL_kinds, .ref aL_vs, .ref aL_ws, .ref aL_roles, .ref aL_mates, .int L_many])), (aL_kinds, eI cI 16 (upd L_kinds (L_many).toNatClampNeg y1)), (aL_vs, eI cI 16 (upd L_vs (L_many).toNatClampNeg y2)), (aL_ws, eI cI 16 L_ws), (aL_roles, eI cI 16 L_roles), (aL_mates, eI cI 16 L_mates)] := hD
    refine lv_aload_n hx hb dX1_add_32 rfl (lv_at hl 0 rfl) ?_
    refine va_get (D := D) (ci := 1) (v := .ref aL_ws) (C := RX1) (T := TX1) (N := 6) hx hb hts iX1 hown hK.1 hP 0 rfl rfl 2 (by decide) k18 (fun _ h9 => h9) rfl dX1_add_33 ?_
    refine lv_aload_n hx hb dX1_add_36 rfl (lv_at hl 0 rfl) ?_
    refine va_get (D := D) (ci := 1) (v := .int L_many) (C := RX1) (T := TX1) (N := 6) hx hb hts iX1 hown hK.1 hP 0 rfl rfl 5 (by decide) k31 (fun _ h9 => h9) rfl dX1_add_37 ?_
    refine lv_iload_n hx hb dX1_add_40 rfl (lv_at hl 3 rfl) ?_
    refine ckE hf (fun h41 hf => ?_)
    refine va_iast hx hb hK.1 hP hD hS 3 0 rfl rfl (inB_in h41) dX1_add_41 (fun H locs hP hD hS => ?_)
    have hP : va_P D vwCl [(aL, .inr (1, [.ref aL_kinds, .ref aL_vs, .ref aL_ws, .ref aL_roles, .ref aL_mates, .int L_many])), (aL_kinds, eI cI 16 (upd L_kinds (L_many).toNatClampNeg y1)), (aL_vs, eI cI 16 (upd L_vs (L_many).toNatClampNeg y2)), (aL_ws, eI cI 16 (upd L_ws (L_many).toNatClampNeg y3)), (aL_roles, eI cI 16 L_roles), (aL_mates, eI cI 16 L_mates)] H := hP
    have hD : va_D A [(aL, .inr (1, [.ref aL_kinds, .ref aL_vs, .ref aL_ws, .ref aL_roles, .ref aL_mates, .int L_many])), (aL_kinds, eI cI 16 (upd L_kinds (L_many).toNatClampNeg y1)), (aL_vs, eI cI 16 (upd L_vs (L_many).toNatClampNeg y2)), (aL_ws, eI cI 16 (upd L_ws (L_many).toNatClampNeg y3)), (aL_roles, eI cI 16 L_roles), (aL_mates, eI cI 16 L_mates)] := hD
    refine lv_aload_n hx hb dX1_add_42 rfl (lv_at hl 0 rfl) ?_
    refine va_get (D := D) (ci := 1) (v := .ref aL_roles) (C := RX1) (T := TX1) (N := 6) hx hb hts iX1 hown hK.1 hP 0 rfl rfl 3 (by decide) k21 (fun _ h9 => h9) rfl dX1_add_43 ?_
    refine lv_aload_n hx hb dX1_add_46 rfl (lv_at hl 0 rfl) ?_
    refine va_get (D := D) (ci := 1) (v := .int L_many) (C := RX1) (T := TX1) (N := 6) hx hb hts iX1 hown hK.1 hP 0 rfl rfl 5 (by decide) k31 (fun _ h9 => h9) rfl dX1_add_47 ?_
    refine lv_iload hx hb dX1_add_50 (lv_at hl 4 rfl) ?_
    refine ckE hf (fun h52 hf => ?_)
    refine va_iast hx hb hK.1 hP hD hS 4 0 rfl rfl (inB_in h52) dX1_add_52 (fun H locs hP hD hS => ?_)
    have hP : va_P D vwCl [(aL, .inr (1, [.ref aL_kinds, .ref aL_vs, .ref aL_ws, .ref aL_roles, .ref aL_mates, .int L_many])), (aL_kinds, eI cI 16 (upd L_kinds (L_many).toNatClampNeg y1)), (aL_vs, eI cI 16 (upd L_vs (L_many).toNatClampNeg y2)), (aL_ws, eI cI 16 (upd L_ws (L_many).toNatClampNeg y3)), (aL_roles, eI cI 16 (upd L_roles (L_many).toNatClampNeg y4)), (aL_mates, eI cI 16 L_mates)] H := hP
    have hD : va_D A [(aL, .inr (1, [.ref aL_kinds, .ref aL_vs, .ref aL_ws, .ref aL_roles, .ref aL_mates, .int L_many])), (aL_kinds, eI cI 16 (upd L_kinds (L_many).toNatClampNeg y1)), (aL_vs, eI cI 16 (upd L_vs (L_many).toNatClampNeg y2)), (aL_ws, eI cI 16 (upd L_ws (L_many).toNatClampNeg y3)), (aL_roles, eI cI 16 (upd L_roles (L_many).toNatClampNeg y4)), (aL_mates, eI cI 16 L_mates)] := hD
    refine lv_aload_n hx hb dX1_add_53 rfl (lv_at hl 0 rfl) ?_
    refine va_get (D := D) (ci := 1) (v := .ref aL_mates) (C := RX1) (T := TX1) (N := 6) hx hb hts iX1 hown hK.1 hP 0 rfl rfl 4 (by decide) k24 (fun _ h9 => h9) rfl dX1_add_54 ?_
    refine lv_aload_n hx hb dX1_add_57 rfl (lv_at hl 0 rfl) ?_
    refine va_get (D := D) (ci := 1) (v := .int L_many) (C := RX1) (T := TX1) (N := 6) hx hb hts iX1 hown hK.1 hP 0 rfl rfl 5 (by decide) k31 (fun _ h9 => h9) rfl dX1_add_58 ?_
    refine lv_iload hx hb dX1_add_61 (lv_at hl 5 rfl) ?_
    refine ckE hf (fun h63 hf => ?_)
    refine va_iast hx hb hK.1 hP hD hS 5 0 rfl rfl (inB_in h63) dX1_add_63 (fun H locs hP hD hS => ?_)
    have hP : va_P D vwCl [(aL, .inr (1, [.ref aL_kinds, .ref aL_vs, .ref aL_ws, .ref aL_roles, .ref aL_mates, .int L_many])), (aL_kinds, eI cI 16 (upd L_kinds (L_many).toNatClampNeg y1)), (aL_vs, eI cI 16 (upd L_vs (L_many).toNatClampNeg y2)), (aL_ws, eI cI 16 (upd L_ws (L_many).toNatClampNeg y3)), (aL_roles, eI cI 16 (upd L_roles (L_many).toNatClampNeg y4)), (aL_mates, eI cI 16 (upd L_mates (L_many).toNatClampNeg y5))] H := hP
    have hD : va_D A [(aL, .inr (1, [.ref aL_kinds, .ref aL_vs, .ref aL_ws, .ref aL_roles, .ref aL_mates, .int L_many])), (aL_kinds, eI cI 16 (upd L_kinds (L_many).toNatClampNeg y1)), (aL_vs, eI cI 16 (upd L_vs (L_many).toNatClampNeg y2)), (aL_ws, eI cI 16 (upd L_ws (L_many).toNatClampNeg y3)), (aL_roles, eI cI 16 (upd L_roles (L_many).toNatClampNeg y4)), (aL_mates, eI cI 16 (upd L_mates (L_many).toNatClampNeg y5))] := hD
    refine lv_aload_n hx hb dX1_add_64 rfl (lv_at hl 0 rfl) ?_
    refine lv_iload hx hb dX1_add_65 (lv_at hl 5 rfl) ?_
    refine bnd hf (fun o67 e67 hf => ?_)
    refine rdVi (As := [.int y5]) (rest := []) ⟨hx, hb, hml, hown, hts⟩ (tX1_has l D cI cJ cG aL aL_kinds aL_vs aL_ws aL_roles aL_mates H y5 L_many o67 e67) (cwV 1 hts gX1_add_X1_has rfl rfl rfl (by decide +kernel) ⟨Nat.le_of_ble_eq_true rfl, Nat.le_of_ble_eq_true rfl⟩) (va_recv (ci := 1) (q0 := 0) hK.1 hP rfl rfl) hK (hP.sub (ws' := [(aL, .inr (1, [.ref aL_kinds, .ref aL_vs, .ref aL_ws, .ref aL_roles, .ref aL_mates, .int L_many]))]) [0] rfl) rfl hl.1 rfl (lv_room (Nat.le_of_ble_eq_true rfl)) dX1_add_67 ⟨Nat.le_of_ble_eq_true rfl, Nat.le_of_ble_eq_true rfl⟩ hS (fun locs hS => ?_)
    refine lv_if_eq (tgt := 84) hx hb dX1_add_70 (by decide) (fun c70 => ?_) (fun c70 => ?_)
    · have hf := ifp hf c70
      refine lv_aload_n hx hb dX1_add_84 rfl (lv_at hl 0 rfl) ?_
      refine lv_dup hx hb dX1_add_85 rfl ?_
      refine va_get (D := D) (ci := 1) (v := .int L_many) (C := RX1) (T := TX1) (N := 6) hx hb hts iX1 hown hK.1 hP 0 rfl rfl 5 (by decide) k31 (fun _ h9 => h9) rfl dX1_add_86 ?_
      refine lv_dup_x1 hx hb dX1_add_89 rfl rfl ?_
      refine lv_iconst (v := (1 : Int32)) hx hb dX1_add_90 (by decide) ?_
      refine lv_iadd hx hb dX1_add_91 ?_
      refine va_put (D := D) (ci := 1) (v := .int (L_many + (1 : Int32))) (ty := .int) (C := RX1) (T := TX1) (N := 6) hx hb hts iX1 tyX1 tyX1_ok nmX1 hown hK.1 hP hD hS 0 rfl rfl 5 (by decide) k31 (fun _ h9 => h9) rfl (by decide +kernel) rfl rfl (Nat.le_of_ble_eq_true rfl) dX1_add_92 (fun H locs hP hD hS => ?_)
      have hP : va_P D vwCl [(aL, .inr (1, [.ref aL_kinds, .ref aL_vs, .ref aL_ws, .ref aL_roles, .ref aL_mates, .int (L_many + (1 : Int32))])), (aL_kinds, eI cI 16 (upd L_kinds (L_many).toNatClampNeg y1)), (aL_vs, eI cI 16 (upd L_vs (L_many).toNatClampNeg y2)), (aL_ws, eI cI 16 (upd L_ws (L_many).toNatClampNeg y3)), (aL_roles, eI cI 16 (upd L_roles (L_many).toNatClampNeg y4)), (aL_mates, eI cI 16 (upd L_mates (L_many).toNatClampNeg y5))] H := hP
      have hD : va_D A [(aL, .inr (1, [.ref aL_kinds, .ref aL_vs, .ref aL_ws, .ref aL_roles, .ref aL_mates, .int (L_many + (1 : Int32))])), (aL_kinds, eI cI 16 (upd L_kinds (L_many).toNatClampNeg y1)), (aL_vs, eI cI 16 (upd L_vs (L_many).toNatClampNeg y2)), (aL_ws, eI cI 16 (upd L_ws (L_many).toNatClampNeg y3)), (aL_roles, eI cI 16 (upd L_roles (L_many).toNatClampNeg y4)), (aL_mates, eI cI 16 (upd L_mates (L_many).toNatClampNeg y5))] := hD
      rw [hQQ]
      exact W.iret (v := L_many) hx hb hr (fun t ht hW => by rw [← Option.some.inj hf]; rw [← hAe] at hD hS; exact ⟨⟨L_many, (), rfl, rfl, by rw [ht]; exact hP, hD⟩, hS.F ht⟩) hS.2.2 dX1_add_95
    · have hf := ifn hf c70
      refine lv_aload_n hx hb dX1_add_73 rfl (lv_at hl 0 rfl) ?_
      refine va_get (D := D) (ci := 1) (v := .ref aL_mates) (C := RX1) (T := TX1) (N := 6) hx hb hts iX1 hown hK.1 hP 0 rfl rfl 4 (by decide) k24 (fun _ h9 => h9) rfl dX1_add_74 ?_
      refine lv_iload hx hb dX1_add_77 (lv_at hl 5 rfl) ?_
      refine lv_aload_n hx hb dX1_add_79 rfl (lv_at hl 0 rfl) ?_
      refine va_get (D := D) (ci := 1) (v := .int L_many) (C := RX1) (T := TX1) (N := 6) hx hb hts iX1 hown hK.1 hP 0 rfl rfl 5 (by decide) k31 (fun _ h9 => h9) rfl dX1_add_80 ?_
      refine ckE hf (fun h83 hf => ?_)
      refine va_iast hx hb hK.1 hP hD hS 5 0 rfl rfl (inB_in h83) dX1_add_83 (fun H locs hP hD hS => ?_)
      have hP : va_P D vwCl [(aL, .inr (1, [.ref aL_kinds, .ref aL_vs, .ref aL_ws, .ref aL_roles, .ref aL_mates, .int L_many])), (aL_kinds, eI cI 16 (upd L_kinds (L_many).toNatClampNeg y1)), (aL_vs, eI cI 16 (upd L_vs (L_many).toNatClampNeg y2)), (aL_ws, eI cI 16 (upd L_ws (L_many).toNatClampNeg y3)), (aL_roles, eI cI 16 (upd L_roles (L_many).toNatClampNeg y4)), (aL_mates, eI cI 16 (upd (upd L_mates (L_many).toNatClampNeg y5) (y5).toNatClampNeg L_many))] H := hP
      have hD : va_D A [(aL, .inr (1, [.ref aL_kinds, .ref aL_vs, .ref aL_ws, .ref aL_roles, .ref aL_mates, .int L_many])), (aL_kinds, eI cI 16 (upd L_kinds (L_many).toNatClampNeg y1)), (aL_vs, eI cI 16 (upd L_vs (L_many).toNatClampNeg y2)), (aL_ws, eI cI 16 (upd L_ws (L_many).toNatClampNeg y3)), (aL_roles, eI cI 16 (upd L_roles (L_many).toNatClampNeg y4)), (aL_mates, eI cI 16 (upd (upd L_mates (L_many).toNatClampNeg y5) (y5).toNatClampNeg L_many))] := hD
      refine lv_aload_n hx hb dX1_add_84 rfl (lv_at hl 0 rfl) ?_
      refine lv_dup hx hb dX1_add_85 rfl ?_
      refine va_get (D := D) (ci := 1) (v := .int L_many) (C := RX1) (T := TX1) (N := 6) hx hb hts iX1 hown hK.1 hP 0 rfl rfl 5 (by decide) k31 (fun _ h9 => h9) rfl dX1_add_86 ?_
      refine lv_dup_x1 hx hb dX1_add_89 rfl rfl ?_
      refine lv_iconst (v := (1 : Int32)) hx hb dX1_add_90 (by decide) ?_
      refine lv_iadd hx hb dX1_add_91 ?_
      refine va_put (D := D) (ci := 1) (v := .int (L_many + (1 : Int32))) (ty := .int) (C := RX1) (T := TX1) (N := 6) hx hb hts iX1 tyX1 tyX1_ok nmX1 hown hK.1 hP hD hS 0 rfl rfl 5 (by decide) k31 (fun _ h9 => h9) rfl (by decide +kernel) rfl rfl (Nat.le_of_ble_eq_true rfl) dX1_add_92 (fun H locs hP hD hS => ?_)
      have hP : va_P D vwCl [(aL, .inr (1, [.ref aL_kinds, .ref aL_vs, .ref aL_ws, .ref aL_roles, .ref aL_mates, .int (L_many + (1 : Int32))])), (aL_kinds, eI cI 16 (upd L_kinds (L_many).toNatClampNeg y1)), (aL_vs, eI cI 16 (upd L_vs (L_many).toNatClampNeg y2)), (aL_ws, eI cI 16 (upd L_ws (L_many).toNatClampNeg y3)), (aL_roles, eI cI 16 (upd L_roles (L_many).toNatClampNeg y4)), (aL_mates, eI cI 16 (upd (upd L_mates (L_many).toNatClampNeg y5) (y5).toNatClampNeg L_many))] H := hP
      have hD : va_D A [(aL, .inr (1, [.ref aL_kinds, .ref aL_vs, .ref aL_ws, .ref aL_roles, .ref aL_mates, .int (L_many + (1 : Int32))])), (aL_kinds, eI cI 16 (upd L_kinds (L_many).toNatClampNeg y1)), (aL_vs, eI cI 16 (upd L_vs (L_many).toNatClampNeg y2)), (aL_ws, eI cI 16 (upd L_ws (L_many).toNatClampNeg y3)), (aL_roles, eI cI 16 (upd L_roles (L_many).toNatClampNeg y4)), (aL_mates, eI cI 16 (upd (upd L_mates (L_many).toNatClampNeg y5) (y5).toNatClampNeg L_many))] := hD
      rw [hQQ]
      exact W.iret (v := L_many) hx hb hr (fun t ht hW => by rw [← Option.some.inj hf]; rw [← hAe] at hD hS; exact ⟨⟨L_many, (), rfl, rfl, by rw [ht]; exact hP, hD⟩, hS.F ht⟩) hS.2.2 dX1_add_95
  · have hf := ifn hf c6
    refine lv_bipush (v := (-104 : Int32)) hx hb dX1_add_9 (by decide) ?_
    rw [hQQ]
    exact W.iret (v := (-104 : Int32)) hx hb hr (fun t ht hW => by rw [← Option.some.inj hf]; rw [← hAe] at hD hS; exact ⟨⟨(-104 : Int32), (), rfl, rfl, by rw [ht]; exact hP, hD⟩, hS.F ht⟩) hS.2.2 dX1_add_11

set_option maxHeartbeats 4000000 in
set_option maxRecDepth 100000 in
theorem tX1_forget (l : Launch) (D : va_G) (cI cJ cG : ClassId) (aL aL_kinds aL_vs aL_ws aL_roles aL_mates : Nat) (sz : Nat)  (L_many : Int32) (out : Int32) (hf : fX1_forget L_many = some out) : Met l yX1_forget wsX1_forget ({ frames := 0, cells := 0, slots := 0, locals := 0 }) (va_Pc [.ref aL] (wP D (tyL cI cJ cG) [(aL, .inr (1, [.ref aL_kinds, .ref aL_vs, .ref aL_ws, .ref aL_roles, .ref aL_mates, .int L_many]))] sz)) (wQv D  [(aL, .inr (1, [.ref aL_kinds, .ref aL_vs, .ref aL_ws, .ref aL_roles, .ref aL_mates, .int L_many]))] [(aL, .inr (1, [.ref aL_kinds, .ref aL_vs, .ref aL_ws, .ref aL_roles, .ref aL_mates, .int out]))] sz) 0 0 (va_A [(aL, .inr (1, [.ref aL_kinds, .ref aL_vs, .ref aL_ws, .ref aL_roles, .ref aL_mates, .int L_many]))] sz) := by
  refine Met.ofW (cc := cX1_forget) (maxL := 1) (ret := none) (by decide) rfl ?_
  intro p e s m args below meth c s₁ B hml hv
  obtain ⟨rfl, hsz, hP, hK, hD0⟩ := hv
  have hx := B.exec
  have hb := B.bytes
  have hr := B.returns
  have hts := atoms_spec (ws := wsX1_forget) B.pre
  have hown : s.vm.findClass RX1 = some m.cls := findClass_of_methodNamed B.named
  have hlocks := B.notSynchronized
  have iX1 : ∀ w ∈ wsX10, w ∈ wsX1_forget := by decide +kernel
  have k31 := hts (.fieldLink RX1 31 "BlockMarker$Lines" "many" "I") (by decide +kernel)
  subst hsz
  have hD := hD0.self (sz := s.heap.size)
  generalize hAe : va_A [(aL, .inr (1, [.ref aL_kinds, .ref aL_vs, .ref aL_ws, .ref aL_roles, .ref aL_mates, .int L_many]))] s.heap.size = A at hD ⊢
  have hA : ∀ q : Nat, s.heap.size ≤ q → A q := fun q h => by rw [← hAe]; exact Or.inr h
  have hS : va_S A s.heap s.heap [] := va_S.rf
  have hl := lv_entry ([.ref aL]) (n := 1) (Nat.le_of_ble_eq_true rfl)
  rw [lg_entry_eq]
  generalize (lg_sl ([.ref aL]) ++ List.replicate (1 - (lg_sl ([.ref aL])).length) Slot.unset).toArray = ls at hl ⊢
  have hl : lv_has ls 1 [(0, .ref aL)] := hl
  generalize hQQ : MQ below _ _ s 0 0 _ = QQ
  replace hQQ := hQQ.symm
  generalize hHH : s.heap = H at hP ⊢
  have hS : va_S A s.heap H [] := by rw [← hHH]; exact va_S.rf
  generalize ([] : List Loc) = locs at hS ⊢
  unfold fX1_forget at hf
  refine lv_aload_n hx hb dX1_forget_0 rfl (lv_at hl 0 rfl) ?_
  refine lv_iconst (v := (0 : Int32)) hx hb dX1_forget_1 (by decide) ?_
  refine va_put (D := D) (ci := 1) (v := .int (0 : Int32)) (ty := .int) (C := RX1) (T := TX1) (N := 6) hx hb hts iX1 tyX1 tyX1_ok nmX1 hown hK.1 hP hD hS 0 rfl rfl 5 (by decide) k31 (fun _ h9 => h9) rfl (by decide +kernel) rfl rfl (Nat.le_of_ble_eq_true rfl) dX1_forget_2 (fun H locs hP hD hS => ?_)
  have hP : va_P D vwCl [(aL, .inr (1, [.ref aL_kinds, .ref aL_vs, .ref aL_ws, .ref aL_roles, .ref aL_mates, .int (0 : Int32)]))] H := hP
  have hD : va_D A [(aL, .inr (1, [.ref aL_kinds, .ref aL_vs, .ref aL_ws, .ref aL_roles, .ref aL_mates, .int (0 : Int32)]))] := hD
  rw [hQQ]
  exact W.vret hx hb hr (fun t ht hW => by rw [← Option.some.inj hf]; rw [← hAe] at hD hS; exact ⟨⟨(), rfl, trivial, by rw [ht]; exact hP, hD⟩, hS.F ht⟩) hS.2.2 dX1_forget_5

set_option maxHeartbeats 4000000 in
set_option maxRecDepth 100000 in
theorem tX1_kindOf (l : Launch) (D : va_G) (cI cJ cG : ClassId) (aL aL_kinds aL_vs aL_ws aL_roles aL_mates : Nat) (Hs : Heap) (y1 : Int32) (L_many : Int32) (L_kinds : (Nat → Int32)) (out : Int32) (hf : fX1_kindOf y1 L_many L_kinds = some out) : Met l yX1_kindOf wsX1_kindOf ({ frames := 1, cells := 0, slots := 0, locals := 21 }) (va_Pc [.ref aL, .int y1] (rP D (tyL cI cJ cG) [(aL, .inr (1, [.ref aL_kinds, .ref aL_vs, .ref aL_ws, .ref aL_roles, .ref aL_mates, .int L_many])), (aL_kinds, eI cI 16 L_kinds)] Hs)) (rQi out Hs) 0 0 (fun _ => False) := by
  refine Met.ofW (cc := cX1_kindOf) (maxL := 2) (ret := (some .int)) (by decide) rfl ?_
  intro p e s m args below meth c s₁ B hml hv
  obtain ⟨rfl, rfl, hP, hK⟩ := hv
  have hx := B.exec
  have hb := B.bytes
  have hr := B.returns
  have hts := atoms_spec (ws := wsX1_kindOf) B.pre
  have hown : s.vm.findClass RX1 = some m.cls := findClass_of_methodNamed B.named
  have hlocks := B.notSynchronized
  have iX1 : ∀ w ∈ wsX10, w ∈ wsX1_kindOf := by decide +kernel
  have k9 := hts (.fieldLink RX1 9 "BlockMarker$Lines" "kinds" "[I") (by decide +kernel)
  have hS : va_S (fun _ => False) s.heap s.heap [] := va_S.rf
  have hl := lv_entry ([.ref aL, .int y1]) (n := 2) (Nat.le_of_ble_eq_true rfl)
  rw [lg_entry_eq]
  generalize (lg_sl ([.ref aL, .int y1]) ++ List.replicate (2 - (lg_sl ([.ref aL, .int y1])).length) Slot.unset).toArray = ls at hl ⊢
  have hl : lv_has ls 2 [(0, .ref aL), (1, .int y1)] := hl
  generalize hQQ : MQ below _ _ s 0 0 _ = QQ
  replace hQQ := hQQ.symm
  unfold fX1_kindOf at hf
  refine lv_aload_n hx hb dX1_kindOf_0 rfl (lv_at hl 0 rfl) ?_
  refine lv_iload_n hx hb dX1_kindOf_1 rfl (lv_at hl 1 rfl) ?_
  refine bnd hf (fun o2 e2 hf => ?_)
  refine rdVi (As := [.int y1]) (rest := []) ⟨hx, hb, hml, hown, hts⟩ (tX1_has l D cI cJ cG aL aL_kinds aL_vs aL_ws aL_roles aL_mates s.heap y1 L_many o2 e2) (cwV 1 hts gX1_kindOf_X1_has rfl rfl rfl (by decide +kernel) ⟨Nat.le_of_ble_eq_true rfl, Nat.le_of_ble_eq_true rfl⟩) (va_recv (ci := 1) (q0 := 0) hK.1 hP rfl rfl) hK (hP.sub (ws' := [(aL, .inr (1, [.ref aL_kinds, .ref aL_vs, .ref aL_ws, .ref aL_roles, .ref aL_mates, .int L_many]))]) [0] rfl) rfl hl.1 rfl (lv_room (Nat.le_of_ble_eq_true rfl)) dX1_kindOf_2 ⟨Nat.le_of_ble_eq_true rfl, Nat.le_of_ble_eq_true rfl⟩ hS (fun locs hS => ?_)
  refine lv_if_eq (tgt := 17) hx hb dX1_kindOf_5 (by decide) (fun c5 => ?_) (fun c5 => ?_)
  · have hf := ifp hf c5
    refine lv_iconst (v := (5 : Int32)) hx hb dX1_kindOf_17 (by decide) ?_
    rw [hQQ]
    exact W.iret (v := (5 : Int32)) hx hb hr (fun t ht hW => ⟨⟨(5 : Int32), (), rfl, Option.some.inj hf, ht⟩, rF ht⟩) hS.2.2 dX1_kindOf_18
  · have hf := ifn hf c5
    refine lv_aload_n hx hb dX1_kindOf_8 rfl (lv_at hl 0 rfl) ?_
    refine va_get (D := D) (ci := 1) (v := .ref aL_kinds) (C := RX1) (T := TX1) (N := 6) hx hb hts iX1 hown hK.1 hP 0 rfl rfl 0 (by decide) k9 (fun _ h9 => h9) rfl dX1_kindOf_9 ?_
    refine lv_iload_n hx hb dX1_kindOf_12 rfl (lv_at hl 1 rfl) ?_
    refine ckE hf (fun h13 hf => ?_)
    refine va_iald hx hb hK.1 hP 1 0 rfl rfl (inB_in h13) dX1_kindOf_13 ?_
    refine lv_goto (tgt := 18) hx hb dX1_kindOf_14 (by decide) ?_
    rw [hQQ]
    exact W.iret (v := (L_kinds (y1).toNatClampNeg)) hx hb hr (fun t ht hW => ⟨⟨(L_kinds (y1).toNatClampNeg), (), rfl, Option.some.inj hf, ht⟩, rF ht⟩) hS.2.2 dX1_kindOf_18

set_option maxHeartbeats 4000000 in
set_option maxRecDepth 100000 in
theorem tX1_roleOf (l : Launch) (D : va_G) (cI cJ cG : ClassId) (aL aL_kinds aL_vs aL_ws aL_roles aL_mates : Nat) (Hs : Heap) (y1 : Int32) (L_many : Int32) (L_roles : (Nat → Int32)) (out : Int32) (hf : fX1_roleOf y1 L_many L_roles = some out) : Met l yX1_roleOf wsX1_roleOf ({ frames := 1, cells := 0, slots := 0, locals := 21 }) (va_Pc [.ref aL, .int y1] (rP D (tyL cI cJ cG) [(aL, .inr (1, [.ref aL_kinds, .ref aL_vs, .ref aL_ws, .ref aL_roles, .ref aL_mates, .int L_many])), (aL_roles, eI cI 16 L_roles)] Hs)) (rQi out Hs) 0 0 (fun _ => False) := by
  refine Met.ofW (cc := cX1_roleOf) (maxL := 2) (ret := (some .int)) (by decide) rfl ?_
  intro p e s m args below meth c s₁ B hml hv
  obtain ⟨rfl, rfl, hP, hK⟩ := hv
  have hx := B.exec
  have hb := B.bytes
  have hr := B.returns
  have hts := atoms_spec (ws := wsX1_roleOf) B.pre
  have hown : s.vm.findClass RX1 = some m.cls := findClass_of_methodNamed B.named
  have hlocks := B.notSynchronized
  have iX1 : ∀ w ∈ wsX10, w ∈ wsX1_roleOf := by decide +kernel
  have k21 := hts (.fieldLink RX1 21 "BlockMarker$Lines" "roles" "[I") (by decide +kernel)
  have hS : va_S (fun _ => False) s.heap s.heap [] := va_S.rf
  have hl := lv_entry ([.ref aL, .int y1]) (n := 2) (Nat.le_of_ble_eq_true rfl)
  rw [lg_entry_eq]
  generalize (lg_sl ([.ref aL, .int y1]) ++ List.replicate (2 - (lg_sl ([.ref aL, .int y1])).length) Slot.unset).toArray = ls at hl ⊢
  have hl : lv_has ls 2 [(0, .ref aL), (1, .int y1)] := hl
  generalize hQQ : MQ below _ _ s 0 0 _ = QQ
  replace hQQ := hQQ.symm
  unfold fX1_roleOf at hf
  refine lv_aload_n hx hb dX1_roleOf_0 rfl (lv_at hl 0 rfl) ?_
  refine lv_iload_n hx hb dX1_roleOf_1 rfl (lv_at hl 1 rfl) ?_
  refine bnd hf (fun o2 e2 hf => ?_)
  refine rdVi (As := [.int y1]) (rest := []) ⟨hx, hb, hml, hown, hts⟩ (tX1_has l D cI cJ cG aL aL_kinds aL_vs aL_ws aL_roles aL_mates s.heap y1 L_many o2 e2) (cwV 1 hts gX1_roleOf_X1_has rfl rfl rfl (by decide +kernel) ⟨Nat.le_of_ble_eq_true rfl, Nat.le_of_ble_eq_true rfl⟩) (va_recv (ci := 1) (q0 := 0) hK.1 hP rfl rfl) hK (hP.sub (ws' := [(aL, .inr (1, [.ref aL_kinds, .ref aL_vs, .ref aL_ws, .ref aL_roles, .ref aL_mates, .int L_many]))]) [0] rfl) rfl hl.1 rfl (lv_room (Nat.le_of_ble_eq_true rfl)) dX1_roleOf_2 ⟨Nat.le_of_ble_eq_true rfl, Nat.le_of_ble_eq_true rfl⟩ hS (fun locs hS => ?_)
  refine lv_if_eq (tgt := 17) hx hb dX1_roleOf_5 (by decide) (fun c5 => ?_) (fun c5 => ?_)
  · have hf := ifp hf c5
    refine lv_iconst (v := (-1 : Int32)) hx hb dX1_roleOf_17 (by decide) ?_
    rw [hQQ]
    exact W.iret (v := (-1 : Int32)) hx hb hr (fun t ht hW => ⟨⟨(-1 : Int32), (), rfl, Option.some.inj hf, ht⟩, rF ht⟩) hS.2.2 dX1_roleOf_18
  · have hf := ifn hf c5
    refine lv_aload_n hx hb dX1_roleOf_8 rfl (lv_at hl 0 rfl) ?_
    refine va_get (D := D) (ci := 1) (v := .ref aL_roles) (C := RX1) (T := TX1) (N := 6) hx hb hts iX1 hown hK.1 hP 0 rfl rfl 3 (by decide) k21 (fun _ h9 => h9) rfl dX1_roleOf_9 ?_
    refine lv_iload_n hx hb dX1_roleOf_12 rfl (lv_at hl 1 rfl) ?_
    refine ckE hf (fun h13 hf => ?_)
    refine va_iald hx hb hK.1 hP 1 0 rfl rfl (inB_in h13) dX1_roleOf_13 ?_
    refine lv_goto (tgt := 18) hx hb dX1_roleOf_14 (by decide) ?_
    rw [hQQ]
    exact W.iret (v := (L_roles (y1).toNatClampNeg)) hx hb hr (fun t ht hW => ⟨⟨(L_roles (y1).toNatClampNeg), (), rfl, Option.some.inj hf, ht⟩, rF ht⟩) hS.2.2 dX1_roleOf_18

set_option maxHeartbeats 4000000 in
set_option maxRecDepth 100000 in
theorem tX1_mateOf (l : Launch) (D : va_G) (cI cJ cG : ClassId) (aL aL_kinds aL_vs aL_ws aL_roles aL_mates : Nat) (Hs : Heap) (y1 : Int32) (L_many : Int32) (L_mates : (Nat → Int32)) (out : Int32) (hf : fX1_mateOf y1 L_many L_mates = some out) : Met l yX1_mateOf wsX1_mateOf ({ frames := 1, cells := 0, slots := 0, locals := 21 }) (va_Pc [.ref aL, .int y1] (rP D (tyL cI cJ cG) [(aL, .inr (1, [.ref aL_kinds, .ref aL_vs, .ref aL_ws, .ref aL_roles, .ref aL_mates, .int L_many])), (aL_mates, eI cI 16 L_mates)] Hs)) (rQi out Hs) 0 0 (fun _ => False) := by
  refine Met.ofW (cc := cX1_mateOf) (maxL := 2) (ret := (some .int)) (by decide) rfl ?_
  intro p e s m args below meth c s₁ B hml hv
  obtain ⟨rfl, rfl, hP, hK⟩ := hv
  have hx := B.exec
  have hb := B.bytes
  have hr := B.returns
  have hts := atoms_spec (ws := wsX1_mateOf) B.pre
  have hown : s.vm.findClass RX1 = some m.cls := findClass_of_methodNamed B.named
  have hlocks := B.notSynchronized
  have iX1 : ∀ w ∈ wsX10, w ∈ wsX1_mateOf := by decide +kernel
  have k24 := hts (.fieldLink RX1 24 "BlockMarker$Lines" "mates" "[I") (by decide +kernel)
  have hS : va_S (fun _ => False) s.heap s.heap [] := va_S.rf
  have hl := lv_entry ([.ref aL, .int y1]) (n := 2) (Nat.le_of_ble_eq_true rfl)
  rw [lg_entry_eq]
  generalize (lg_sl ([.ref aL, .int y1]) ++ List.replicate (2 - (lg_sl ([.ref aL, .int y1])).length) Slot.unset).toArray = ls at hl ⊢
  have hl : lv_has ls 2 [(0, .ref aL), (1, .int y1)] := hl
  generalize hQQ : MQ below _ _ s 0 0 _ = QQ
  replace hQQ := hQQ.symm
  unfold fX1_mateOf at hf
  refine lv_aload_n hx hb dX1_mateOf_0 rfl (lv_at hl 0 rfl) ?_
  refine lv_iload_n hx hb dX1_mateOf_1 rfl (lv_at hl 1 rfl) ?_
  refine bnd hf (fun o2 e2 hf => ?_)
  refine rdVi (As := [.int y1]) (rest := []) ⟨hx, hb, hml, hown, hts⟩ (tX1_has l D cI cJ cG aL aL_kinds aL_vs aL_ws aL_roles aL_mates s.heap y1 L_many o2 e2) (cwV 1 hts gX1_mateOf_X1_has rfl rfl rfl (by decide +kernel) ⟨Nat.le_of_ble_eq_true rfl, Nat.le_of_ble_eq_true rfl⟩) (va_recv (ci := 1) (q0 := 0) hK.1 hP rfl rfl) hK (hP.sub (ws' := [(aL, .inr (1, [.ref aL_kinds, .ref aL_vs, .ref aL_ws, .ref aL_roles, .ref aL_mates, .int L_many]))]) [0] rfl) rfl hl.1 rfl (lv_room (Nat.le_of_ble_eq_true rfl)) dX1_mateOf_2 ⟨Nat.le_of_ble_eq_true rfl, Nat.le_of_ble_eq_true rfl⟩ hS (fun locs hS => ?_)
  refine lv_if_eq (tgt := 17) hx hb dX1_mateOf_5 (by decide) (fun c5 => ?_) (fun c5 => ?_)
  · have hf := ifp hf c5
    refine lv_iconst (v := (-1 : Int32)) hx hb dX1_mateOf_17 (by decide) ?_
    rw [hQQ]
    exact W.iret (v := (-1 : Int32)) hx hb hr (fun t ht hW => ⟨⟨(-1 : Int32), (), rfl, Option.some.inj hf, ht⟩, rF ht⟩) hS.2.2 dX1_mateOf_18
  · have hf := ifn hf c5
    refine lv_aload_n hx hb dX1_mateOf_8 rfl (lv_at hl 0 rfl) ?_
    refine va_get (D := D) (ci := 1) (v := .ref aL_mates) (C := RX1) (T := TX1) (N := 6) hx hb hts iX1 hown hK.1 hP 0 rfl rfl 4 (by decide) k24 (fun _ h9 => h9) rfl dX1_mateOf_9 ?_
    refine lv_iload_n hx hb dX1_mateOf_12 rfl (lv_at hl 1 rfl) ?_
    refine ckE hf (fun h13 hf => ?_)
    refine va_iald hx hb hK.1 hP 1 0 rfl rfl (inB_in h13) dX1_mateOf_13 ?_
    refine lv_goto (tgt := 18) hx hb dX1_mateOf_14 (by decide) ?_
    rw [hQQ]
    exact W.iret (v := (L_mates (y1).toNatClampNeg)) hx hb hr (fun t ht hW => ⟨⟨(L_mates (y1).toNatClampNeg), (), rfl, Option.some.inj hf, ht⟩, rF ht⟩) hS.2.2 dX1_mateOf_18

set_option maxHeartbeats 4000000 in
set_option maxRecDepth 100000 in
theorem tX1_tell (l : Launch) (D : va_G) (cI cJ cG : ClassId) (aL aL_kinds aL_vs aL_ws aL_roles aL_mates : Nat) (Hs : Heap) (y1 : Int32) (y2 : Int32) (L_many : Int32) (L_kinds : (Nat → Int32)) (L_vs : (Nat → Int32)) (L_ws : (Nat → Int32)) (L_roles : (Nat → Int32)) (L_mates : (Nat → Int32)) (out : Int32) (hf : fX1_tell y1 y2 L_many L_kinds L_vs L_ws L_roles L_mates = some out) : Met l yX1_tell wsX1_tell ({ frames := 1, cells := 0, slots := 0, locals := 21 }) (va_Pc [.ref aL, .int y1, .int y2] (rP D (tyL cI cJ cG) [(aL, .inr (1, [.ref aL_kinds, .ref aL_vs, .ref aL_ws, .ref aL_roles, .ref aL_mates, .int L_many])), (aL_kinds, eI cI 16 L_kinds), (aL_vs, eI cI 16 L_vs), (aL_ws, eI cI 16 L_ws), (aL_roles, eI cI 16 L_roles), (aL_mates, eI cI 16 L_mates)] Hs)) (rQi out Hs) 0 0 (fun _ => False) := by
  refine Met.ofW (cc := cX1_tell) (maxL := 3) (ret := (some .int)) (by decide) rfl ?_
  intro p e s m args below meth c s₁ B hml hv
  obtain ⟨rfl, rfl, hP, hK⟩ := hv
  have hx := B.exec
  have hb := B.bytes
  have hr := B.returns
  have hts := atoms_spec (ws := wsX1_tell) B.pre
  have hown : s.vm.findClass RX1 = some m.cls := findClass_of_methodNamed B.named
  have hlocks := B.notSynchronized
  have iX1 : ∀ w ∈ wsX10, w ∈ wsX1_tell := by decide +kernel
  have k9 := hts (.fieldLink RX1 9 "BlockMarker$Lines" "kinds" "[I") (by decide +kernel)
  have k15 := hts (.fieldLink RX1 15 "BlockMarker$Lines" "vs" "[I") (by decide +kernel)
  have k18 := hts (.fieldLink RX1 18 "BlockMarker$Lines" "ws" "[I") (by decide +kernel)
  have k21 := hts (.fieldLink RX1 21 "BlockMarker$Lines" "roles" "[I") (by decide +kernel)
  have k24 := hts (.fieldLink RX1 24 "BlockMarker$Lines" "mates" "[I") (by decide +kernel)
  have hS : va_S (fun _ => False) s.heap s.heap [] := va_S.rf
  have hl := lv_entry ([.ref aL, .int y1, .int y2]) (n := 3) (Nat.le_of_ble_eq_true rfl)
  rw [lg_entry_eq]
  generalize (lg_sl ([.ref aL, .int y1, .int y2]) ++ List.replicate (3 - (lg_sl ([.ref aL, .int y1, .int y2])).length) Slot.unset).toArray = ls at hl ⊢
  have hl : lv_has ls 3 [(0, .ref aL), (1, .int y1), (2, .int y2)] := hl
  generalize hQQ : MQ below _ _ s 0 0 _ = QQ
  replace hQQ := hQQ.symm
  unfold fX1_tell at hf
  refine lv_aload_n hx hb dX1_tell_0 rfl (lv_at hl 0 rfl) ?_
  refine lv_iload_n hx hb dX1_tell_1 rfl (lv_at hl 1 rfl) ?_
  refine bnd hf (fun o2 e2 hf => ?_)
  refine rdVi (As := [.int y1]) (rest := []) ⟨hx, hb, hml, hown, hts⟩ (tX1_has l D cI cJ cG aL aL_kinds aL_vs aL_ws aL_roles aL_mates s.heap y1 L_many o2 e2) (cwV 1 hts gX1_tell_X1_has rfl rfl rfl (by decide +kernel) ⟨Nat.le_of_ble_eq_true rfl, Nat.le_of_ble_eq_true rfl⟩) (va_recv (ci := 1) (q0 := 0) hK.1 hP rfl rfl) hK (hP.sub (ws' := [(aL, .inr (1, [.ref aL_kinds, .ref aL_vs, .ref aL_ws, .ref aL_roles, .ref aL_mates, .int L_many]))]) [0] rfl) rfl hl.1 rfl (lv_room (Nat.le_of_ble_eq_true rfl)) dX1_tell_2 ⟨Nat.le_of_ble_eq_true rfl, Nat.le_of_ble_eq_true rfl⟩ hS (fun locs hS => ?_)
  refine lv_if_ne (tgt := 10) hx hb dX1_tell_5 (by decide) (fun c5 => ?_) (fun c5 => ?_)
  · have hf := ifn hf c5
    refine lv_iload_n hx hb dX1_tell_10 rfl (lv_at hl 2 rfl) ?_
    by_cases c11_0 : y2 = (0 : Int32)
    · have hf := ifp hf c11_0
      refine lv_tableIn (off := 29) (tgt := 40) hx hb dX1_tell_11 (by rw [c11_0]; decide) (by rw [c11_0]; decide) (by rw [c11_0]; decide) (by decide) ?_
      refine lv_aload_n hx hb dX1_tell_40 rfl (lv_at hl 0 rfl) ?_
      refine va_get (D := D) (ci := 1) (v := .ref aL_kinds) (C := RX1) (T := TX1) (N := 6) hx hb hts iX1 hown hK.1 hP 0 rfl rfl 0 (by decide) k9 (fun _ h9 => h9) rfl dX1_tell_41 ?_
      refine lv_iload_n hx hb dX1_tell_44 rfl (lv_at hl 1 rfl) ?_
      refine ckE hf (fun h45 hf => ?_)
      refine va_iald hx hb hK.1 hP 1 0 rfl rfl (inB_in h45) dX1_tell_45 ?_
      rw [hQQ]
      exact W.iret (v := (L_kinds (y1).toNatClampNeg)) hx hb hr (fun t ht hW => ⟨⟨(L_kinds (y1).toNatClampNeg), (), rfl, Option.some.inj hf, ht⟩, rF ht⟩) hS.2.2 dX1_tell_46
    · have hf := ifn hf c11_0
      by_cases c11_1 : y2 = (1 : Int32)
      · have hf := ifp hf c11_1
        refine lv_tableIn (off := 36) (tgt := 47) hx hb dX1_tell_11 (by rw [c11_1]; decide) (by rw [c11_1]; decide) (by rw [c11_1]; decide) (by decide) ?_
        refine lv_aload_n hx hb dX1_tell_47 rfl (lv_at hl 0 rfl) ?_
        refine va_get (D := D) (ci := 1) (v := .ref aL_vs) (C := RX1) (T := TX1) (N := 6) hx hb hts iX1 hown hK.1 hP 0 rfl rfl 1 (by decide) k15 (fun _ h9 => h9) rfl dX1_tell_48 ?_
        refine lv_iload_n hx hb dX1_tell_51 rfl (lv_at hl 1 rfl) ?_
        refine ckE hf (fun h52 hf => ?_)
        refine va_iald hx hb hK.1 hP 2 0 rfl rfl (inB_in h52) dX1_tell_52 ?_
        rw [hQQ]
        exact W.iret (v := (L_vs (y1).toNatClampNeg)) hx hb hr (fun t ht hW => ⟨⟨(L_vs (y1).toNatClampNeg), (), rfl, Option.some.inj hf, ht⟩, rF ht⟩) hS.2.2 dX1_tell_53
      · have hf := ifn hf c11_1
        by_cases c11_2 : y2 = (2 : Int32)
        · have hf := ifp hf c11_2
          refine lv_tableIn (off := 43) (tgt := 54) hx hb dX1_tell_11 (by rw [c11_2]; decide) (by rw [c11_2]; decide) (by rw [c11_2]; decide) (by decide) ?_
          refine lv_aload_n hx hb dX1_tell_54 rfl (lv_at hl 0 rfl) ?_
          refine va_get (D := D) (ci := 1) (v := .ref aL_ws) (C := RX1) (T := TX1) (N := 6) hx hb hts iX1 hown hK.1 hP 0 rfl rfl 2 (by decide) k18 (fun _ h9 => h9) rfl dX1_tell_55 ?_
          refine lv_iload_n hx hb dX1_tell_58 rfl (lv_at hl 1 rfl) ?_
          refine ckE hf (fun h59 hf => ?_)
          refine va_iald hx hb hK.1 hP 3 0 rfl rfl (inB_in h59) dX1_tell_59 ?_
          rw [hQQ]
          exact W.iret (v := (L_ws (y1).toNatClampNeg)) hx hb hr (fun t ht hW => ⟨⟨(L_ws (y1).toNatClampNeg), (), rfl, Option.some.inj hf, ht⟩, rF ht⟩) hS.2.2 dX1_tell_60
        · have hf := ifn hf c11_2
          by_cases c11_3 : y2 = (3 : Int32)
          · have hf := ifp hf c11_3
            refine lv_tableIn (off := 50) (tgt := 61) hx hb dX1_tell_11 (by rw [c11_3]; decide) (by rw [c11_3]; decide) (by rw [c11_3]; decide) (by decide) ?_
            refine lv_aload_n hx hb dX1_tell_61 rfl (lv_at hl 0 rfl) ?_
            refine va_get (D := D) (ci := 1) (v := .ref aL_roles) (C := RX1) (T := TX1) (N := 6) hx hb hts iX1 hown hK.1 hP 0 rfl rfl 3 (by decide) k21 (fun _ h9 => h9) rfl dX1_tell_62 ?_
            refine lv_iload_n hx hb dX1_tell_65 rfl (lv_at hl 1 rfl) ?_
            refine ckE hf (fun h66 hf => ?_)
            refine va_iald hx hb hK.1 hP 4 0 rfl rfl (inB_in h66) dX1_tell_66 ?_
            rw [hQQ]
            exact W.iret (v := (L_roles (y1).toNatClampNeg)) hx hb hr (fun t ht hW => ⟨⟨(L_roles (y1).toNatClampNeg), (), rfl, Option.some.inj hf, ht⟩, rF ht⟩) hS.2.2 dX1_tell_67
          · have hf := ifn hf c11_3
            have u11_0 := lv_neT c11_0 (a := 0) rfl
            have u11_1 := lv_neT c11_1 (a := 1) rfl
            have u11_2 := lv_neT c11_2 (a := 2) rfl
            have u11_3 := lv_neT c11_3 (a := 3) rfl
            refine lv_tableOut (tgt := 68) hx hb dX1_tell_11 (by omega) (by decide) ?_
            refine lv_aload_n hx hb dX1_tell_68 rfl (lv_at hl 0 rfl) ?_
            refine va_get (D := D) (ci := 1) (v := .ref aL_mates) (C := RX1) (T := TX1) (N := 6) hx hb hts iX1 hown hK.1 hP 0 rfl rfl 4 (by decide) k24 (fun _ h9 => h9) rfl dX1_tell_69 ?_
            refine lv_iload_n hx hb dX1_tell_72 rfl (lv_at hl 1 rfl) ?_
            refine ckE hf (fun h73 hf => ?_)
            refine va_iald hx hb hK.1 hP 5 0 rfl rfl (inB_in h73) dX1_tell_73 ?_
            rw [hQQ]
            exact W.iret (v := (L_mates (y1).toNatClampNeg)) hx hb hr (fun t ht hW => ⟨⟨(L_mates (y1).toNatClampNeg), (), rfl, Option.some.inj hf, ht⟩, rF ht⟩) hS.2.2 dX1_tell_74
  · have hf := ifp hf c5
    refine lv_iconst (v := (-1 : Int32)) hx hb dX1_tell_8 (by decide) ?_
    rw [hQQ]
    exact W.iret (v := (-1 : Int32)) hx hb hr (fun t ht hW => ⟨⟨(-1 : Int32), (), rfl, Option.some.inj hf, ht⟩, rF ht⟩) hS.2.2 dX1_tell_9

set_option maxHeartbeats 4000000 in
set_option maxRecDepth 100000 in
theorem tX1_manyOf (l : Launch) (D : va_G) (cI cJ cG : ClassId) (aL aL_kinds aL_vs aL_ws aL_roles aL_mates : Nat) (Hs : Heap) (y1 : Int32) (L_many : Int32) (L_roles : (Nat → Int32)) (out : Int32) (hf : fX1_manyOf y1 L_many L_roles = some out) : Met l yX1_manyOf wsX1_manyOf ({ frames := 0, cells := 0, slots := 0, locals := 0 }) (va_Pc [.ref aL, .int y1] (rP D (tyL cI cJ cG) [(aL, .inr (1, [.ref aL_kinds, .ref aL_vs, .ref aL_ws, .ref aL_roles, .ref aL_mates, .int L_many])), (aL_roles, eI cI 16 L_roles)] Hs)) (rQi out Hs) 0 0 (fun _ => False) := by
  refine Met.ofW (cc := cX1_manyOf) (maxL := 4) (ret := (some .int)) (by decide) rfl ?_
  intro p e s m args below meth c s₁ B hml hv
  obtain ⟨rfl, rfl, hP, hK⟩ := hv
  have hx := B.exec
  have hb := B.bytes
  have hr := B.returns
  have hts := atoms_spec (ws := wsX1_manyOf) B.pre
  have hown : s.vm.findClass RX1 = some m.cls := findClass_of_methodNamed B.named
  have hlocks := B.notSynchronized
  have iX1 : ∀ w ∈ wsX10, w ∈ wsX1_manyOf := by decide +kernel
  have k21 := hts (.fieldLink RX1 21 "BlockMarker$Lines" "roles" "[I") (by decide +kernel)
  have k31 := hts (.fieldLink RX1 31 "BlockMarker$Lines" "many" "I") (by decide +kernel)
  have hS : va_S (fun _ => False) s.heap s.heap [] := va_S.rf
  have hl := lv_entry ([.ref aL, .int y1]) (n := 4) (Nat.le_of_ble_eq_true rfl)
  rw [lg_entry_eq]
  generalize (lg_sl ([.ref aL, .int y1]) ++ List.replicate (4 - (lg_sl ([.ref aL, .int y1])).length) Slot.unset).toArray = ls at hl ⊢
  have hl : lv_has ls 4 [(0, .ref aL), (1, .int y1)] := hl
  generalize hQQ : MQ below _ _ s 0 0 _ = QQ
  replace hQQ := hQQ.symm
  have b_4 : ∀ (n : Nat), ∀ (x1 : Int32) (x2 : Int32) (x3 : Int32), fX1_manyOf_h4  n x1 x2 x3 L_many L_roles = some out → ∀ (locs : List Loc) (ls : Array Slot), va_S (fun _ => False) s.heap s.heap locs → lv_has ls 4 [(0, .ref aL), (1, .int x1), (2, .int x2), (3, .int x3)] → W p l e (headSpec wsX1_manyOf { frames := 0, cells := 0, slots := 0, locals := 0 }).room s m ([.ref aL, .int y1] : List Value).toArray below meth c s.heap locs 0 0 QQ (F0 m 4 ls []) := by
    intro  n
    induction n with
    | zero => intro x1 x2 x3 hf; exact nomatch (show (none : Option (Int32)) = some out from hf)
    | succ n ih =>
      intro x1 x2 x3 hf locs ls hS hl
      replace hf : uX1_manyOf_h4  (fX1_manyOf_h4  n) x1 x2 x3 L_many L_roles = some out := hf
      unfold uX1_manyOf_h4 at hf
      refine lv_iload_n hx hb dX1_manyOf_4 rfl (lv_at hl 3 rfl) ?_
      refine lv_aload_n hx hb dX1_manyOf_5 rfl (lv_at hl 0 rfl) ?_
      refine va_get (D := D) (ci := 1) (v := .int L_many) (C := RX1) (T := TX1) (N := 6) hx hb hts iX1 hown hK.1 hP 0 rfl rfl 5 (by decide) k31 (fun _ h9 => h9) rfl dX1_manyOf_6 ?_
      refine lv_icmp_ge (tgt := 36) hx hb dX1_manyOf_9 (by decide) (fun c9 => ?_) (fun c9 => ?_)
      · have hf := ifp hf c9
        refine lv_iload_n hx hb dX1_manyOf_36 rfl (lv_at hl 2 rfl) ?_
        rw [hQQ]
        exact W.iret (v := x2) hx hb hr (fun t ht hW => ⟨⟨x2, (), rfl, Option.some.inj hf, ht⟩, rF ht⟩) hS.2.2 dX1_manyOf_37
      · have hf := ifn hf c9
        refine lv_iload_n hx hb dX1_manyOf_12 rfl (lv_at hl 2 rfl) ?_
        refine lv_aload_n hx hb dX1_manyOf_13 rfl (lv_at hl 0 rfl) ?_
        refine va_get (D := D) (ci := 1) (v := .ref aL_roles) (C := RX1) (T := TX1) (N := 6) hx hb hts iX1 hown hK.1 hP 0 rfl rfl 3 (by decide) k21 (fun _ h9 => h9) rfl dX1_manyOf_14 ?_
        refine lv_iload_n hx hb dX1_manyOf_17 rfl (lv_at hl 3 rfl) ?_
        refine ckE hf (fun h18 hf => ?_)
        refine va_iald hx hb hK.1 hP 1 0 rfl rfl (inB_in h18) dX1_manyOf_18 ?_
        refine lv_iload_n hx hb dX1_manyOf_19 rfl (lv_at hl 1 rfl) ?_
        refine lv_icmp_ne (tgt := 27) hx hb dX1_manyOf_20 (by decide) (fun c20 => ?_) (fun c20 => ?_)
        · have hf := ifn hf c20
          refine lv_iconst (v := (0 : Int32)) hx hb dX1_manyOf_27 (by decide) ?_
          refine lv_iadd hx hb dX1_manyOf_28 ?_
          refine lv_istore_n (lv' := [(2, .int (x2 + (0 : Int32))), (0, .ref aL), (1, .int x1), (3, .int x3)]) hx hb dX1_manyOf_29 rfl hl (by decide) rfl (fun ls hl => ?_)
          refine lv_iinc (v := (x3 + (1 : Int32))) (lv' := [(3, .int (x3 + (1 : Int32))), (2, .int (x2 + (0 : Int32))), (0, .ref aL), (1, .int x1)]) hx hb dX1_manyOf_30 hl (k := 3) rfl rfl (by decide) rfl (fun ls hl => ?_)
          refine lv_goto (tgt := 4) hx hb dX1_manyOf_33 (by decide) ?_
          exact ih x1 (x2 + (0 : Int32)) (x3 + (1 : Int32)) hf _ _ hS (lv_sub hl [2, 3, 1, 0] rfl)
        · have hf := ifp hf c20
          refine lv_iconst (v := (1 : Int32)) hx hb dX1_manyOf_23 (by decide) ?_
          refine lv_goto (tgt := 28) hx hb dX1_manyOf_24 (by decide) ?_
          refine lv_iadd hx hb dX1_manyOf_28 ?_
          refine lv_istore_n (lv' := [(2, .int (x2 + (1 : Int32))), (0, .ref aL), (1, .int x1), (3, .int x3)]) hx hb dX1_manyOf_29 rfl hl (by decide) rfl (fun ls hl => ?_)
          refine lv_iinc (v := (x3 + (1 : Int32))) (lv' := [(3, .int (x3 + (1 : Int32))), (2, .int (x2 + (1 : Int32))), (0, .ref aL), (1, .int x1)]) hx hb dX1_manyOf_30 hl (k := 3) rfl rfl (by decide) rfl (fun ls hl => ?_)
          refine lv_goto (tgt := 4) hx hb dX1_manyOf_33 (by decide) ?_
          exact ih x1 (x2 + (1 : Int32)) (x3 + (1 : Int32)) hf _ _ hS (lv_sub hl [2, 3, 1, 0] rfl)
  unfold fX1_manyOf at hf
  refine lv_iconst (v := (0 : Int32)) hx hb dX1_manyOf_0 (by decide) ?_
  refine lv_istore_n (lv' := [(2, .int (0 : Int32)), (0, .ref aL), (1, .int y1)]) hx hb dX1_manyOf_1 rfl hl (by decide) rfl (fun ls hl => ?_)
  refine lv_iconst (v := (0 : Int32)) hx hb dX1_manyOf_2 (by decide) ?_
  refine lv_istore_n (lv' := [(3, .int (0 : Int32)), (2, .int (0 : Int32)), (0, .ref aL), (1, .int y1)]) hx hb dX1_manyOf_3 rfl hl (by decide) rfl (fun ls hl => ?_)
  exact b_4 FU y1 (0 : Int32) (0 : Int32) hf _ _ hS (lv_sub hl [2, 3, 1, 0] rfl)

set_option maxHeartbeats 4000000 in
set_option maxRecDepth 100000 in
theorem tX1_writes (l : Launch) (D : va_G) (cI cJ cG : ClassId) (aL aL_kinds aL_vs aL_ws aL_roles aL_mates : Nat) (Hs : Heap) (y1 : Int32) (L_many : Int32) (L_kinds : (Nat → Int32)) (L_vs : (Nat → Int32)) (out : Int32) (hf : fX1_writes y1 L_many L_kinds L_vs = some out) : Met l yX1_writes wsX1_writes ({ frames := 2, cells := 0, slots := 0, locals := 42 }) (va_Pc [.ref aL, .int y1] (rP D (tyL cI cJ cG) [(aL, .inr (1, [.ref aL_kinds, .ref aL_vs, .ref aL_ws, .ref aL_roles, .ref aL_mates, .int L_many])), (aL_kinds, eI cI 16 L_kinds), (aL_vs, eI cI 16 L_vs)] Hs)) (rQi out Hs) 0 0 (fun _ => False) := by
  refine Met.ofW (cc := cX1_writes) (maxL := 3) (ret := (some .int)) (by decide) rfl ?_
  intro p e s m args below meth c s₁ B hml hv
  obtain ⟨rfl, rfl, hP, hK⟩ := hv
  have hx := B.exec
  have hb := B.bytes
  have hr := B.returns
  have hts := atoms_spec (ws := wsX1_writes) B.pre
  have hown : s.vm.findClass RX1 = some m.cls := findClass_of_methodNamed B.named
  have hlocks := B.notSynchronized
  have iX1 : ∀ w ∈ wsX10, w ∈ wsX1_writes := by decide +kernel
  have k15 := hts (.fieldLink RX1 15 "BlockMarker$Lines" "vs" "[I") (by decide +kernel)
  have hS : va_S (fun _ => False) s.heap s.heap [] := va_S.rf
  have hl := lv_entry ([.ref aL, .int y1]) (n := 3) (Nat.le_of_ble_eq_true rfl)
  rw [lg_entry_eq]
  generalize (lg_sl ([.ref aL, .int y1]) ++ List.replicate (3 - (lg_sl ([.ref aL, .int y1])).length) Slot.unset).toArray = ls at hl ⊢
  have hl : lv_has ls 3 [(0, .ref aL), (1, .int y1)] := hl
  generalize hQQ : MQ below _ _ s 0 0 _ = QQ
  replace hQQ := hQQ.symm
  unfold fX1_writes at hf
  refine lv_aload_n hx hb dX1_writes_0 rfl (lv_at hl 0 rfl) ?_
  refine lv_iload_n hx hb dX1_writes_1 rfl (lv_at hl 1 rfl) ?_
  refine bnd hf (fun o2 e2 hf => ?_)
  refine rdVi (As := [.int y1]) (rest := []) ⟨hx, hb, hml, hown, hts⟩ (tX1_kindOf l D cI cJ cG aL aL_kinds aL_vs aL_ws aL_roles aL_mates s.heap y1 L_many L_kinds o2 e2) (cwV 1 hts gX1_writes_X1_kindOf rfl rfl rfl (by decide +kernel) ⟨Nat.le_of_ble_eq_true rfl, Nat.le_of_ble_eq_true rfl⟩) (va_recv (ci := 1) (q0 := 0) hK.1 hP rfl rfl) hK (hP.sub (ws' := [(aL, .inr (1, [.ref aL_kinds, .ref aL_vs, .ref aL_ws, .ref aL_roles, .ref aL_mates, .int L_many])), (aL_kinds, eI cI 16 L_kinds)]) [0, 1] rfl) rfl hl.1 rfl (lv_room (Nat.le_of_ble_eq_true rfl)) dX1_writes_2 ⟨Nat.le_of_ble_eq_true rfl, Nat.le_of_ble_eq_true rfl⟩ hS (fun locs hS => ?_)
  refine lv_istore_n (lv' := [(2, .int o2), (0, .ref aL), (1, .int y1)]) hx hb dX1_writes_5 rfl hl (by decide) rfl (fun ls hl => ?_)
  refine lv_iload_n hx hb dX1_writes_6 rfl (lv_at hl 0 rfl) ?_
  refine lv_iconst (v := (4 : Int32)) hx hb dX1_writes_7 (by decide) ?_
  refine lv_icmp_eq (tgt := 16) hx hb dX1_writes_8 (by decide) (fun c8 => ?_) (fun c8 => ?_)
  · have hf := ifp hf c8
    refine lv_iconst (v := (0 : Int32)) hx hb dX1_writes_16 (by decide) ?_
    refine lv_goto (tgt := 28) hx hb dX1_writes_17 (by decide) ?_
    rw [hQQ]
    exact W.iret (v := (0 : Int32)) hx hb hr (fun t ht hW => ⟨⟨(0 : Int32), (), rfl, Option.some.inj hf, ht⟩, rF ht⟩) hS.2.2 dX1_writes_28
  · have hf := ifn hf c8
    refine lv_iload_n hx hb dX1_writes_11 rfl (lv_at hl 0 rfl) ?_
    refine lv_iconst (v := (5 : Int32)) hx hb dX1_writes_12 (by decide) ?_
    refine lv_icmp_ne (tgt := 20) hx hb dX1_writes_13 (by decide) (fun c13 => ?_) (fun c13 => ?_)
    · have hf := ifn hf c13
      refine lv_iconst (v := (1 : Int32)) hx hb dX1_writes_20 (by decide) ?_
      refine lv_aload_n hx hb dX1_writes_21 rfl (lv_at hl 1 rfl) ?_
      refine va_get (D := D) (ci := 1) (v := .ref aL_vs) (C := RX1) (T := TX1) (N := 6) hx hb hts iX1 hown hK.1 hP 0 rfl rfl 1 (by decide) k15 (fun _ h9 => h9) rfl dX1_writes_22 ?_
      refine lv_iload_n hx hb dX1_writes_25 rfl (lv_at hl 2 rfl) ?_
      refine ckE hf (fun h26 hf => ?_)
      refine va_iald hx hb hK.1 hP 2 0 rfl rfl (inB_in h26) dX1_writes_26 ?_
      refine lv_ishl hx hb dX1_writes_27 ?_
      rw [hQQ]
      exact W.iret (v := ((1 : Int32) <<< ((L_vs (y1).toNatClampNeg) &&& 31))) hx hb hr (fun t ht hW => ⟨⟨((1 : Int32) <<< ((L_vs (y1).toNatClampNeg) &&& 31)), (), rfl, Option.some.inj hf, ht⟩, rF ht⟩) hS.2.2 dX1_writes_28
    · have hf := ifp hf c13
      refine lv_iconst (v := (0 : Int32)) hx hb dX1_writes_16 (by decide) ?_
      refine lv_goto (tgt := 28) hx hb dX1_writes_17 (by decide) ?_
      rw [hQQ]
      exact W.iret (v := (0 : Int32)) hx hb hr (fun t ht hW => ⟨⟨(0 : Int32), (), rfl, Option.some.inj hf, ht⟩, rF ht⟩) hS.2.2 dX1_writes_28

set_option maxHeartbeats 4000000 in
set_option maxRecDepth 100000 in
theorem tX1_reads (l : Launch) (D : va_G) (cI cJ cG : ClassId) (aL aL_kinds aL_vs aL_ws aL_roles aL_mates : Nat) (Hs : Heap) (y1 : Int32) (L_many : Int32) (L_kinds : (Nat → Int32)) (L_vs : (Nat → Int32)) (L_ws : (Nat → Int32)) (out : Int32) (hf : fX1_reads y1 L_many L_kinds L_vs L_ws = some out) : Met l yX1_reads wsX1_reads ({ frames := 2, cells := 0, slots := 0, locals := 42 }) (va_Pc [.ref aL, .int y1] (rP D (tyL cI cJ cG) [(aL, .inr (1, [.ref aL_kinds, .ref aL_vs, .ref aL_ws, .ref aL_roles, .ref aL_mates, .int L_many])), (aL_kinds, eI cI 16 L_kinds), (aL_vs, eI cI 16 L_vs), (aL_ws, eI cI 16 L_ws)] Hs)) (rQi out Hs) 0 0 (fun _ => False) := by
  refine Met.ofW (cc := cX1_reads) (maxL := 2) (ret := (some .int)) (by decide) rfl ?_
  intro p e s m args below meth c s₁ B hml hv
  obtain ⟨rfl, rfl, hP, hK⟩ := hv
  have hx := B.exec
  have hb := B.bytes
  have hr := B.returns
  have hts := atoms_spec (ws := wsX1_reads) B.pre
  have hown : s.vm.findClass RX1 = some m.cls := findClass_of_methodNamed B.named
  have hlocks := B.notSynchronized
  have iX1 : ∀ w ∈ wsX10, w ∈ wsX1_reads := by decide +kernel
  have k15 := hts (.fieldLink RX1 15 "BlockMarker$Lines" "vs" "[I") (by decide +kernel)
  have k18 := hts (.fieldLink RX1 18 "BlockMarker$Lines" "ws" "[I") (by decide +kernel)
  have hS : va_S (fun _ => False) s.heap s.heap [] := va_S.rf
  have hl := lv_entry ([.ref aL, .int y1]) (n := 2) (Nat.le_of_ble_eq_true rfl)
  rw [lg_entry_eq]
  generalize (lg_sl ([.ref aL, .int y1]) ++ List.replicate (2 - (lg_sl ([.ref aL, .int y1])).length) Slot.unset).toArray = ls at hl ⊢
  have hl : lv_has ls 2 [(0, .ref aL), (1, .int y1)] := hl
  generalize hQQ : MQ below _ _ s 0 0 _ = QQ
  replace hQQ := hQQ.symm
  unfold fX1_reads at hf
  refine lv_aload_n hx hb dX1_reads_0 rfl (lv_at hl 0 rfl) ?_
  refine lv_iload_n hx hb dX1_reads_1 rfl (lv_at hl 1 rfl) ?_
  refine bnd hf (fun o2 e2 hf => ?_)
  refine rdVi (As := [.int y1]) (rest := []) ⟨hx, hb, hml, hown, hts⟩ (tX1_kindOf l D cI cJ cG aL aL_kinds aL_vs aL_ws aL_roles aL_mates s.heap y1 L_many L_kinds o2 e2) (cwV 1 hts gX1_reads_X1_kindOf rfl rfl rfl (by decide +kernel) ⟨Nat.le_of_ble_eq_true rfl, Nat.le_of_ble_eq_true rfl⟩) (va_recv (ci := 1) (q0 := 0) hK.1 hP rfl rfl) hK (hP.sub (ws' := [(aL, .inr (1, [.ref aL_kinds, .ref aL_vs, .ref aL_ws, .ref aL_roles, .ref aL_mates, .int L_many])), (aL_kinds, eI cI 16 L_kinds)]) [0, 1] rfl) rfl hl.1 rfl (lv_room (Nat.le_of_ble_eq_true rfl)) dX1_reads_2 ⟨Nat.le_of_ble_eq_true rfl, Nat.le_of_ble_eq_true rfl⟩ hS (fun locs hS => ?_)
  by_cases c5_1 : o2 = (1 : Int32)
  · have hf := ifp hf c5_1
    refine lv_tableIn (off := 39) (tgt := 44) hx hb dX1_reads_5 (by rw [c5_1]; decide) (by rw [c5_1]; decide) (by rw [c5_1]; decide) (by decide) ?_
    refine lv_iconst (v := (1 : Int32)) hx hb dX1_reads_44 (by decide) ?_
    refine lv_aload_n hx hb dX1_reads_45 rfl (lv_at hl 0 rfl) ?_
    refine va_get (D := D) (ci := 1) (v := .ref aL_ws) (C := RX1) (T := TX1) (N := 6) hx hb hts iX1 hown hK.1 hP 0 rfl rfl 2 (by decide) k18 (fun _ h9 => h9) rfl dX1_reads_46 ?_
    refine lv_iload_n hx hb dX1_reads_49 rfl (lv_at hl 1 rfl) ?_
    refine ckE hf (fun h50 hf => ?_)
    refine va_iald hx hb hK.1 hP 3 0 rfl rfl (inB_in h50) dX1_reads_50 ?_
    refine lv_ishl hx hb dX1_reads_51 ?_
    rw [hQQ]
    exact W.iret (v := ((1 : Int32) <<< ((L_ws (y1).toNatClampNeg) &&& 31))) hx hb hr (fun t ht hW => ⟨⟨((1 : Int32) <<< ((L_ws (y1).toNatClampNeg) &&& 31)), (), rfl, Option.some.inj hf, ht⟩, rF ht⟩) hS.2.2 dX1_reads_52
  · have hf := ifn hf c5_1
    by_cases c5_2 : o2 = (2 : Int32)
    · have hf := ifp hf c5_2
      refine lv_tableIn (off := 48) (tgt := 53) hx hb dX1_reads_5 (by rw [c5_2]; decide) (by rw [c5_2]; decide) (by rw [c5_2]; decide) (by decide) ?_
      refine lv_iconst (v := (1 : Int32)) hx hb dX1_reads_53 (by decide) ?_
      refine lv_aload_n hx hb dX1_reads_54 rfl (lv_at hl 0 rfl) ?_
      refine va_get (D := D) (ci := 1) (v := .ref aL_vs) (C := RX1) (T := TX1) (N := 6) hx hb hts iX1 hown hK.1 hP 0 rfl rfl 1 (by decide) k15 (fun _ h9 => h9) rfl dX1_reads_55 ?_
      refine lv_iload_n hx hb dX1_reads_58 rfl (lv_at hl 1 rfl) ?_
      refine ckE hf (fun h59 hf => ?_)
      refine va_iald hx hb hK.1 hP 2 0 rfl rfl (inB_in h59) dX1_reads_59 ?_
      refine lv_ishl hx hb dX1_reads_60 ?_
      refine lv_iconst (v := (1 : Int32)) hx hb dX1_reads_61 (by decide) ?_
      refine lv_aload_n hx hb dX1_reads_62 rfl (lv_at hl 0 rfl) ?_
      refine va_get (D := D) (ci := 1) (v := .ref aL_ws) (C := RX1) (T := TX1) (N := 6) hx hb hts iX1 hown hK.1 hP 0 rfl rfl 2 (by decide) k18 (fun _ h9 => h9) rfl dX1_reads_63 ?_
      refine lv_iload_n hx hb dX1_reads_66 rfl (lv_at hl 1 rfl) ?_
      refine ckE hf (fun h67 hf => ?_)
      refine va_iald hx hb hK.1 hP 3 0 rfl rfl (inB_in h67) dX1_reads_67 ?_
      refine lv_ishl hx hb dX1_reads_68 ?_
      refine lv_ior hx hb dX1_reads_69 ?_
      rw [hQQ]
      exact W.iret (v := (((1 : Int32) <<< ((L_vs (y1).toNatClampNeg) &&& 31)) ||| ((1 : Int32) <<< ((L_ws (y1).toNatClampNeg) &&& 31)))) hx hb hr (fun t ht hW => ⟨⟨(((1 : Int32) <<< ((L_vs (y1).toNatClampNeg) &&& 31)) ||| ((1 : Int32) <<< ((L_ws (y1).toNatClampNeg) &&& 31))), (), rfl, Option.some.inj hf, ht⟩, rF ht⟩) hS.2.2 dX1_reads_70
    · have hf := ifn hf c5_2
      by_cases c5_3 : o2 = (3 : Int32)
      · have hf := ifp hf c5_3
        refine lv_tableIn (off := 48) (tgt := 53) hx hb dX1_reads_5 (by rw [c5_3]; decide) (by rw [c5_3]; decide) (by rw [c5_3]; decide) (by decide) ?_
        refine lv_iconst (v := (1 : Int32)) hx hb dX1_reads_53 (by decide) ?_
        refine lv_aload_n hx hb dX1_reads_54 rfl (lv_at hl 0 rfl) ?_
        refine va_get (D := D) (ci := 1) (v := .ref aL_vs) (C := RX1) (T := TX1) (N := 6) hx hb hts iX1 hown hK.1 hP 0 rfl rfl 1 (by decide) k15 (fun _ h9 => h9) rfl dX1_reads_55 ?_
        refine lv_iload_n hx hb dX1_reads_58 rfl (lv_at hl 1 rfl) ?_
        refine ckE hf (fun h59 hf => ?_)
        refine va_iald hx hb hK.1 hP 2 0 rfl rfl (inB_in h59) dX1_reads_59 ?_
        refine lv_ishl hx hb dX1_reads_60 ?_
        refine lv_iconst (v := (1 : Int32)) hx hb dX1_reads_61 (by decide) ?_
        refine lv_aload_n hx hb dX1_reads_62 rfl (lv_at hl 0 rfl) ?_
        refine va_get (D := D) (ci := 1) (v := .ref aL_ws) (C := RX1) (T := TX1) (N := 6) hx hb hts iX1 hown hK.1 hP 0 rfl rfl 2 (by decide) k18 (fun _ h9 => h9) rfl dX1_reads_63 ?_
        refine lv_iload_n hx hb dX1_reads_66 rfl (lv_at hl 1 rfl) ?_
        refine ckE hf (fun h67 hf => ?_)
        refine va_iald hx hb hK.1 hP 3 0 rfl rfl (inB_in h67) dX1_reads_67 ?_
        refine lv_ishl hx hb dX1_reads_68 ?_
        refine lv_ior hx hb dX1_reads_69 ?_
        rw [hQQ]
        exact W.iret (v := (((1 : Int32) <<< ((L_vs (y1).toNatClampNeg) &&& 31)) ||| ((1 : Int32) <<< ((L_ws (y1).toNatClampNeg) &&& 31)))) hx hb hr (fun t ht hW => ⟨⟨(((1 : Int32) <<< ((L_vs (y1).toNatClampNeg) &&& 31)) ||| ((1 : Int32) <<< ((L_ws (y1).toNatClampNeg) &&& 31))), (), rfl, Option.some.inj hf, ht⟩, rF ht⟩) hS.2.2 dX1_reads_70
      · have hf := ifn hf c5_3
        by_cases c5_4 : o2 = (4 : Int32)
        · have hf := ifp hf c5_4
          refine lv_tableIn (off := 66) (tgt := 71) hx hb dX1_reads_5 (by rw [c5_4]; decide) (by rw [c5_4]; decide) (by rw [c5_4]; decide) (by decide) ?_
          refine lv_iconst (v := (1 : Int32)) hx hb dX1_reads_71 (by decide) ?_
          refine lv_aload_n hx hb dX1_reads_72 rfl (lv_at hl 0 rfl) ?_
          refine va_get (D := D) (ci := 1) (v := .ref aL_vs) (C := RX1) (T := TX1) (N := 6) hx hb hts iX1 hown hK.1 hP 0 rfl rfl 1 (by decide) k15 (fun _ h9 => h9) rfl dX1_reads_73 ?_
          refine lv_iload_n hx hb dX1_reads_76 rfl (lv_at hl 1 rfl) ?_
          refine ckE hf (fun h77 hf => ?_)
          refine va_iald hx hb hK.1 hP 2 0 rfl rfl (inB_in h77) dX1_reads_77 ?_
          refine lv_ishl hx hb dX1_reads_78 ?_
          rw [hQQ]
          exact W.iret (v := ((1 : Int32) <<< ((L_vs (y1).toNatClampNeg) &&& 31))) hx hb hr (fun t ht hW => ⟨⟨((1 : Int32) <<< ((L_vs (y1).toNatClampNeg) &&& 31)), (), rfl, Option.some.inj hf, ht⟩, rF ht⟩) hS.2.2 dX1_reads_79
        · have hf := ifn hf c5_4
          by_cases c5_5 : o2 = (5 : Int32)
          · have hf := ifp hf c5_5
            refine lv_tableIn (off := 75) (tgt := 80) hx hb dX1_reads_5 (by rw [c5_5]; decide) (by rw [c5_5]; decide) (by rw [c5_5]; decide) (by decide) ?_
            refine lv_iconst (v := (0 : Int32)) hx hb dX1_reads_80 (by decide) ?_
            rw [hQQ]
            exact W.iret (v := (0 : Int32)) hx hb hr (fun t ht hW => ⟨⟨(0 : Int32), (), rfl, Option.some.inj hf, ht⟩, rF ht⟩) hS.2.2 dX1_reads_81
          · have hf := ifn hf c5_5
            by_cases c5_6 : o2 = (6 : Int32)
            · have hf := ifp hf c5_6
              refine lv_tableIn (off := 48) (tgt := 53) hx hb dX1_reads_5 (by rw [c5_6]; decide) (by rw [c5_6]; decide) (by rw [c5_6]; decide) (by decide) ?_
              refine lv_iconst (v := (1 : Int32)) hx hb dX1_reads_53 (by decide) ?_
              refine lv_aload_n hx hb dX1_reads_54 rfl (lv_at hl 0 rfl) ?_
              refine va_get (D := D) (ci := 1) (v := .ref aL_vs) (C := RX1) (T := TX1) (N := 6) hx hb hts iX1 hown hK.1 hP 0 rfl rfl 1 (by decide) k15 (fun _ h9 => h9) rfl dX1_reads_55 ?_
              refine lv_iload_n hx hb dX1_reads_58 rfl (lv_at hl 1 rfl) ?_
              refine ckE hf (fun h59 hf => ?_)
              refine va_iald hx hb hK.1 hP 2 0 rfl rfl (inB_in h59) dX1_reads_59 ?_
              refine lv_ishl hx hb dX1_reads_60 ?_
              refine lv_iconst (v := (1 : Int32)) hx hb dX1_reads_61 (by decide) ?_
              refine lv_aload_n hx hb dX1_reads_62 rfl (lv_at hl 0 rfl) ?_
              refine va_get (D := D) (ci := 1) (v := .ref aL_ws) (C := RX1) (T := TX1) (N := 6) hx hb hts iX1 hown hK.1 hP 0 rfl rfl 2 (by decide) k18 (fun _ h9 => h9) rfl dX1_reads_63 ?_
              refine lv_iload_n hx hb dX1_reads_66 rfl (lv_at hl 1 rfl) ?_
              refine ckE hf (fun h67 hf => ?_)
              refine va_iald hx hb hK.1 hP 3 0 rfl rfl (inB_in h67) dX1_reads_67 ?_
              refine lv_ishl hx hb dX1_reads_68 ?_
              refine lv_ior hx hb dX1_reads_69 ?_
              rw [hQQ]
              exact W.iret (v := (((1 : Int32) <<< ((L_vs (y1).toNatClampNeg) &&& 31)) ||| ((1 : Int32) <<< ((L_ws (y1).toNatClampNeg) &&& 31)))) hx hb hr (fun t ht hW => ⟨⟨(((1 : Int32) <<< ((L_vs (y1).toNatClampNeg) &&& 31)) ||| ((1 : Int32) <<< ((L_ws (y1).toNatClampNeg) &&& 31))), (), rfl, Option.some.inj hf, ht⟩, rF ht⟩) hS.2.2 dX1_reads_70
            · have hf := ifn hf c5_6
              have u5_1 := lv_neT c5_1 (a := 1) rfl
              have u5_2 := lv_neT c5_2 (a := 2) rfl
              have u5_3 := lv_neT c5_3 (a := 3) rfl
              have u5_4 := lv_neT c5_4 (a := 4) rfl
              have u5_5 := lv_neT c5_5 (a := 5) rfl
              have u5_6 := lv_neT c5_6 (a := 6) rfl
              refine lv_tableOut (tgt := 80) hx hb dX1_reads_5 (by omega) (by decide) ?_
              refine lv_iconst (v := (0 : Int32)) hx hb dX1_reads_80 (by decide) ?_
              rw [hQQ]
              exact W.iret (v := (0 : Int32)) hx hb hr (fun t ht hW => ⟨⟨(0 : Int32), (), rfl, Option.some.inj hf, ht⟩, rF ht⟩) hS.2.2 dX1_reads_81

set_option maxHeartbeats 4000000 in
set_option maxRecDepth 100000 in
theorem tX1_areBound (l : Launch) (D : va_G) (cI cJ cG : ClassId) (aL aL_kinds aL_vs aL_ws aL_roles aL_mates : Nat) (Hs : Heap) (y1 : Int32) (y2 : Int32) (L_many : Int32) (L_kinds : (Nat → Int32)) (L_vs : (Nat → Int32)) (L_ws : (Nat → Int32)) (out : Int32) (hf : fX1_areBound y1 y2 L_many L_kinds L_vs L_ws = some out) : Met l yX1_areBound wsX1_areBound ({ frames := 3, cells := 0, slots := 0, locals := 64 }) (va_Pc [.ref aL, .int y1, .int y2] (rP D (tyL cI cJ cG) [(aL, .inr (1, [.ref aL_kinds, .ref aL_vs, .ref aL_ws, .ref aL_roles, .ref aL_mates, .int L_many])), (aL_kinds, eI cI 16 L_kinds), (aL_vs, eI cI 16 L_vs), (aL_ws, eI cI 16 L_ws)] Hs)) (rQi out Hs) 0 0 (fun _ => False) := by
  refine Met.ofW (cc := cX1_areBound) (maxL := 5) (ret := (some .boolean)) (by decide) rfl ?_
  intro p e s m args below meth c s₁ B hml hv
  obtain ⟨rfl, rfl, hP, hK⟩ := hv
  have hx := B.exec
  have hb := B.bytes
  have hr := B.returns
  have hts := atoms_spec (ws := wsX1_areBound) B.pre
  have hown : s.vm.findClass RX1 = some m.cls := findClass_of_methodNamed B.named
  have hlocks := B.notSynchronized
  have hS : va_S (fun _ => False) s.heap s.heap [] := va_S.rf
  have hl := lv_entry ([.ref aL, .int y1, .int y2]) (n := 5) (Nat.le_of_ble_eq_true rfl)
  rw [lg_entry_eq]
  generalize (lg_sl ([.ref aL, .int y1, .int y2]) ++ List.replicate (5 - (lg_sl ([.ref aL, .int y1, .int y2])).length) Slot.unset).toArray = ls at hl ⊢
  have hl : lv_has ls 5 [(0, .ref aL), (1, .int y1), (2, .int y2)] := hl
  generalize hQQ : MQ below _ _ s 0 0 _ = QQ
  replace hQQ := hQQ.symm
  have b_20 : ∀ (x1 : Int32) (x2 : Int32), fX1_areBound_b20  x1 x2 L_many L_kinds L_vs L_ws = some out → ∀ (locs : List Loc) (ls : Array Slot), va_S (fun _ => False) s.heap s.heap locs → lv_has ls 5 [(0, .ref aL), (1, .int x1), (2, .int x2)] → W p l e (headSpec wsX1_areBound { frames := 3, cells := 0, slots := 0, locals := 64 }).room s m ([.ref aL, .int y1, .int y2] : List Value).toArray below meth c s.heap locs 0 0 QQ (F0 m 20 ls []) := by
    intro  x1 x2 hf locs ls hS hl
    unfold fX1_areBound_b20 at hf
    refine lv_aload_n hx hb dX1_areBound_20 rfl (lv_at hl 0 rfl) ?_
    refine lv_iload_n hx hb dX1_areBound_21 rfl (lv_at hl 1 rfl) ?_
    refine bnd hf (fun o22 e22 hf => ?_)
    refine rdVi (As := [.int x1]) (rest := []) ⟨hx, hb, hml, hown, hts⟩ (tX1_writes l D cI cJ cG aL aL_kinds aL_vs aL_ws aL_roles aL_mates s.heap x1 L_many L_kinds L_vs o22 e22) (cwV 1 hts gX1_areBound_X1_writes rfl rfl rfl (by decide +kernel) ⟨Nat.le_of_ble_eq_true rfl, Nat.le_of_ble_eq_true rfl⟩) (va_recv (ci := 1) (q0 := 0) hK.1 hP rfl rfl) hK (hP.sub (ws' := [(aL, .inr (1, [.ref aL_kinds, .ref aL_vs, .ref aL_ws, .ref aL_roles, .ref aL_mates, .int L_many])), (aL_kinds, eI cI 16 L_kinds), (aL_vs, eI cI 16 L_vs)]) [0, 1, 2] rfl) rfl hl.1 rfl (lv_room (Nat.le_of_ble_eq_true rfl)) dX1_areBound_22 ⟨Nat.le_of_ble_eq_true rfl, Nat.le_of_ble_eq_true rfl⟩ hS (fun locs hS => ?_)
    refine lv_istore_n (lv' := [(3, .int o22), (0, .ref aL), (1, .int x1), (2, .int x2)]) hx hb dX1_areBound_25 rfl hl (by decide) rfl (fun ls hl => ?_)
    refine lv_aload_n hx hb dX1_areBound_26 rfl (lv_at hl 1 rfl) ?_
    refine lv_iload_n hx hb dX1_areBound_27 rfl (lv_at hl 3 rfl) ?_
    refine bnd hf (fun o28 e28 hf => ?_)
    refine rdVi (As := [.int x2]) (rest := []) ⟨hx, hb, hml, hown, hts⟩ (tX1_writes l D cI cJ cG aL aL_kinds aL_vs aL_ws aL_roles aL_mates s.heap x2 L_many L_kinds L_vs o28 e28) (cwV 1 hts gX1_areBound_X1_writes rfl rfl rfl (by decide +kernel) ⟨Nat.le_of_ble_eq_true rfl, Nat.le_of_ble_eq_true rfl⟩) (va_recv (ci := 1) (q0 := 0) hK.1 hP rfl rfl) hK (hP.sub (ws' := [(aL, .inr (1, [.ref aL_kinds, .ref aL_vs, .ref aL_ws, .ref aL_roles, .ref aL_mates, .int L_many])), (aL_kinds, eI cI 16 L_kinds), (aL_vs, eI cI 16 L_vs)]) [0, 1, 2] rfl) rfl hl.1 rfl (lv_room (Nat.le_of_ble_eq_true rfl)) dX1_areBound_28 ⟨Nat.le_of_ble_eq_true rfl, Nat.le_of_ble_eq_true rfl⟩ hS (fun locs hS => ?_)
    refine lv_istore (lv' := [(4, .int o28), (3, .int o22), (0, .ref aL), (1, .int x1), (2, .int x2)]) hx hb dX1_areBound_31 hl (by decide) rfl (fun ls hl => ?_)
    refine lv_iload_n hx hb dX1_areBound_33 rfl (lv_at hl 1 rfl) ?_
    refine lv_aload_n hx hb dX1_areBound_34 rfl (lv_at hl 2 rfl) ?_
    refine lv_iload_n hx hb dX1_areBound_35 rfl (lv_at hl 4 rfl) ?_
    refine bnd hf (fun o36 e36 hf => ?_)
    refine rdVi (As := [.int x2]) (rest := [.int o22]) ⟨hx, hb, hml, hown, hts⟩ (tX1_reads l D cI cJ cG aL aL_kinds aL_vs aL_ws aL_roles aL_mates s.heap x2 L_many L_kinds L_vs L_ws o36 e36) (cwV 1 hts gX1_areBound_X1_reads rfl rfl rfl (by decide +kernel) ⟨Nat.le_of_ble_eq_true rfl, Nat.le_of_ble_eq_true rfl⟩) (va_recv (ci := 1) (q0 := 0) hK.1 hP rfl rfl) hK (hP.sub (ws' := [(aL, .inr (1, [.ref aL_kinds, .ref aL_vs, .ref aL_ws, .ref aL_roles, .ref aL_mates, .int L_many])), (aL_kinds, eI cI 16 L_kinds), (aL_vs, eI cI 16 L_vs), (aL_ws, eI cI 16 L_ws)]) [0, 1, 2, 3] rfl) rfl hl.1 rfl (lv_room (Nat.le_of_ble_eq_true rfl)) dX1_areBound_36 ⟨Nat.le_of_ble_eq_true rfl, Nat.le_of_ble_eq_true rfl⟩ hS (fun locs hS => ?_)
    refine lv_iload hx hb dX1_areBound_39 (lv_at hl 0 rfl) ?_
    refine lv_ior hx hb dX1_areBound_41 ?_
    refine lv_iand hx hb dX1_areBound_42 ?_
    refine lv_if_ne (tgt := 57) hx hb dX1_areBound_43 (by decide) (fun c43 => ?_) (fun c43 => ?_)
    · have hf := ifn hf c43
      refine lv_iconst (v := (1 : Int32)) hx hb dX1_areBound_57 (by decide) ?_
      refine lv_goto (tgt := 62) hx hb dX1_areBound_58 (by decide) ?_
      rw [hQQ]
      exact W.zret (v := (1 : Int32)) hx hb hr rfl (fun t ht hW => ⟨⟨(1 : Int32), (), rfl, Option.some.inj hf, ht⟩, rF ht⟩) hS.2.2 dX1_areBound_62
    · have hf := ifp hf c43
      refine lv_aload_n hx hb dX1_areBound_46 rfl (lv_at hl 2 rfl) ?_
      refine lv_iload_n hx hb dX1_areBound_47 rfl (lv_at hl 3 rfl) ?_
      refine bnd hf (fun o48 e48 hf => ?_)
      refine rdVi (As := [.int x1]) (rest := []) ⟨hx, hb, hml, hown, hts⟩ (tX1_reads l D cI cJ cG aL aL_kinds aL_vs aL_ws aL_roles aL_mates s.heap x1 L_many L_kinds L_vs L_ws o48 e48) (cwV 1 hts gX1_areBound_X1_reads rfl rfl rfl (by decide +kernel) ⟨Nat.le_of_ble_eq_true rfl, Nat.le_of_ble_eq_true rfl⟩) (va_recv (ci := 1) (q0 := 0) hK.1 hP rfl rfl) hK (hP.sub (ws' := [(aL, .inr (1, [.ref aL_kinds, .ref aL_vs, .ref aL_ws, .ref aL_roles, .ref aL_mates, .int L_many])), (aL_kinds, eI cI 16 L_kinds), (aL_vs, eI cI 16 L_vs), (aL_ws, eI cI 16 L_ws)]) [0, 1, 2, 3] rfl) rfl hl.1 rfl (lv_room (Nat.le_of_ble_eq_true rfl)) dX1_areBound_48 ⟨Nat.le_of_ble_eq_true rfl, Nat.le_of_ble_eq_true rfl⟩ hS (fun locs hS => ?_)
      refine lv_iload hx hb dX1_areBound_51 (lv_at hl 0 rfl) ?_
      refine lv_iand hx hb dX1_areBound_53 ?_
      refine lv_if_eq (tgt := 61) hx hb dX1_areBound_54 (by decide) (fun c54 => ?_) (fun c54 => ?_)
      · have hf := ifp hf c54
        refine lv_iconst (v := (0 : Int32)) hx hb dX1_areBound_61 (by decide) ?_
        rw [hQQ]
        exact W.zret (v := (0 : Int32)) hx hb hr rfl (fun t ht hW => ⟨⟨(0 : Int32), (), rfl, Option.some.inj hf, ht⟩, rF ht⟩) hS.2.2 dX1_areBound_62
      · have hf := ifn hf c54
        refine lv_iconst (v := (1 : Int32)) hx hb dX1_areBound_57 (by decide) ?_
        refine lv_goto (tgt := 62) hx hb dX1_areBound_58 (by decide) ?_
        rw [hQQ]
        exact W.zret (v := (1 : Int32)) hx hb hr rfl (fun t ht hW => ⟨⟨(1 : Int32), (), rfl, Option.some.inj hf, ht⟩, rF ht⟩) hS.2.2 dX1_areBound_62
  unfold fX1_areBound at hf
  refine lv_aload_n hx hb dX1_areBound_0 rfl (lv_at hl 0 rfl) ?_
  refine lv_iload_n hx hb dX1_areBound_1 rfl (lv_at hl 1 rfl) ?_
  refine bnd hf (fun o2 e2 hf => ?_)
  refine rdVi (As := [.int y1]) (rest := []) ⟨hx, hb, hml, hown, hts⟩ (tX1_kindOf l D cI cJ cG aL aL_kinds aL_vs aL_ws aL_roles aL_mates s.heap y1 L_many L_kinds o2 e2) (cwV 1 hts gX1_areBound_X1_kindOf rfl rfl rfl (by decide +kernel) ⟨Nat.le_of_ble_eq_true rfl, Nat.le_of_ble_eq_true rfl⟩) (va_recv (ci := 1) (q0 := 0) hK.1 hP rfl rfl) hK (hP.sub (ws' := [(aL, .inr (1, [.ref aL_kinds, .ref aL_vs, .ref aL_ws, .ref aL_roles, .ref aL_mates, .int L_many])), (aL_kinds, eI cI 16 L_kinds)]) [0, 1] rfl) rfl hl.1 rfl (lv_room (Nat.le_of_ble_eq_true rfl)) dX1_areBound_2 ⟨Nat.le_of_ble_eq_true rfl, Nat.le_of_ble_eq_true rfl⟩ hS (fun locs hS => ?_)
  refine lv_iconst (v := (4 : Int32)) hx hb dX1_areBound_5 (by decide) ?_
  refine lv_icmp_ne (tgt := 20) hx hb dX1_areBound_6 (by decide) (fun c6 => ?_) (fun c6 => ?_)
  · have hf := ifn hf c6
    exact b_20 y1 y2 hf _ _ hS (lv_sub hl [0, 1, 2] rfl)
  · have hf := ifp hf c6
    refine lv_aload_n hx hb dX1_areBound_9 rfl (lv_at hl 0 rfl) ?_
    refine lv_iload_n hx hb dX1_areBound_10 rfl (lv_at hl 2 rfl) ?_
    refine bnd hf (fun o11 e11 hf => ?_)
    refine rdVi (As := [.int y2]) (rest := []) ⟨hx, hb, hml, hown, hts⟩ (tX1_kindOf l D cI cJ cG aL aL_kinds aL_vs aL_ws aL_roles aL_mates s.heap y2 L_many L_kinds o11 e11) (cwV 1 hts gX1_areBound_X1_kindOf rfl rfl rfl (by decide +kernel) ⟨Nat.le_of_ble_eq_true rfl, Nat.le_of_ble_eq_true rfl⟩) (va_recv (ci := 1) (q0 := 0) hK.1 hP rfl rfl) hK (hP.sub (ws' := [(aL, .inr (1, [.ref aL_kinds, .ref aL_vs, .ref aL_ws, .ref aL_roles, .ref aL_mates, .int L_many])), (aL_kinds, eI cI 16 L_kinds)]) [0, 1] rfl) rfl hl.1 rfl (lv_room (Nat.le_of_ble_eq_true rfl)) dX1_areBound_11 ⟨Nat.le_of_ble_eq_true rfl, Nat.le_of_ble_eq_true rfl⟩ hS (fun locs hS => ?_)
    refine lv_iconst (v := (4 : Int32)) hx hb dX1_areBound_14 (by decide) ?_
    refine lv_icmp_ne (tgt := 20) hx hb dX1_areBound_15 (by decide) (fun c15 => ?_) (fun c15 => ?_)
    · have hf := ifn hf c15
      exact b_20 y1 y2 hf _ _ hS (lv_sub hl [0, 1, 2] rfl)
    · have hf := ifp hf c15
      refine lv_iconst (v := (1 : Int32)) hx hb dX1_areBound_18 (by decide) ?_
      rw [hQQ]
      exact W.zret (v := (1 : Int32)) hx hb hr rfl (fun t ht hW => ⟨⟨(1 : Int32), (), rfl, Option.some.inj hf, ht⟩, rF ht⟩) hS.2.2 dX1_areBound_19

