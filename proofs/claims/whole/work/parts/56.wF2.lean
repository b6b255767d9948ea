set_option maxHeartbeats 4000000 in
set_option maxRecDepth 100000 in
theorem tX6_right (l : Launch) (D : va_G) (cI cJ cG : ClassId) (aF aF_kinds aF_vs aF_ws aF_roles aF_partner aF_lineOf aF_rank aF_behind aF_before aF_ways aF_inputOf aF_answer aF_values aF_printedRow aF_wasValues aF_wasPrinted aF_due aF_takenPlace aF_against : Nat) (Hs : Heap) (y1 : Int64) (y3 : Int32) (F_lines : Int32) (F_model : Int32) (F_inputs : Int32) (F_size : Int32) (F_hints : Int32) (F_hasRun : Int32) (F_printedMany : Int32) (F_keptBits : Int32) (F_keptMany : Int32) (F_takenMany : Int32) (F_change : Int32) (F_who : Int32) (F_where : Int32) (F_h : Int64) (F_lineOf : (Nat → Int32)) (F_before : (Nat → Int32)) (F_ways : (Nat → Int64)) (out : Int32) (hf : fX6_right y1 y3 F_model F_lineOf F_before F_ways = some out) : Met l yX6_right wsX6_right ({ frames := 1, cells := 0, slots := 0, locals := 22 }) (va_Pc [.ref aF, .long y1, .int y3] (rP D (tyL cI cJ cG) [(aF, .inr (6, [.int F_lines, .ref aF_kinds, .ref aF_vs, .ref aF_ws, .ref aF_roles, .ref aF_partner, .int F_model, .ref aF_lineOf, .ref aF_rank, .ref aF_behind, .ref aF_before, .ref aF_ways, .int F_inputs, .ref aF_inputOf, .int F_size, .ref aF_answer, .int F_hints, .int F_hasRun, .ref aF_values, .int F_printedMany, .ref aF_printedRow, .ref aF_wasValues, .ref aF_wasPrinted, .ref aF_due, .int F_keptBits, .int F_keptMany, .int F_takenMany, .ref aF_takenPlace, .ref aF_against, .int F_change, .int F_who, .int F_where, .long F_h])), (aF_lineOf, eI cI 12 F_lineOf), (aF_before, eI cI 12 F_before), (aF_ways, eJ cJ 4096 F_ways)] Hs)) (rQi out Hs) 0 0 (fun _ => False) := by
  refine Met.ofW (cc := cX6_right) (maxL := 12) (ret := (some .int)) (by decide) rfl ?_
  intro p e s m args below meth c s₁ B hml hv
  obtain ⟨rfl, rfl, hP, hK⟩ := hv
  have hx := B.exec
  have hb := B.bytes
  have hr := B.returns
  have hts := atoms_spec (ws := wsX6_right) B.pre
  have hown : s.vm.findClass RX6 = some m.cls := findClass_of_methodNamed B.named
  have hlocks := B.notSynchronized
  have iX6 : ∀ w ∈ wsX60, w ∈ wsX6_right := by decide +kernel
  have k25 := hts (.fieldLink RX6 25 "BlockMarkerModel" "lineOf" "[I") (by decide +kernel)
  have k34 := hts (.fieldLink RX6 34 "BlockMarkerModel" "before" "[I") (by decide +kernel)
  have k37 := hts (.fieldLink RX6 37 "BlockMarkerModel" "ways" "[J") (by decide +kernel)
  have k82 := hts (.fieldLink RX6 82 "BlockMarkerModel" "model" "I") (by decide +kernel)
  have hS : va_S (fun _ => False) s.heap s.heap [] := va_S.rf
  have hl := lv_entry ([.ref aF, .long y1, .int y3]) (n := 12) (Nat.le_of_ble_eq_true rfl)
  rw [lg_entry_eq]
  generalize (lg_sl ([.ref aF, .long y1, .int y3]) ++ List.replicate (12 - (lg_sl ([.ref aF, .long y1, .int y3])).length) Slot.unset).toArray = ls at hl ⊢
  have hl : lv_has ls 12 [(0, .ref aF), (1, .long y1), (3, .int y3)] := hl
  generalize hQQ : MQ below _ _ s 0 0 _ = QQ
  replace hQQ := hQQ.symm
  have b_57 : ∀ (k45 : Int32 → Int64 → Int32 → Int32 → Int32 → Int32 → (Nat → Int32) → (Nat → Int32) → (Nat → Int64) → Option (Int32)) (hk45 : ∀ (x3 : Int32) (x4 : Int64) (x6 : Int32) (x7 : Int32) (x8 : Int32), k45 x3 x4 x6 x7 x8 F_model F_lineOf F_before F_ways = some out → ∀ (locs : List Loc) (ls : Array Slot), va_S (fun _ => False) s.heap s.heap locs → lv_has ls 12 [(0, .ref aF), (3, .int x3), (4, .long x4), (6, .int x6), (7, .int x7), (8, .int x8)] → W p l e (headSpec wsX6_right { frames := 1, cells := 0, slots := 0, locals := 22 }).room s m ([.ref aF, .long y1, .int y3] : List Value).toArray below meth c s.heap locs 0 0 QQ (F0 m 45 ls [])) (n : Nat), ∀ (x3 : Int32) (x4 : Int64) (x6 : Int32) (x7 : Int32) (x8 : Int32) (x9 : Int32), fX6_right_h57 k45 n x3 x4 x6 x7 x8 x9 F_model F_lineOf F_before F_ways = some out → ∀ (locs : List Loc) (ls : Array Slot), va_S (fun _ => False) s.heap s.heap locs → lv_has ls 12 [(0, .ref aF), (3, .int x3), (4, .long x4), (6, .int x6), (7, .int x7), (8, .int x8), (9, .int x9)] → W p l e (headSpec wsX6_right { frames := 1, cells := 0, slots := 0, locals := 22 }).room s m ([.ref aF, .long y1, .int y3] : List Value).toArray below meth c s.heap locs 0 0 QQ (F0 m 57 ls []) := by
    intro k45 hk45 n
    induction n with
    | zero => intro x3 x4 x6 x7 x8 x9 hf; exact nomatch (show (none : Option (Int32)) = some out from hf)
    | succ n ih =>
      intro x3 x4 x6 x7 x8 x9 hf locs ls hS hl
      replace hf : uX6_right_h57 k45 (fX6_right_h57 k45 n) x3 x4 x6 x7 x8 x9 F_model F_lineOf F_before F_ways = some out := hf
      unfold uX6_right_h57 at hf
      refine lv_iload hx hb dX6_right_57 (lv_at hl 6 rfl) ?_
      refine lv_aload_n hx hb dX6_right_59 rfl (lv_at hl 0 rfl) ?_
      refine va_get (D := D) (ci := 6) (v := .int F_model) (C := RX6) (T := TX6) (N := 33) hx hb hts iX6 hown hK.1 hP 0 rfl rfl 6 (by decide) k82 (fun _ h9 => h9) rfl dX6_right_60 ?_
      refine lv_icmp_ge (tgt := 139) hx hb dX6_right_63 (by decide) (fun c63 => ?_) (fun c63 => ?_)
      · have hf := ifp hf c63
        refine lv_iload hx hb dX6_right_139 (lv_at hl 3 rfl) ?_
        refine lv_iconst (v := (1 : Int32)) hx hb dX6_right_141 (by decide) ?_
        refine lv_iload hx hb dX6_right_142 (lv_at hl 4 rfl) ?_
        refine lv_ishl hx hb dX6_right_144 ?_
        refine lv_ior hx hb dX6_right_145 ?_
        refine lv_istore (lv' := [(6, .int (x6 ||| ((1 : Int32) <<< (x7 &&& 31)))), (0, .ref aF), (3, .int x3), (4, .long x4), (7, .int x7), (8, .int x8), (9, .int x9)]) hx hb dX6_right_146 hl (by decide) rfl (fun ls hl => ?_)
        refine lv_iinc (v := (x8 + (1 : Int32))) (lv' := [(8, .int (x8 + (1 : Int32))), (6, .int (x6 ||| ((1 : Int32) <<< (x7 &&& 31)))), (0, .ref aF), (3, .int x3), (4, .long x4), (7, .int x7), (9, .int x9)]) hx hb dX6_right_148 hl (k := 5) rfl rfl (by decide) rfl (fun ls hl => ?_)
        refine lv_goto (tgt := 45) hx hb dX6_right_151 (by decide) ?_
        exact hk45 x3 x4 (x6 ||| ((1 : Int32) <<< (x7 &&& 31))) x7 (x8 + (1 : Int32)) hf _ _ hS (lv_sub hl [2, 3, 4, 1, 5, 0] rfl)
      · have hf := ifn hf c63
        refine lv_iload hx hb dX6_right_66 (lv_at hl 4 rfl) ?_
        refine lv_iconst (v := (-1 : Int32)) hx hb dX6_right_68 (by decide) ?_
        refine lv_icmp_ne (tgt := 139) hx hb dX6_right_69 (by decide) (fun c69 => ?_) (fun c69 => ?_)
        · have hf := ifn hf c69
          refine lv_iload hx hb dX6_right_139 (lv_at hl 3 rfl) ?_
          refine lv_iconst (v := (1 : Int32)) hx hb dX6_right_141 (by decide) ?_
          refine lv_iload hx hb dX6_right_142 (lv_at hl 4 rfl) ?_
          refine lv_ishl hx hb dX6_right_144 ?_
          refine lv_ior hx hb dX6_right_145 ?_
          refine lv_istore (lv' := [(6, .int (x6 ||| ((1 : Int32) <<< (x7 &&& 31)))), (0, .ref aF), (3, .int x3), (4, .long x4), (7, .int x7), (8, .int x8), (9, .int x9)]) hx hb dX6_right_146 hl (by decide) rfl (fun ls hl => ?_)
          refine lv_iinc (v := (x8 + (1 : Int32))) (lv' := [(8, .int (x8 + (1 : Int32))), (6, .int (x6 ||| ((1 : Int32) <<< (x7 &&& 31)))), (0, .ref aF), (3, .int x3), (4, .long x4), (7, .int x7), (9, .int x9)]) hx hb dX6_right_148 hl (k := 5) rfl rfl (by decide) rfl (fun ls hl => ?_)
          refine lv_goto (tgt := 45) hx hb dX6_right_151 (by decide) ?_
          exact hk45 x3 x4 (x6 ||| ((1 : Int32) <<< (x7 &&& 31))) x7 (x8 + (1 : Int32)) hf _ _ hS (lv_sub hl [2, 3, 4, 1, 5, 0] rfl)
        · have hf := ifp hf c69
          refine lv_iload hx hb dX6_right_72 (lv_at hl 3 rfl) ?_
          refine lv_iload hx hb dX6_right_74 (lv_at hl 6 rfl) ?_
          refine lv_ishr hx hb dX6_right_76 ?_
          refine lv_iconst (v := (1 : Int32)) hx hb dX6_right_77 (by decide) ?_
          refine lv_iand hx hb dX6_right_78 ?_
          refine lv_if_ne (tgt := 133) hx hb dX6_right_79 (by decide) (fun c79 => ?_) (fun c79 => ?_)
          · have hf := ifn hf c79
            refine lv_iinc (v := (x9 + (1 : Int32))) (lv' := [(9, .int (x9 + (1 : Int32))), (0, .ref aF), (3, .int x3), (4, .long x4), (6, .int x6), (7, .int x7), (8, .int x8)]) hx hb dX6_right_133 hl (k := 6) rfl rfl (by decide) rfl (fun ls hl => ?_)
            refine lv_goto (tgt := 57) hx hb dX6_right_136 (by decide) ?_
            exact ih x3 x4 x6 x7 x8 (x9 + (1 : Int32)) hf _ _ hS (lv_sub hl [1, 2, 3, 4, 5, 6, 0] rfl)
          · have hf := ifp hf c79
            refine lv_aload_n hx hb dX6_right_82 rfl (lv_at hl 0 rfl) ?_
            refine va_get (D := D) (ci := 6) (v := .ref aF_before) (C := RX6) (T := TX6) (N := 33) hx hb hts iX6 hown hK.1 hP 0 rfl rfl 10 (by decide) k34 (fun _ h9 => h9) rfl dX6_right_83 ?_
            refine lv_iload hx hb dX6_right_86 (lv_at hl 6 rfl) ?_
            refine ckE hf (fun h88 hf => ?_)
            refine va_iald hx hb hK.1 hP 2 0 rfl rfl (inB_in h88) dX6_right_88 ?_
            refine lv_iload hx hb dX6_right_89 (lv_at hl 3 rfl) ?_
            refine lv_iconst (v := (-1 : Int32)) hx hb dX6_right_91 (by decide) ?_
            refine lv_ixor hx hb dX6_right_92 ?_
            refine lv_iand hx hb dX6_right_93 ?_
            refine lv_if_ne (tgt := 133) hx hb dX6_right_94 (by decide) (fun c94 => ?_) (fun c94 => ?_)
            · have hf := ifn hf c94
              refine lv_iinc (v := (x9 + (1 : Int32))) (lv' := [(9, .int (x9 + (1 : Int32))), (0, .ref aF), (3, .int x3), (4, .long x4), (6, .int x6), (7, .int x7), (8, .int x8)]) hx hb dX6_right_133 hl (k := 6) rfl rfl (by decide) rfl (fun ls hl => ?_)
              refine lv_goto (tgt := 57) hx hb dX6_right_136 (by decide) ?_
              exact ih x3 x4 x6 x7 x8 (x9 + (1 : Int32)) hf _ _ hS (lv_sub hl [1, 2, 3, 4, 5, 6, 0] rfl)
            · have hf := ifp hf c94
              refine lv_aload_n hx hb dX6_right_97 rfl (lv_at hl 0 rfl) ?_
              refine va_get (D := D) (ci := 6) (v := .ref aF_ways) (C := RX6) (T := TX6) (N := 33) hx hb hts iX6 hown hK.1 hP 0 rfl rfl 11 (by decide) k37 (fun _ h9 => h9) rfl dX6_right_98 ?_
              refine lv_iload hx hb dX6_right_101 (lv_at hl 3 rfl) ?_
              refine lv_iconst (v := (1 : Int32)) hx hb dX6_right_103 (by decide) ?_
              refine lv_iload hx hb dX6_right_104 (lv_at hl 6 rfl) ?_
              refine lv_ishl hx hb dX6_right_106 ?_
              refine lv_ior hx hb dX6_right_107 ?_
              refine ckE hf (fun h108 hf => ?_)
              refine va_lald hx hb hK.1 hP 3 1 rfl rfl (inB_in h108) dX6_right_108 ?_
              refine lv_lstore (lv' := [(10, .long (F_ways ((x6 ||| ((1 : Int32) <<< (x9 &&& 31)))).toNatClampNeg)), (0, .ref aF), (3, .int x3), (4, .long x4), (6, .int x6), (7, .int x7), (8, .int x8), (9, .int x9)]) hx hb dX6_right_109 hl (by decide) rfl (fun ls hl => ?_)
              refine lv_lload hx hb dX6_right_111 (lv_at hl 3 rfl) ?_
              refine lv_lload hx hb dX6_right_113 (lv_at hl 0 rfl) ?_
              refine W.lcmp hx hb dX6_right_115 ?_
              refine lv_if_ge (tgt := 126) hx hb dX6_right_116 (by decide) (fun c116 => ?_) (fun c116 => ?_)
              · have hf := ifp hf c116
                refine lv_lload hx hb dX6_right_126 (lv_at hl 3 rfl) ?_
                refine lv_lload hx hb dX6_right_128 (lv_at hl 0 rfl) ?_
                refine lv_lsub hx hb dX6_right_130 ?_
                refine lv_lstore (lv' := [(4, .long (x4 - (F_ways ((x6 ||| ((1 : Int32) <<< (x9 &&& 31)))).toNatClampNeg))), (10, .long (F_ways ((x6 ||| ((1 : Int32) <<< (x9 &&& 31)))).toNatClampNeg)), (0, .ref aF), (3, .int x3), (6, .int x6), (7, .int x7), (8, .int x8), (9, .int x9)]) hx hb dX6_right_131 hl (by decide) rfl (fun ls hl => ?_)
                refine lv_iinc (v := (x9 + (1 : Int32))) (lv' := [(9, .int (x9 + (1 : Int32))), (4, .long (x4 - (F_ways ((x6 ||| ((1 : Int32) <<< (x9 &&& 31)))).toNatClampNeg))), (10, .long (F_ways ((x6 ||| ((1 : Int32) <<< (x9 &&& 31)))).toNatClampNeg)), (0, .ref aF), (3, .int x3), (6, .int x6), (7, .int x7), (8, .int x8)]) hx hb dX6_right_133 hl (k := 7) rfl rfl (by decide) rfl (fun ls hl => ?_)
                refine lv_goto (tgt := 57) hx hb dX6_right_136 (by decide) ?_
                exact ih x3 (x4 - (F_ways ((x6 ||| ((1 : Int32) <<< (x9 &&& 31)))).toNatClampNeg)) x6 x7 x8 (x9 + (1 : Int32)) hf _ _ hS (lv_sub hl [3, 4, 1, 5, 6, 7, 0] rfl)
              · have hf := ifn hf c116
                refine lv_iload hx hb dX6_right_119 (lv_at hl 7 rfl) ?_
                refine lv_istore (lv' := [(7, .int x9), (10, .long (F_ways ((x6 ||| ((1 : Int32) <<< (x9 &&& 31)))).toNatClampNeg)), (0, .ref aF), (3, .int x3), (4, .long x4), (6, .int x6), (8, .int x8), (9, .int x9)]) hx hb dX6_right_121 hl (by decide) rfl (fun ls hl => ?_)
                refine lv_goto (tgt := 133) hx hb dX6_right_123 (by decide) ?_
                refine lv_iinc (v := (x9 + (1 : Int32))) (lv' := [(9, .int (x9 + (1 : Int32))), (7, .int x9), (10, .long (F_ways ((x6 ||| ((1 : Int32) <<< (x9 &&& 31)))).toNatClampNeg)), (0, .ref aF), (3, .int x3), (4, .long x4), (6, .int x6), (8, .int x8)]) hx hb dX6_right_133 hl (k := 7) rfl rfl (by decide) rfl (fun ls hl => ?_)
                refine lv_goto (tgt := 57) hx hb dX6_right_136 (by decide) ?_
                exact ih x3 x4 x6 x9 x8 (x9 + (1 : Int32)) hf _ _ hS (lv_sub hl [3, 4, 5, 6, 1, 7, 0] rfl)
  have b_45 : ∀ (n : Nat), ∀ (x3 : Int32) (x4 : Int64) (x6 : Int32) (x7 : Int32) (x8 : Int32), fX6_right_h45  n x3 x4 x6 x7 x8 F_model F_lineOf F_before F_ways = some out → ∀ (locs : List Loc) (ls : Array Slot), va_S (fun _ => False) s.heap s.heap locs → lv_has ls 12 [(0, .ref aF), (3, .int x3), (4, .long x4), (6, .int x6), (7, .int x7), (8, .int x8)] → W p l e (headSpec wsX6_right { frames := 1, cells := 0, slots := 0, locals := 22 }).room s m ([.ref aF, .long y1, .int y3] : List Value).toArray below meth c s.heap locs 0 0 QQ (F0 m 45 ls []) := by
    intro  n
    induction n with
    | zero => intro x3 x4 x6 x7 x8 hf; exact nomatch (show (none : Option (Int32)) = some out from hf)
    | succ n ih =>
      intro x3 x4 x6 x7 x8 hf locs ls hS hl
      replace hf : uX6_right_h45  (fX6_right_h45  n) x3 x4 x6 x7 x8 F_model F_lineOf F_before F_ways = some out := hf
      unfold uX6_right_h45 at hf
      refine lv_iload hx hb dX6_right_45 (lv_at hl 5 rfl) ?_
      refine lv_iload_n hx hb dX6_right_47 rfl (lv_at hl 1 rfl) ?_
      refine lv_icmp_gt (tgt := 154) hx hb dX6_right_48 (by decide) (fun c48 => ?_) (fun c48 => ?_)
      · have hf := ifp hf c48
        refine lv_aload_n hx hb dX6_right_154 rfl (lv_at hl 0 rfl) ?_
        refine va_get (D := D) (ci := 6) (v := .ref aF_lineOf) (C := RX6) (T := TX6) (N := 33) hx hb hts iX6 hown hK.1 hP 0 rfl rfl 7 (by decide) k25 (fun _ h9 => h9) rfl dX6_right_155 ?_
        refine lv_iload hx hb dX6_right_158 (lv_at hl 4 rfl) ?_
        refine ckE hf (fun h160 hf => ?_)
        refine va_iald hx hb hK.1 hP 1 0 rfl rfl (inB_in h160) dX6_right_160 ?_
        rw [hQQ]
        exact W.iret (v := (F_lineOf (x7).toNatClampNeg)) hx hb hr (fun t ht hW => ⟨⟨(F_lineOf (x7).toNatClampNeg), (), rfl, Option.some.inj hf, ht⟩, rF ht⟩) hS.2.2 dX6_right_161
      · have hf := ifn hf c48
        refine lv_iconst (v := (-1 : Int32)) hx hb dX6_right_51 (by decide) ?_
        refine lv_istore (lv' := [(7, .int (-1 : Int32)), (0, .ref aF), (3, .int x3), (4, .long x4), (6, .int x6), (8, .int x8)]) hx hb dX6_right_52 hl (by decide) rfl (fun ls hl => ?_)
        refine lv_iconst (v := (0 : Int32)) hx hb dX6_right_54 (by decide) ?_
        refine lv_istore (lv' := [(9, .int (0 : Int32)), (7, .int (-1 : Int32)), (0, .ref aF), (3, .int x3), (4, .long x4), (6, .int x6), (8, .int x8)]) hx hb dX6_right_55 hl (by decide) rfl (fun ls hl => ?_)
        exact b_57 (fX6_right_h45  n) ih FU x3 x4 x6 (-1 : Int32) x8 (0 : Int32) hf _ _ hS (lv_sub hl [2, 3, 4, 5, 1, 6, 0] rfl)
  unfold fX6_right at hf
  refine lv_lload_n hx hb dX6_right_0 rfl (lv_at hl 1 rfl) ?_
  refine lv_lconst (v := 0) hx hb dX6_right_1 (by decide) ?_
  refine W.lcmp hx hb dX6_right_2 ?_
  refine lv_if_lt (tgt := 31) hx hb dX6_right_3 (by decide) (fun c3 => ?_) (fun c3 => ?_)
  · have hf := ifp hf c3
    refine lv_iconst (v := (-1 : Int32)) hx hb dX6_right_31 (by decide) ?_
    rw [hQQ]
    exact W.iret (v := (-1 : Int32)) hx hb hr (fun t ht hW => ⟨⟨(-1 : Int32), (), rfl, Option.some.inj hf, ht⟩, rF ht⟩) hS.2.2 dX6_right_32
  · have hf := ifn hf c3
    refine lv_lload_n hx hb dX6_right_6 rfl (lv_at hl 1 rfl) ?_
    refine lv_aload_n hx hb dX6_right_7 rfl (lv_at hl 0 rfl) ?_
    refine va_get (D := D) (ci := 6) (v := .ref aF_ways) (C := RX6) (T := TX6) (N := 33) hx hb hts iX6 hown hK.1 hP 0 rfl rfl 11 (by decide) k37 (fun _ h9 => h9) rfl dX6_right_8 ?_
    refine lv_iconst (v := (0 : Int32)) hx hb dX6_right_11 (by decide) ?_
    refine ckE hf (fun h12 hf => ?_)
    refine va_lald hx hb hK.1 hP 3 1 rfl rfl (inB_in h12) dX6_right_12 ?_
    refine W.lcmp hx hb dX6_right_13 ?_
    refine lv_if_ge (tgt := 31) hx hb dX6_right_14 (by decide) (fun c14 => ?_) (fun c14 => ?_)
    · have hf := ifp hf c14
      refine lv_iconst (v := (-1 : Int32)) hx hb dX6_right_31 (by decide) ?_
      rw [hQQ]
      exact W.iret (v := (-1 : Int32)) hx hb hr (fun t ht hW => ⟨⟨(-1 : Int32), (), rfl, Option.some.inj hf, ht⟩, rF ht⟩) hS.2.2 dX6_right_32
    · have hf := ifn hf c14
      refine lv_iload_n hx hb dX6_right_17 rfl (lv_at hl 2 rfl) ?_
      refine lv_iconst (v := (0 : Int32)) hx hb dX6_right_18 (by decide) ?_
      refine lv_aload_n hx hb dX6_right_19 rfl (lv_at hl 0 rfl) ?_
      refine va_get (D := D) (ci := 6) (v := .int F_model) (C := RX6) (T := TX6) (N := 33) hx hb hts iX6 hown hK.1 hP 0 rfl rfl 6 (by decide) k82 (fun _ h9 => h9) rfl dX6_right_20 ?_
      refine lv_iconst (v := (1 : Int32)) hx hb dX6_right_23 (by decide) ?_
      refine lv_isub hx hb dX6_right_24 ?_
      refine bnd hf (fun o25 e25 hf => ?_)
      refine rdSi (As := [.int y3, .int (0 : Int32), .int (F_model - (1 : Int32))]) (rest := []) ⟨hx, hb, hml, hown, hts⟩ (tX6_in l D cI cJ cG  s.heap y3 (0 : Int32) (F_model - (1 : Int32))  o25 e25) (va_cwS 3 hts gX6_right_X6_in rfl rfl rfl (by decide +kernel) ⟨Nat.le_of_ble_eq_true rfl, Nat.le_of_ble_eq_true rfl⟩) hK (hP.sub (ws' := []) [] rfl) rfl hl.1 rfl (lv_room (Nat.le_of_ble_eq_true rfl)) dX6_right_25 ⟨Nat.le_of_ble_eq_true rfl, Nat.le_of_ble_eq_true rfl⟩ hS (fun locs hS => ?_)
      refine lv_if_ne (tgt := 33) hx hb dX6_right_28 (by decide) (fun c28 => ?_) (fun c28 => ?_)
      · have hf := ifn hf c28
        refine lv_lload_n hx hb dX6_right_33 rfl (lv_at hl 1 rfl) ?_
        refine lv_lstore (lv' := [(4, .long y1), (0, .ref aF), (1, .long y1), (3, .int y3)]) hx hb dX6_right_34 hl (by decide) rfl (fun ls hl => ?_)
        refine lv_iconst (v := (0 : Int32)) hx hb dX6_right_36 (by decide) ?_
        refine lv_istore (lv' := [(6, .int (0 : Int32)), (4, .long y1), (0, .ref aF), (1, .long y1), (3, .int y3)]) hx hb dX6_right_37 hl (by decide) rfl (fun ls hl => ?_)
        refine lv_iconst (v := (-1 : Int32)) hx hb dX6_right_39 (by decide) ?_
        refine lv_istore (lv' := [(7, .int (-1 : Int32)), (6, .int (0 : Int32)), (4, .long y1), (0, .ref aF), (1, .long y1), (3, .int y3)]) hx hb dX6_right_40 hl (by decide) rfl (fun ls hl => ?_)
        refine lv_iconst (v := (0 : Int32)) hx hb dX6_right_42 (by decide) ?_
        refine lv_istore (lv' := [(8, .int (0 : Int32)), (7, .int (-1 : Int32)), (6, .int (0 : Int32)), (4, .long y1), (0, .ref aF), (1, .long y1), (3, .int y3)]) hx hb dX6_right_43 hl (by decide) rfl (fun ls hl => ?_)
        exact b_45 FU y3 y1 (0 : Int32) (-1 : Int32) (0 : Int32) hf _ _ hS (lv_sub hl [4, 6, 3, 2, 1, 0] rfl)
      · have hf := ifp hf c28
        refine lv_iconst (v := (-1 : Int32)) hx hb dX6_right_31 (by decide) ?_
        rw [hQQ]
        exact W.iret (v := (-1 : Int32)) hx hb hr (fun t ht hW => ⟨⟨(-1 : Int32), (), rfl, Option.some.inj hf, ht⟩, rF ht⟩) hS.2.2 dX6_right_32

set_option maxHeartbeats 4000000 in
set_option maxRecDepth 100000 in
theorem tX6_which (l : Launch) (D : va_G) (cI cJ cG : ClassId) (aF aF_kinds aF_vs aF_ws aF_roles aF_partner aF_lineOf aF_rank aF_behind aF_before aF_ways aF_inputOf aF_answer aF_values aF_printedRow aF_wasValues aF_wasPrinted aF_due aF_takenPlace aF_against : Nat) (Hs : Heap)  (F_lines : Int32) (F_model : Int32) (F_inputs : Int32) (F_size : Int32) (F_hints : Int32) (F_hasRun : Int32) (F_printedMany : Int32) (F_keptBits : Int32) (F_keptMany : Int32) (F_takenMany : Int32) (F_change : Int32) (F_who : Int32) (F_where : Int32) (F_h : Int64) (F_roles : (Nat → Int32)) (F_rank : (Nat → Int32)) (F_before : (Nat → Int32)) (F_ways : (Nat → Int64)) (F_answer : (Nat → Int32)) (out : Int64) (hf : fX6_which F_model F_size F_roles F_rank F_before F_ways F_answer = some out) : Met l yX6_which wsX6_which ({ frames := 0, cells := 0, slots := 0, locals := 0 }) (va_Pc [.ref aF] (rP D (tyL cI cJ cG) [(aF, .inr (6, [.int F_lines, .ref aF_kinds, .ref aF_vs, .ref aF_ws, .ref aF_roles, .ref aF_partner, .int F_model, .ref aF_lineOf, .ref aF_rank, .ref aF_behind, .ref aF_before, .ref aF_ways, .int F_inputs, .ref aF_inputOf, .int F_size, .ref aF_answer, .int F_hints, .int F_hasRun, .ref aF_values, .int F_printedMany, .ref aF_printedRow, .ref aF_wasValues, .ref aF_wasPrinted, .ref aF_due, .int F_keptBits, .int F_keptMany, .int F_takenMany, .ref aF_takenPlace, .ref aF_against, .int F_change, .int F_who, .int F_where, .long F_h])), (aF_roles, eI cI 16 F_roles), (aF_rank, eI cI 16 F_rank), (aF_before, eI cI 12 F_before), (aF_ways, eJ cJ 4096 F_ways), (aF_answer, eI cI 16 F_answer)] Hs)) (rQl out Hs) 0 0 (fun _ => False) := by
  refine Met.ofW (cc := cX6_which) (maxL := 7) (ret := (some .long)) (by decide) rfl ?_
  intro p e s m args below meth c s₁ B hml hv
  obtain ⟨rfl, rfl, hP, hK⟩ := hv
  have hx := B.exec
  have hb := B.bytes
  have hr := B.returns
  have hts := atoms_spec (ws := wsX6_which) B.pre
  have hown : s.vm.findClass RX6 = some m.cls := findClass_of_methodNamed B.named
  have hlocks := B.notSynchronized
  have iX6 : ∀ w ∈ wsX60, w ∈ wsX6_which := by decide +kernel
  have k19 := hts (.fieldLink RX6 19 "BlockMarkerModel" "roles" "[I") (by decide +kernel)
  have k28 := hts (.fieldLink RX6 28 "BlockMarkerModel" "rank" "[I") (by decide +kernel)
  have k34 := hts (.fieldLink RX6 34 "BlockMarkerModel" "before" "[I") (by decide +kernel)
  have k37 := hts (.fieldLink RX6 37 "BlockMarkerModel" "ways" "[J") (by decide +kernel)
  have k44 := hts (.fieldLink RX6 44 "BlockMarkerModel" "answer" "[I") (by decide +kernel)
  have k79 := hts (.fieldLink RX6 79 "BlockMarkerModel" "size" "I") (by decide +kernel)
  have k82 := hts (.fieldLink RX6 82 "BlockMarkerModel" "model" "I") (by decide +kernel)
  have q121 := hts (.constantLong RX6 121 (-1)) (by decide +kernel)
  have hS : va_S (fun _ => False) s.heap s.heap [] := va_S.rf
  have hl := lv_entry ([.ref aF]) (n := 7) (Nat.le_of_ble_eq_true rfl)
  rw [lg_entry_eq]
  generalize (lg_sl ([.ref aF]) ++ List.replicate (7 - (lg_sl ([.ref aF])).length) Slot.unset).toArray = ls at hl ⊢
  have hl : lv_has ls 7 [(0, .ref aF)] := hl
  generalize hQQ : MQ below _ _ s 0 0 _ = QQ
  replace hQQ := hQQ.symm
  have b_76 : ∀ (k22 : Int64 → Int32 → Int32 → Int32 → Int32 → (Nat → Int32) → (Nat → Int32) → (Nat → Int32) → (Nat → Int64) → (Nat → Int32) → Option (Int64)) (hk22 : ∀ (x1 : Int64) (x3 : Int32) (x4 : Int32), k22 x1 x3 x4 F_model F_size F_roles F_rank F_before F_ways F_answer = some out → ∀ (locs : List Loc) (ls : Array Slot), va_S (fun _ => False) s.heap s.heap locs → lv_has ls 7 [(0, .ref aF), (1, .long x1), (3, .int x3), (4, .int x4)] → W p l e (headSpec wsX6_which { frames := 0, cells := 0, slots := 0, locals := 0 }).room s m ([.ref aF] : List Value).toArray below meth c s.heap locs 0 0 QQ (F0 m 22 ls [])) (n : Nat), ∀ (x1 : Int64) (x3 : Int32) (x4 : Int32) (x5 : Int32) (x6 : Int32), fX6_which_h76 k22 n x1 x3 x4 x5 x6 F_model F_size F_roles F_rank F_before F_ways F_answer = some out → ∀ (locs : List Loc) (ls : Array Slot), va_S (fun _ => False) s.heap s.heap locs → lv_has ls 7 [(0, .ref aF), (1, .long x1), (3, .int x3), (4, .int x4), (5, .int x5), (6, .int x6)] → W p l e (headSpec wsX6_which { frames := 0, cells := 0, slots := 0, locals := 0 }).room s m ([.ref aF] : List Value).toArray below meth c s.heap locs 0 0 QQ (F0 m 76 ls []) := by
    intro k22 hk22 n
    induction n with
    | zero => intro x1 x3 x4 x5 x6 hf; exact nomatch (show (none : Option (Int64)) = some out from hf)
    | succ n ih =>
      intro x1 x3 x4 x5 x6 hf locs ls hS hl
      replace hf : uX6_which_h76 k22 (fX6_which_h76 k22 n) x1 x3 x4 x5 x6 F_model F_size F_roles F_rank F_before F_ways F_answer = some out := hf
      unfold uX6_which_h76 at hf
      refine lv_iload hx hb dX6_which_76 (lv_at hl 5 rfl) ?_
      refine lv_aload_n hx hb dX6_which_78 rfl (lv_at hl 0 rfl) ?_
      refine va_get (D := D) (ci := 6) (v := .ref aF_rank) (C := RX6) (T := TX6) (N := 33) hx hb hts iX6 hown hK.1 hP 0 rfl rfl 8 (by decide) k28 (fun _ h9 => h9) rfl dX6_which_79 ?_
      refine lv_iload hx hb dX6_which_82 (lv_at hl 4 rfl) ?_
      refine ckE hf (fun h84 hf => ?_)
      refine va_iald hx hb hK.1 hP 2 0 rfl rfl (inB_in h84) dX6_which_84 ?_
      refine lv_icmp_ge (tgt := 131) hx hb dX6_which_85 (by decide) (fun c85 => ?_) (fun c85 => ?_)
      · have hf := ifp hf c85
        refine lv_iload_n hx hb dX6_which_131 rfl (lv_at hl 2 rfl) ?_
        refine lv_iconst (v := (1 : Int32)) hx hb dX6_which_132 (by decide) ?_
        refine lv_aload_n hx hb dX6_which_133 rfl (lv_at hl 0 rfl) ?_
        refine va_get (D := D) (ci := 6) (v := .ref aF_rank) (C := RX6) (T := TX6) (N := 33) hx hb hts iX6 hown hK.1 hP 0 rfl rfl 8 (by decide) k28 (fun _ h9 => h9) rfl dX6_which_134 ?_
        refine lv_iload hx hb dX6_which_137 (lv_at hl 4 rfl) ?_
        refine ckE hf (fun h139 hf => ?_)
        refine va_iald hx hb hK.1 hP 2 0 rfl rfl (inB_in h139) dX6_which_139 ?_
        refine lv_ishl hx hb dX6_which_140 ?_
        refine lv_ior hx hb dX6_which_141 ?_
        refine lv_istore_n (lv' := [(3, .int (x3 ||| ((1 : Int32) <<< ((F_rank (x5).toNatClampNeg) &&& 31)))), (0, .ref aF), (1, .long x1), (4, .int x4), (5, .int x5), (6, .int x6)]) hx hb dX6_which_142 rfl hl (by decide) rfl (fun ls hl => ?_)
        refine lv_iinc (v := (x4 + (1 : Int32))) (lv' := [(4, .int (x4 + (1 : Int32))), (3, .int (x3 ||| ((1 : Int32) <<< ((F_rank (x5).toNatClampNeg) &&& 31)))), (0, .ref aF), (1, .long x1), (5, .int x5), (6, .int x6)]) hx hb dX6_which_143 hl (k := 3) rfl rfl (by decide) rfl (fun ls hl => ?_)
        refine lv_goto (tgt := 22) hx hb dX6_which_146 (by decide) ?_
        exact hk22 x1 (x3 ||| ((1 : Int32) <<< ((F_rank (x5).toNatClampNeg) &&& 31))) (x4 + (1 : Int32)) hf _ _ hS (lv_sub hl [2, 3, 1, 0] rfl)
      · have hf := ifn hf c85
        refine lv_iload_n hx hb dX6_which_88 rfl (lv_at hl 2 rfl) ?_
        refine lv_iload hx hb dX6_which_89 (lv_at hl 5 rfl) ?_
        refine lv_ishr hx hb dX6_which_91 ?_
        refine lv_iconst (v := (1 : Int32)) hx hb dX6_which_92 (by decide) ?_
        refine lv_iand hx hb dX6_which_93 ?_
        refine lv_if_ne (tgt := 125) hx hb dX6_which_94 (by decide) (fun c94 => ?_) (fun c94 => ?_)
        · have hf := ifn hf c94
          refine lv_iinc (v := (x6 + (1 : Int32))) (lv' := [(6, .int (x6 + (1 : Int32))), (0, .ref aF), (1, .long x1), (3, .int x3), (4, .int x4), (5, .int x5)]) hx hb dX6_which_125 hl (k := 5) rfl rfl (by decide) rfl (fun ls hl => ?_)
          refine lv_goto (tgt := 76) hx hb dX6_which_128 (by decide) ?_
          exact ih x1 x3 x4 x5 (x6 + (1 : Int32)) hf _ _ hS (lv_sub hl [1, 2, 3, 4, 5, 0] rfl)
        · have hf := ifp hf c94
          refine lv_aload_n hx hb dX6_which_97 rfl (lv_at hl 0 rfl) ?_
          refine va_get (D := D) (ci := 6) (v := .ref aF_before) (C := RX6) (T := TX6) (N := 33) hx hb hts iX6 hown hK.1 hP 0 rfl rfl 10 (by decide) k34 (fun _ h9 => h9) rfl dX6_which_98 ?_
          refine lv_iload hx hb dX6_which_101 (lv_at hl 5 rfl) ?_
          refine ckE hf (fun h103 hf => ?_)
          refine va_iald hx hb hK.1 hP 3 0 rfl rfl (inB_in h103) dX6_which_103 ?_
          refine lv_iload_n hx hb dX6_which_104 rfl (lv_at hl 2 rfl) ?_
          refine lv_iconst (v := (-1 : Int32)) hx hb dX6_which_105 (by decide) ?_
          refine lv_ixor hx hb dX6_which_106 ?_
          refine lv_iand hx hb dX6_which_107 ?_
          refine lv_if_ne (tgt := 125) hx hb dX6_which_108 (by decide) (fun c108 => ?_) (fun c108 => ?_)
          · have hf := ifn hf c108
            refine lv_iinc (v := (x6 + (1 : Int32))) (lv' := [(6, .int (x6 + (1 : Int32))), (0, .ref aF), (1, .long x1), (3, .int x3), (4, .int x4), (5, .int x5)]) hx hb dX6_which_125 hl (k := 5) rfl rfl (by decide) rfl (fun ls hl => ?_)
            refine lv_goto (tgt := 76) hx hb dX6_which_128 (by decide) ?_
            exact ih x1 x3 x4 x5 (x6 + (1 : Int32)) hf _ _ hS (lv_sub hl [1, 2, 3, 4, 5, 0] rfl)
          · have hf := ifp hf c108
            refine lv_lload_n hx hb dX6_which_111 rfl (lv_at hl 1 rfl) ?_
            refine lv_aload_n hx hb dX6_which_112 rfl (lv_at hl 0 rfl) ?_
            refine va_get (D := D) (ci := 6) (v := .ref aF_ways) (C := RX6) (T := TX6) (N := 33) hx hb hts iX6 hown hK.1 hP 0 rfl rfl 11 (by decide) k37 (fun _ h9 => h9) rfl dX6_which_113 ?_
            refine lv_iload_n hx hb dX6_which_116 rfl (lv_at hl 2 rfl) ?_
            refine lv_iconst (v := (1 : Int32)) hx hb dX6_which_117 (by decide) ?_
            refine lv_iload hx hb dX6_which_118 (lv_at hl 5 rfl) ?_
            refine lv_ishl hx hb dX6_which_120 ?_
            refine lv_ior hx hb dX6_which_121 ?_
            refine ckE hf (fun h122 hf => ?_)
            refine va_lald hx hb hK.1 hP 4 1 rfl rfl (inB_in h122) dX6_which_122 ?_
            refine lv_ladd hx hb dX6_which_123 ?_
            refine lv_lstore_n (lv' := [(1, .long (x1 + (F_ways ((x3 ||| ((1 : Int32) <<< (x6 &&& 31)))).toNatClampNeg))), (0, .ref aF), (3, .int x3), (4, .int x4), (5, .int x5), (6, .int x6)]) hx hb dX6_which_124 rfl hl (by decide) rfl (fun ls hl => ?_)
            refine lv_iinc (v := (x6 + (1 : Int32))) (lv' := [(6, .int (x6 + (1 : Int32))), (1, .long (x1 + (F_ways ((x3 ||| ((1 : Int32) <<< (x6 &&& 31)))).toNatClampNeg))), (0, .ref aF), (3, .int x3), (4, .int x4), (5, .int x5)]) hx hb dX6_which_125 hl (k := 5) rfl rfl (by decide) rfl (fun ls hl => ?_)
            refine lv_goto (tgt := 76) hx hb dX6_which_128 (by decide) ?_
            exact ih (x1 + (F_ways ((x3 ||| ((1 : Int32) <<< (x6 &&& 31)))).toNatClampNeg)) x3 x4 x5 (x6 + (1 : Int32)) hf _ _ hS (lv_sub hl [2, 1, 3, 4, 5, 0] rfl)
  have b_22 : ∀ (n : Nat), ∀ (x1 : Int64) (x3 : Int32) (x4 : Int32), fX6_which_h22  n x1 x3 x4 F_model F_size F_roles F_rank F_before F_ways F_answer = some out → ∀ (locs : List Loc) (ls : Array Slot), va_S (fun _ => False) s.heap s.heap locs → lv_has ls 7 [(0, .ref aF), (1, .long x1), (3, .int x3), (4, .int x4)] → W p l e (headSpec wsX6_which { frames := 0, cells := 0, slots := 0, locals := 0 }).room s m ([.ref aF] : List Value).toArray below meth c s.heap locs 0 0 QQ (F0 m 22 ls []) := by
    intro  n
    induction n with
    | zero => intro x1 x3 x4 hf; exact nomatch (show (none : Option (Int64)) = some out from hf)
    | succ n ih =>
      intro x1 x3 x4 hf locs ls hS hl
      replace hf : uX6_which_h22  (fX6_which_h22  n) x1 x3 x4 F_model F_size F_roles F_rank F_before F_ways F_answer = some out := hf
      unfold uX6_which_h22 at hf
      refine lv_iload hx hb dX6_which_22 (lv_at hl 3 rfl) ?_
      refine lv_aload_n hx hb dX6_which_24 rfl (lv_at hl 0 rfl) ?_
      refine va_get (D := D) (ci := 6) (v := .int F_size) (C := RX6) (T := TX6) (N := 33) hx hb hts iX6 hown hK.1 hP 0 rfl rfl 14 (by decide) k79 (fun _ h9 => h9) rfl dX6_which_25 ?_
      refine lv_icmp_ge (tgt := 149) hx hb dX6_which_28 (by decide) (fun c28 => ?_) (fun c28 => ?_)
      · have hf := ifp hf c28
        refine lv_lload_n hx hb dX6_which_149 rfl (lv_at hl 1 rfl) ?_
        rw [hQQ]
        exact W.lret (v := x1) hx hb hr (fun t ht hW => ⟨⟨x1, (), rfl, Option.some.inj hf, ht⟩, rF ht⟩) hS.2.2 dX6_which_150
      · have hf := ifn hf c28
        refine lv_aload_n hx hb dX6_which_31 rfl (lv_at hl 0 rfl) ?_
        refine va_get (D := D) (ci := 6) (v := .ref aF_answer) (C := RX6) (T := TX6) (N := 33) hx hb hts iX6 hown hK.1 hP 0 rfl rfl 15 (by decide) k44 (fun _ h9 => h9) rfl dX6_which_32 ?_
        refine lv_iload hx hb dX6_which_35 (lv_at hl 3 rfl) ?_
        refine ckE hf (fun h37 hf => ?_)
        refine va_iald hx hb hK.1 hP 5 0 rfl rfl (inB_in h37) dX6_which_37 ?_
        refine lv_istore (lv' := [(5, .int (F_answer (x4).toNatClampNeg)), (0, .ref aF), (1, .long x1), (3, .int x3), (4, .int x4)]) hx hb dX6_which_38 hl (by decide) rfl (fun ls hl => ?_)
        refine lv_aload_n hx hb dX6_which_40 rfl (lv_at hl 1 rfl) ?_
        refine va_get (D := D) (ci := 6) (v := .ref aF_roles) (C := RX6) (T := TX6) (N := 33) hx hb hts iX6 hown hK.1 hP 0 rfl rfl 4 (by decide) k19 (fun _ h9 => h9) rfl dX6_which_41 ?_
        refine lv_iload hx hb dX6_which_44 (lv_at hl 0 rfl) ?_
        refine ckE hf (fun h46 hf => ?_)
        refine va_iald hx hb hK.1 hP 1 0 rfl rfl (inB_in h46) dX6_which_46 ?_
        refine lv_if_ne (tgt := 69) hx hb dX6_which_47 (by decide) (fun c47 => ?_) (fun c47 => ?_)
        · have hf := ifn hf c47
          refine lv_ldc2 (v := (-1)) hx hb hown q121 dX6_which_69 ?_
          rw [hQQ]
          exact W.lret (v := ((-1) : Int64)) hx hb hr (fun t ht hW => ⟨⟨((-1) : Int64), (), rfl, Option.some.inj hf, ht⟩, rF ht⟩) hS.2.2 dX6_which_72
        · have hf := ifp hf c47
          refine lv_aload_n hx hb dX6_which_50 rfl (lv_at hl 1 rfl) ?_
          refine va_get (D := D) (ci := 6) (v := .ref aF_before) (C := RX6) (T := TX6) (N := 33) hx hb hts iX6 hown hK.1 hP 0 rfl rfl 10 (by decide) k34 (fun _ h9 => h9) rfl dX6_which_51 ?_
          refine lv_aload_n hx hb dX6_which_54 rfl (lv_at hl 1 rfl) ?_
          refine va_get (D := D) (ci := 6) (v := .ref aF_rank) (C := RX6) (T := TX6) (N := 33) hx hb hts iX6 hown hK.1 hP 0 rfl rfl 8 (by decide) k28 (fun _ h9 => h9) rfl dX6_which_55 ?_
          refine lv_iload hx hb dX6_which_58 (lv_at hl 0 rfl) ?_
          refine ckE hf (fun h60 hf => ?_)
          refine va_iald hx hb hK.1 hP 2 0 rfl rfl (inB_in h60) dX6_which_60 ?_
          refine ckE hf (fun h61 hf => ?_)
          refine va_iald hx hb hK.1 hP 3 0 rfl rfl (inB_in h61) dX6_which_61 ?_
          refine lv_iload_n hx hb dX6_which_62 rfl (lv_at hl 3 rfl) ?_
          refine lv_iconst (v := (-1 : Int32)) hx hb dX6_which_63 (by decide) ?_
          refine lv_ixor hx hb dX6_which_64 ?_
          refine lv_iand hx hb dX6_which_65 ?_
          refine lv_if_eq (tgt := 73) hx hb dX6_which_66 (by decide) (fun c66 => ?_) (fun c66 => ?_)
          · have hf := ifp hf c66
            refine lv_iconst (v := (0 : Int32)) hx hb dX6_which_73 (by decide) ?_
            refine lv_istore (lv' := [(6, .int (0 : Int32)), (5, .int (F_answer (x4).toNatClampNeg)), (0, .ref aF), (1, .long x1), (3, .int x3), (4, .int x4)]) hx hb dX6_which_74 hl (by decide) rfl (fun ls hl => ?_)
            exact b_76 (fX6_which_h22  n) ih FU x1 x3 x4 (F_answer (x4).toNatClampNeg) (0 : Int32) hf _ _ hS (lv_sub hl [2, 3, 4, 5, 1, 0] rfl)
          · have hf := ifn hf c66
            refine lv_ldc2 (v := (-1)) hx hb hown q121 dX6_which_69 ?_
            rw [hQQ]
            exact W.lret (v := ((-1) : Int64)) hx hb hr (fun t ht hW => ⟨⟨((-1) : Int64), (), rfl, Option.some.inj hf, ht⟩, rF ht⟩) hS.2.2 dX6_which_72
  unfold fX6_which at hf
  refine lv_aload_n hx hb dX6_which_0 rfl (lv_at hl 0 rfl) ?_
  refine va_get (D := D) (ci := 6) (v := .int F_size) (C := RX6) (T := TX6) (N := 33) hx hb hts iX6 hown hK.1 hP 0 rfl rfl 14 (by decide) k79 (fun _ h9 => h9) rfl dX6_which_1 ?_
  refine lv_aload_n hx hb dX6_which_4 rfl (lv_at hl 0 rfl) ?_
  refine va_get (D := D) (ci := 6) (v := .int F_model) (C := RX6) (T := TX6) (N := 33) hx hb hts iX6 hown hK.1 hP 0 rfl rfl 6 (by decide) k82 (fun _ h9 => h9) rfl dX6_which_5 ?_
  refine lv_icmp_eq (tgt := 15) hx hb dX6_which_8 (by decide) (fun c8 => ?_) (fun c8 => ?_)
  · have hf := ifp hf c8
    refine lv_lconst (v := 0) hx hb dX6_which_15 (by decide) ?_
    refine lv_lstore_n (lv' := [(1, .long (0 : Int64)), (0, .ref aF)]) hx hb dX6_which_16 rfl hl (by decide) rfl (fun ls hl => ?_)
    refine lv_iconst (v := (0 : Int32)) hx hb dX6_which_17 (by decide) ?_
    refine lv_istore_n (lv' := [(3, .int (0 : Int32)), (1, .long (0 : Int64)), (0, .ref aF)]) hx hb dX6_which_18 rfl hl (by decide) rfl (fun ls hl => ?_)
    refine lv_iconst (v := (0 : Int32)) hx hb dX6_which_19 (by decide) ?_
    refine lv_istore (lv' := [(4, .int (0 : Int32)), (3, .int (0 : Int32)), (1, .long (0 : Int64)), (0, .ref aF)]) hx hb dX6_which_20 hl (by decide) rfl (fun ls hl => ?_)
    exact b_22 FU (0 : Int64) (0 : Int32) (0 : Int32) hf _ _ hS (lv_sub hl [3, 2, 1, 0] rfl)
  · have hf := ifn hf c8
    refine lv_ldc2 (v := (-1)) hx hb hown q121 dX6_which_11 ?_
    rw [hQQ]
    exact W.lret (v := ((-1) : Int64)) hx hb hr (fun t ht hW => ⟨⟨((-1) : Int64), (), rfl, Option.some.inj hf, ht⟩, rF ht⟩) hS.2.2 dX6_which_14

set_option maxHeartbeats 4000000 in
set_option maxRecDepth 100000 in
theorem tX6_placeOf (l : Launch) (D : va_G) (cI cJ cG : ClassId) (aF aF_kinds aF_vs aF_ws aF_roles aF_partner aF_lineOf aF_rank aF_behind aF_before aF_ways aF_inputOf aF_answer aF_values aF_printedRow aF_wasValues aF_wasPrinted aF_due aF_takenPlace aF_against : Nat) (Hs : Heap) (y1 : Int32) (F_lines : Int32) (F_model : Int32) (F_inputs : Int32) (F_size : Int32) (F_hints : Int32) (F_hasRun : Int32) (F_printedMany : Int32) (F_keptBits : Int32) (F_keptMany : Int32) (F_takenMany : Int32) (F_change : Int32) (F_who : Int32) (F_where : Int32) (F_h : Int64) (F_answer : (Nat → Int32)) (out : Int32) (hf : fX6_placeOf y1 F_size F_answer = some out) : Met l yX6_placeOf wsX6_placeOf ({ frames := 0, cells := 0, slots := 0, locals := 0 }) (va_Pc [.ref aF, .int y1] (rP D (tyL cI cJ cG) [(aF, .inr (6, [.int F_lines, .ref aF_kinds, .ref aF_vs, .ref aF_ws, .ref aF_roles, .ref aF_partner, .int F_model, .ref aF_lineOf, .ref aF_rank, .ref aF_behind, .ref aF_before, .ref aF_ways, .int F_inputs, .ref aF_inputOf, .int F_size, .ref aF_answer, .int F_hints, .int F_hasRun, .ref aF_values, .int F_printedMany, .ref aF_printedRow, .ref aF_wasValues, .ref aF_wasPrinted, .ref aF_due, .int F_keptBits, .int F_keptMany, .int F_takenMany, .ref aF_takenPlace, .ref aF_against, .int F_change, .int F_who, .int F_where, .long F_h])), (aF_answer, eI cI 16 F_answer)] Hs)) (rQi out Hs) 0 0 (fun _ => False) := by
  refine Met.ofW (cc := cX6_placeOf) (maxL := 3) (ret := (some .int)) (by decide) rfl ?_
  intro p e s m args below meth c s₁ B hml hv
  obtain ⟨rfl, rfl, hP, hK⟩ := hv
  have hx := B.exec
  have hb := B.bytes
  have hr := B.returns
  have hts := atoms_spec (ws := wsX6_placeOf) B.pre
  have hown : s.vm.findClass RX6 = some m.cls := findClass_of_methodNamed B.named
  have hlocks := B.notSynchronized
  have iX6 : ∀ w ∈ wsX60, w ∈ wsX6_placeOf := by decide +kernel
  have k44 := hts (.fieldLink RX6 44 "BlockMarkerModel" "answer" "[I") (by decide +kernel)
  have k79 := hts (.fieldLink RX6 79 "BlockMarkerModel" "size" "I") (by decide +kernel)
  have hS : va_S (fun _ => False) s.heap s.heap [] := va_S.rf
  have hl := lv_entry ([.ref aF, .int y1]) (n := 3) (Nat.le_of_ble_eq_true rfl)
  rw [lg_entry_eq]
  generalize (lg_sl ([.ref aF, .int y1]) ++ List.replicate (3 - (lg_sl ([.ref aF, .int y1])).length) Slot.unset).toArray = ls at hl ⊢
  have hl : lv_has ls 3 [(0, .ref aF), (1, .int y1)] := hl
  generalize hQQ : MQ below _ _ s 0 0 _ = QQ
  replace hQQ := hQQ.symm
  have b_2 : ∀ (n : Nat), ∀ (x1 : Int32) (x2 : Int32), fX6_placeOf_h2  n x1 x2 F_size F_answer = some out → ∀ (locs : List Loc) (ls : Array Slot), va_S (fun _ => False) s.heap s.heap locs → lv_has ls 3 [(0, .ref aF), (1, .int x1), (2, .int x2)] → W p l e (headSpec wsX6_placeOf { frames := 0, cells := 0, slots := 0, locals := 0 }).room s m ([.ref aF, .int y1] : List Value).toArray below meth c s.heap locs 0 0 QQ (F0 m 2 ls []) := by
    intro  n
    induction n with
    | zero => intro x1 x2 hf; exact nomatch (show (none : Option (Int32)) = some out from hf)
    | succ n ih =>
      intro x1 x2 hf locs ls hS hl
      replace hf : uX6_placeOf_h2  (fX6_placeOf_h2  n) x1 x2 F_size F_answer = some out := hf
      unfold uX6_placeOf_h2 at hf
      refine lv_iload_n hx hb dX6_placeOf_2 rfl (lv_at hl 2 rfl) ?_
      refine lv_aload_n hx hb dX6_placeOf_3 rfl (lv_at hl 0 rfl) ?_
      refine va_get (D := D) (ci := 6) (v := .int F_size) (C := RX6) (T := TX6) (N := 33) hx hb hts iX6 hown hK.1 hP 0 rfl rfl 14 (by decide) k79 (fun _ h9 => h9) rfl dX6_placeOf_4 ?_
      refine lv_icmp_ge (tgt := 28) hx hb dX6_placeOf_7 (by decide) (fun c7 => ?_) (fun c7 => ?_)
      · have hf := ifp hf c7
        refine lv_iconst (v := (-1 : Int32)) hx hb dX6_placeOf_28 (by decide) ?_
        rw [hQQ]
        exact W.iret (v := (-1 : Int32)) hx hb hr (fun t ht hW => ⟨⟨(-1 : Int32), (), rfl, Option.some.inj hf, ht⟩, rF ht⟩) hS.2.2 dX6_placeOf_29
      · have hf := ifn hf c7
        refine lv_aload_n hx hb dX6_placeOf_10 rfl (lv_at hl 0 rfl) ?_
        refine va_get (D := D) (ci := 6) (v := .ref aF_answer) (C := RX6) (T := TX6) (N := 33) hx hb hts iX6 hown hK.1 hP 0 rfl rfl 15 (by decide) k44 (fun _ h9 => h9) rfl dX6_placeOf_11 ?_
        refine lv_iload_n hx hb dX6_placeOf_14 rfl (lv_at hl 2 rfl) ?_
        refine ckE hf (fun h15 hf => ?_)
        refine va_iald hx hb hK.1 hP 1 0 rfl rfl (inB_in h15) dX6_placeOf_15 ?_
        refine lv_iload_n hx hb dX6_placeOf_16 rfl (lv_at hl 1 rfl) ?_
        refine lv_icmp_ne (tgt := 22) hx hb dX6_placeOf_17 (by decide) (fun c17 => ?_) (fun c17 => ?_)
        · have hf := ifn hf c17
          refine lv_iinc (v := (x2 + (1 : Int32))) (lv' := [(2, .int (x2 + (1 : Int32))), (0, .ref aF), (1, .int x1)]) hx hb dX6_placeOf_22 hl (k := 2) rfl rfl (by decide) rfl (fun ls hl => ?_)
          refine lv_goto (tgt := 2) hx hb dX6_placeOf_25 (by decide) ?_
          exact ih x1 (x2 + (1 : Int32)) hf _ _ hS (lv_sub hl [1, 2, 0] rfl)
        · have hf := ifp hf c17
          refine lv_iload_n hx hb dX6_placeOf_20 rfl (lv_at hl 2 rfl) ?_
          rw [hQQ]
          exact W.iret (v := x2) hx hb hr (fun t ht hW => ⟨⟨x2, (), rfl, Option.some.inj hf, ht⟩, rF ht⟩) hS.2.2 dX6_placeOf_21
  unfold fX6_placeOf at hf
  refine lv_iconst (v := (0 : Int32)) hx hb dX6_placeOf_0 (by decide) ?_
  refine lv_istore_n (lv' := [(2, .int (0 : Int32)), (0, .ref aF), (1, .int y1)]) hx hb dX6_placeOf_1 rfl hl (by decide) rfl (fun ls hl => ?_)
  exact b_2 FU y1 (0 : Int32) hf _ _ hS (lv_sub hl [1, 2, 0] rfl)

set_option maxHeartbeats 4000000 in
set_option maxRecDepth 100000 in
theorem tX6_insert (l : Launch) (D : va_G) (cI cJ cG : ClassId) (aF aF_kinds aF_vs aF_ws aF_roles aF_partner aF_lineOf aF_rank aF_behind aF_before aF_ways aF_inputOf aF_answer aF_values aF_printedRow aF_wasValues aF_wasPrinted aF_due aF_takenPlace aF_against : Nat) (sz : Nat) (y1 : Int32) (y2 : Int32) (F_lines : Int32) (F_model : Int32) (F_inputs : Int32) (F_size : Int32) (F_hints : Int32) (F_hasRun : Int32) (F_printedMany : Int32) (F_keptBits : Int32) (F_keptMany : Int32) (F_takenMany : Int32) (F_change : Int32) (F_who : Int32) (F_where : Int32) (F_h : Int64) (F_answer : (Nat → Int32)) (out : Int32 × (Nat → Int32)) (hf : fX6_insert y1 y2 F_size F_answer = some out) : Met l yX6_insert wsX6_insert ({ frames := 0, cells := 0, slots := 0, locals := 0 }) (va_Pc [.ref aF, .int y1, .int y2] (wP D (tyL cI cJ cG) [(aF, .inr (6, [.int F_lines, .ref aF_kinds, .ref aF_vs, .ref aF_ws, .ref aF_roles, .ref aF_partner, .int F_model, .ref aF_lineOf, .ref aF_rank, .ref aF_behind, .ref aF_before, .ref aF_ways, .int F_inputs, .ref aF_inputOf, .int F_size, .ref aF_answer, .int F_hints, .int F_hasRun, .ref aF_values, .int F_printedMany, .ref aF_printedRow, .ref aF_wasValues, .ref aF_wasPrinted, .ref aF_due, .int F_keptBits, .int F_keptMany, .int F_takenMany, .ref aF_takenPlace, .ref aF_against, .int F_change, .int F_who, .int F_where, .long F_h])), (aF_answer, eI cI 16 F_answer)] sz)) (wQv D  [(aF, .inr (6, [.int F_lines, .ref aF_kinds, .ref aF_vs, .ref aF_ws, .ref aF_roles, .ref aF_partner, .int F_model, .ref aF_lineOf, .ref aF_rank, .ref aF_behind, .ref aF_before, .ref aF_ways, .int F_inputs, .ref aF_inputOf, .int F_size, .ref aF_answer, .int F_hints, .int F_hasRun, .ref aF_values, .int F_printedMany, .ref aF_printedRow, .ref aF_wasValues, .ref aF_wasPrinted, .ref aF_due, .int F_keptBits, .int F_keptMany, .int F_takenMany, .ref aF_takenPlace, .ref aF_against, .int F_change, .int F_who, .int F_where, .long F_h])), (aF_answer, eI cI 16 F_answer)] [(aF, .inr (6, [.int F_lines, .ref aF_kinds, .ref aF_vs, .ref aF_ws, .ref aF_roles, .ref aF_partner, .int F_model, .ref aF_lineOf, .ref aF_rank, .ref aF_behind, .ref aF_before, .ref aF_ways, .int F_inputs, .ref aF_inputOf, .int out.1, .ref aF_answer, .int F_hints, .int F_hasRun, .ref aF_values, .int F_printedMany, .ref aF_printedRow, .ref aF_wasValues, .ref aF_wasPrinted, .ref aF_due, .int F_keptBits, .int F_keptMany, .int F_takenMany, .ref aF_takenPlace, .ref aF_against, .int F_change, .int F_who, .int F_where, .long F_h])), (aF_answer, eI cI 16 out.2)] sz) 0 0 (va_A [(aF, .inr (6, [.int F_lines, .ref aF_kinds, .ref aF_vs, .ref aF_ws, .ref aF_roles, .ref aF_partner, .int F_model, .ref aF_lineOf, .ref aF_rank, .ref aF_behind, .ref aF_before, .ref aF_ways, .int F_inputs, .ref aF_inputOf, .int F_size, .ref aF_answer, .int F_hints, .int F_hasRun, .ref aF_values, .int F_printedMany, .ref aF_printedRow, .ref aF_wasValues, .ref aF_wasPrinted, .ref aF_due, .int F_keptBits, .int F_keptMany, .int F_takenMany, .ref aF_takenPlace, .ref aF_against, .int F_change, .int F_who, .int F_where, .long F_h])), (aF_answer, eI cI 16 F_answer)] sz) := by
  refine Met.ofW (cc := cX6_insert) (maxL := 4) (ret := none) (by decide) rfl ?_
  intro p e s m args below meth c s₁ B hml hv
  obtain ⟨rfl, hsz, hP, hK, hD0⟩ := hv
  have hx := B.exec
  have hb := B.bytes
  have hr := B.returns
  have hts := atoms_spec (ws := wsX6_insert) B.pre
  have hown : s.vm.findClass RX6 = some m.cls := findClass_of_methodNamed B.named
  have hlocks := B.notSynchronized
  have iX6 : ∀ w ∈ wsX60, w ∈ wsX6_insert := by decide +kernel
  have k44 := hts (.fieldLink RX6 44 "BlockMarkerModel" "answer" "[I") (by decide +kernel)
  have k79 := hts (.fieldLink RX6 79 "BlockMarkerModel" "size" "I") (by decide +kernel)
  subst hsz
  have hD := hD0.self (sz := s.heap.size)
  generalize hAe : va_A [(aF, .inr (6, [.int F_lines, .ref aF_kinds, .ref aF_vs, .ref aF_ws, .ref aF_roles, .ref aF_partner, .int F_model, .ref aF_lineOf, .ref aF_rank, .ref aF_behind, .ref aF_before, .ref aF_ways, .int F_inputs, .ref aF_inputOf, .int F_size, .ref aF_answer, .int F_hints, .int F_hasRun, .ref aF_values, .int F_printedMany, .ref aF_printedRow, .ref aF_wasValues, .ref aF_wasPrinted, .ref aF_due, .int F_keptBits, .int F_keptMany, .int F_takenMany, .ref aF_takenPlace, .ref aF_against, .int F_change, .int F_who, .int F_where, .long F_h])), (aF_answer, eI cI 16 F_answer)] s.heap.size = A at hD ⊢
  have hA : ∀ q : Nat, s.heap.size ≤ q → A q := fun q h => by rw [← hAe]; exact Or.inr h
  have hS : va_S A s.heap s.heap [] := va_S.rf
  have hl := lv_entry ([.ref aF, .int y1, .int y2]) (n := 4) (Nat.le_of_ble_eq_true rfl)
  rw [lg_entry_eq]
  generalize (lg_sl ([.ref aF, .int y1, .int y2]) ++ List.replicate (4 - (lg_sl ([.ref aF, .int y1, .int y2])).length) Slot.unset).toArray = ls at hl ⊢
  have hl : lv_has ls 4 [(0, .ref aF), (1, .int y1), (2, .int y2)] := hl
  generalize hQQ : MQ below _ _ s 0 0 _ = QQ
  replace hQQ := hQQ.symm
  have b_5 : ∀ (n : Nat), ∀ (x1 : Int32) (x2 : Int32) (x3 : Int32) (F_size : Int32) (F_answer : (Nat → Int32)), fX6_insert_h5  n x1 x2 x3 F_size F_answer = some out → ∀ (H : Heap) (locs : List Loc) (ls : Array Slot), va_P D vwCl [(aF, .inr (6, [.int F_lines, .ref aF_kinds, .ref aF_vs, .ref aF_ws, .ref aF_roles, .ref aF_partner, .int F_model, .ref aF_lineOf, .ref aF_rank, .ref aF_behind, .ref aF_before, .ref aF_ways, .int F_inputs, .ref aF_inputOf, .int F_size, .ref aF_answer, .int F_hints, .int F_hasRun, .ref aF_values, .int F_printedMany, .ref aF_printedRow, .ref aF_wasValues, .ref aF_wasPrinted, .ref aF_due, .int F_keptBits, .int F_keptMany, .int F_takenMany, .ref aF_takenPlace, .ref aF_against, .int F_change, .int F_who, .int F_where, .long F_h])), (aF_answer, eI cI 16 F_answer)] H → va_D A [(aF, .inr (6, [.int F_lines, .ref aF_kinds, .ref aF_vs, .ref aF_ws, .ref aF_roles, .ref aF_partner, .int F_model, .ref aF_lineOf, .ref aF_rank, .ref aF_behind, .ref aF_before, .ref aF_ways, .int F_inputs, .ref aF_inputOf, .int F_size, .ref aF_answer, .int F_hints, .int F_hasRun, .ref aF_values, .int F_printedMany, .ref aF_printedRow, .ref aF_wasValues, .ref aF_wasPrinted, .ref aF_due, .int F_keptBits, .int F_keptMany, .int F_takenMany, .ref aF_takenPlace, .ref aF_against, .int F_change, .int F_who, .int F_where, .long F_h])), (aF_answer, eI cI 16 F_answer)] → va_S A s.heap H locs → lv_has ls 4 [(0, .ref aF), (1, .int x1), (2, .int x2), (3, .int x3)] → W p l e (headSpec wsX6_insert { frames := 0, cells := 0, slots := 0, locals := 0 }).room s m ([.ref aF, .int y1, .int y2] : List Value).toArray below meth c H locs 0 0 QQ (F0 m 5 ls []) := by
    intro  n
    induction n with
    | zero => intro x1 x2 x3 F_size F_answer hf; exact nomatch (show (none : Option (Int32 × (Nat → Int32))) = some out from hf)
    | succ n ih =>
      intro x1 x2 x3 F_size F_answer hf H locs ls hP hD hS hl
      replace hf : uX6_insert_h5  (fX6_insert_h5  n) x1 x2 x3 F_size F_answer = some out := hf
      unfold uX6_insert_h5 at hf
      refine lv_iload_n hx hb dX6_insert_5 rfl (lv_at hl 3 rfl) ?_
      refine lv_iload_n hx hb dX6_insert_6 rfl (lv_at hl 2 rfl) ?_
      refine lv_icmp_le (tgt := 30) hx hb dX6_insert_7 (by decide) (fun c7 => ?_) (fun c7 => ?_)
      · have hf := ifp hf c7
        refine lv_aload_n hx hb dX6_insert_30 rfl (lv_at hl 0 rfl) ?_
        refine va_get (D := D) (ci := 6) (v := .ref aF_answer) (C := RX6) (T := TX6) (N := 33) hx hb hts iX6 hown hK.1 hP 0 rfl rfl 15 (by decide) k44 (fun _ h9 => h9) rfl dX6_insert_31 ?_
        refine lv_iload_n hx hb dX6_insert_34 rfl (lv_at hl 2 rfl) ?_
        refine lv_iload_n hx hb dX6_insert_35 rfl (lv_at hl 1 rfl) ?_
        refine ckE hf (fun h36 hf => ?_)
        refine va_iast hx hb hK.1 hP hD hS 1 0 rfl rfl (inB_in h36) dX6_insert_36 (fun H locs hP hD hS => ?_)
        have hP : va_P D vwCl [(aF, .inr (6, [.int F_lines, .ref aF_kinds, .ref aF_vs, .ref aF_ws, .ref aF_roles, .ref aF_partner, .int F_model, .ref aF_lineOf, .ref aF_rank, .ref aF_behind, .ref aF_before, .ref aF_ways, .int F_inputs, .ref aF_inputOf, .int F_size, .ref aF_answer, .int F_hints, .int F_hasRun, .ref aF_values, .int F_printedMany, .ref aF_printedRow, .ref aF_wasValues, .ref aF_wasPrinted, .ref aF_due, .int F_keptBits, .int F_keptMany, .int F_takenMany, .ref aF_takenPlace, .ref aF_against, .int F_change, .int F_who, .int F_where, .long F_h])), (aF_answer, eI cI 16 (upd F_answer (x2).toNatClampNeg x1))] H := hP
        have hD : va_D A [(aF, .inr (6, [.int F_lines, .ref aF_kinds, .ref aF_vs, .ref aF_ws, .ref aF_roles, .ref aF_partner, .int F_model, .ref aF_lineOf, .ref aF_rank, .ref aF_behind, .ref aF_before, .ref aF_ways, .int F_inputs, .ref aF_inputOf, .int F_size, .ref aF_answer, .int F_hints, .int F_hasRun, .ref aF_values, .int F_printedMany, .ref aF_printedRow, .ref aF_wasValues, .ref aF_wasPrinted, .ref aF_due, .int F_keptBits, .int F_keptMany, .int F_takenMany, .ref aF_takenPlace, .ref aF_against, .int F_change, .int F_who, .int F_where, .long F_h])), (aF_answer, eI cI 16 (upd F_answer (x2).toNatClampNeg x1))] := hD
        refine lv_aload_n hx hb dX6_insert_37 rfl (lv_at hl 0 rfl) ?_
        refine lv_dup hx hb dX6_insert_38 rfl ?_
        refine va_get (D := D) (ci := 6) (v := .int F_size) (C := RX6) (T := TX6) (N := 33) hx hb hts iX6 hown hK.1 hP 0 rfl rfl 14 (by decide) k79 (fun _ h9 => h9) rfl dX6_insert_39 ?_
        refine lv_iconst (v := (1 : Int32)) hx hb dX6_insert_42 (by decide) ?_
        refine lv_iadd hx hb dX6_insert_43 ?_
        refine va_put (D := D) (ci := 6) (v := .int (F_size + (1 : Int32))) (ty := .int) (C := RX6) (T := TX6) (N := 33) hx hb hts iX6 tyX6 tyX6_ok nmX6 hown hK.1 hP hD hS 0 rfl rfl 14 (by decide) k79 (fun _ h9 => h9) rfl (by decide +kernel) rfl rfl (Nat.le_of_ble_eq_true rfl) dX6_insert_44 (fun H locs hP hD hS => ?_)
        have hP : va_P D vwCl [(aF, .inr (6, [.int F_lines, .ref aF_kinds, .ref aF_vs, .ref aF_ws, .ref aF_roles, .ref aF_partner, .int F_model, .ref aF_lineOf, .ref aF_rank, .ref aF_behind, .ref aF_before, .ref aF_ways, .int F_inputs, .ref aF_inputOf, .int (F_size + (1 : Int32)), .ref aF_answer, .int F_hints, .int F_hasRun, .ref aF_values, .int F_printedMany, .ref aF_printedRow, .ref aF_wasValues, .ref aF_wasPrinted, .ref aF_due, .int F_keptBits, .int F_keptMany, .int F_takenMany, .ref aF_takenPlace, .ref aF_against, .int F_change, .int F_who, .int F_where, .long F_h])), (aF_answer, eI cI 16 (upd F_answer (x2).toNatClampNeg x1))] H := hP
        have hD : va_D A [(aF, .inr (6, [.int F_lines, .ref aF_kinds, .ref aF_vs, .ref aF_ws, .ref aF_roles, .ref aF_partner, .int F_model, .ref aF_lineOf, .ref aF_rank, .ref aF_behind, .ref aF_before, .ref aF_ways, .int F_inputs, .ref aF_inputOf, .int (F_size + (1 : Int32)), .ref aF_answer, .int F_hints, .int F_hasRun, .ref aF_values, .int F_printedMany, .ref aF_printedRow, .ref aF_wasValues, .ref aF_wasPrinted, .ref aF_due, .int F_keptBits, .int F_keptMany, .int F_takenMany, .ref aF_takenPlace, .ref aF_against, .int F_change, .int F_who, .int F_where, .long F_h])), (aF_answer, eI cI 16 (upd F_answer (x2).toNatClampNeg x1))] := hD
        rw [hQQ]
        exact W.vret hx hb hr (fun t ht hW => by rw [← Option.some.inj hf]; rw [← hAe] at hD hS; exact ⟨⟨(), rfl, trivial, by rw [ht]; exact hP, hD⟩, hS.F ht⟩) hS.2.2 dX6_insert_47
      · have hf := ifn hf c7
        refine lv_aload_n hx hb dX6_insert_10 rfl (lv_at hl 0 rfl) ?_
        refine va_get (D := D) (ci := 6) (v := .ref aF_answer) (C := RX6) (T := TX6) (N := 33) hx hb hts iX6 hown hK.1 hP 0 rfl rfl 15 (by decide) k44 (fun _ h9 => h9) rfl dX6_insert_11 ?_
        refine lv_iload_n hx hb dX6_insert_14 rfl (lv_at hl 3 rfl) ?_
        refine lv_aload_n hx hb dX6_insert_15 rfl (lv_at hl 0 rfl) ?_
        refine va_get (D := D) (ci := 6) (v := .ref aF_answer) (C := RX6) (T := TX6) (N := 33) hx hb hts iX6 hown hK.1 hP 0 rfl rfl 15 (by decide) k44 (fun _ h9 => h9) rfl dX6_insert_16 ?_
        refine lv_iload_n hx hb dX6_insert_19 rfl (lv_at hl 3 rfl) ?_
        refine lv_iconst (v := (1 : Int32)) hx hb dX6_insert_20 (by decide) ?_
        refine lv_isub hx hb dX6_insert_21 ?_
        refine ckE hf (fun h22 hf => ?_)
        refine va_iald hx hb hK.1 hP 1 0 rfl rfl (inB_in h22) dX6_insert_22 ?_
        refine ckE hf (fun h23 hf => ?_)
        refine va_iast hx hb hK.1 hP hD hS 1 0 rfl rfl (inB_in h23) dX6_insert_23 (fun H locs hP hD hS => ?_)
        have hP : va_P D vwCl [(aF, .inr (6, [.int F_lines, .ref aF_kinds, .ref aF_vs, .ref aF_ws, .ref aF_roles, .ref aF_partner, .int F_model, .ref aF_lineOf, .ref aF_rank, .ref aF_behind, .ref aF_before, .ref aF_ways, .int F_inputs, .ref aF_inputOf, .int F_size, .ref aF_answer, .int F_hints, .int F_hasRun, .ref aF_values, .int F_printedMany, .ref aF_printedRow, .ref aF_wasValues, .ref aF_wasPrinted, .ref aF_due, .int F_keptBits, .int F_keptMany, .int F_takenMany, .ref aF_takenPlace, .ref aF_against, .int F_change, .int F_who, .int F_where, .long F_h])), (aF_answer, eI cI 16 (upd F_answer (x3).toNatClampNeg (F_answer ((x3 - (1 : Int32))).toNatClampNeg)))] H := hP
        have hD : va_D A [(aF, .inr (6, [.int F_lines, .ref aF_kinds, .ref aF_vs, .ref aF_ws, .ref aF_roles, .ref aF_partner, .int F_model, .ref aF_lineOf, .ref aF_rank, .ref aF_behind, .ref aF_before, .ref aF_ways, .int F_inputs, .ref aF_inputOf, .int F_size, .ref aF_answer, .int F_hints, .int F_hasRun, .ref aF_values, .int F_printedMany, .ref aF_printedRow, .ref aF_wasValues, .ref aF_wasPrinted, .ref aF_due, .int F_keptBits, .int F_keptMany, .int F_takenMany, .ref aF_takenPlace, .ref aF_against, .int F_change, .int F_who, .int F_where, .long F_h])), (aF_answer, eI cI 16 (upd F_answer (x3).toNatClampNeg (F_answer ((x3 - (1 : Int32))).toNatClampNeg)))] := hD
        refine lv_iinc (v := (x3 + (-1 : Int32))) (lv' := [(3, .int (x3 + (-1 : Int32))), (0, .ref aF), (1, .int x1), (2, .int x2)]) hx hb dX6_insert_24 hl (k := 3) rfl rfl (by decide) rfl (fun ls hl => ?_)
        refine lv_goto (tgt := 5) hx hb dX6_insert_27 (by decide) ?_
        exact ih x1 x2 (x3 + (-1 : Int32)) F_size (upd F_answer (x3).toNatClampNeg (F_answer ((x3 - (1 : Int32))).toNatClampNeg)) hf _ _ _ hP hD hS (lv_sub hl [1, 2, 3, 0] rfl)
  generalize hHH : s.heap = H at hP ⊢
  have hS : va_S A s.heap H [] := by rw [← hHH]; exact va_S.rf
  generalize ([] : List Loc) = locs at hS ⊢
  unfold fX6_insert at hf
  refine lv_aload_n hx hb dX6_insert_0 rfl (lv_at hl 0 rfl) ?_
  refine va_get (D := D) (ci := 6) (v := .int F_size) (C := RX6) (T := TX6) (N := 33) hx hb hts iX6 hown hK.1 hP 0 rfl rfl 14 (by decide) k79 (fun _ h9 => h9) rfl dX6_insert_1 ?_
  refine lv_istore_n (lv' := [(3, .int F_size), (0, .ref aF), (1, .int y1), (2, .int y2)]) hx hb dX6_insert_4 rfl hl (by decide) rfl (fun ls hl => ?_)
  exact b_5 FU y1 y2 F_size F_size F_answer hf _ _ _ hP hD hS (lv_sub hl [1, 2, 3, 0] rfl)

set_option maxHeartbeats 4000000 in
set_option maxRecDepth 100000 in
theorem tX6_remove (l : Launch) (D : va_G) (cI cJ cG : ClassId) (aF aF_kinds aF_vs aF_ws aF_roles aF_partner aF_lineOf aF_rank aF_behind aF_before aF_ways aF_inputOf aF_answer aF_values aF_printedRow aF_wasValues aF_wasPrinted aF_due aF_takenPlace aF_against : Nat) (sz : Nat) (y1 : Int32) (F_lines : Int32) (F_model : Int32) (F_inputs : Int32) (F_size : Int32) (F_hints : Int32) (F_hasRun : Int32) (F_printedMany : Int32) (F_keptBits : Int32) (F_keptMany : Int32) (F_takenMany : Int32) (F_change : Int32) (F_who : Int32) (F_where : Int32) (F_h : Int64) (F_answer : (Nat → Int32)) (out : Int32 × Int32 × (Nat → Int32)) (hf : fX6_remove y1 F_size F_answer = some out) : Met l yX6_remove wsX6_remove ({ frames := 0, cells := 0, slots := 0, locals := 0 }) (va_Pc [.ref aF, .int y1] (wP D (tyL cI cJ cG) [(aF, .inr (6, [.int F_lines, .ref aF_kinds, .ref aF_vs, .ref aF_ws, .ref aF_roles, .ref aF_partner, .int F_model, .ref aF_lineOf, .ref aF_rank, .ref aF_behind, .ref aF_before, .ref aF_ways, .int F_inputs, .ref aF_inputOf, .int F_size, .ref aF_answer, .int F_hints, .int F_hasRun, .ref aF_values, .int F_printedMany, .ref aF_printedRow, .ref aF_wasValues, .ref aF_wasPrinted, .ref aF_due, .int F_keptBits, .int F_keptMany, .int F_takenMany, .ref aF_takenPlace, .ref aF_against, .int F_change, .int F_who, .int F_where, .long F_h])), (aF_answer, eI cI 16 F_answer)] sz)) (wQi D out.1 [(aF, .inr (6, [.int F_lines, .ref aF_kinds, .ref aF_vs, .ref aF_ws, .ref aF_roles, .ref aF_partner, .int F_model, .ref aF_lineOf, .ref aF_rank, .ref aF_behind, .ref aF_before, .ref aF_ways, .int F_inputs, .ref aF_inputOf, .int F_size, .ref aF_answer, .int F_hints, .int F_hasRun, .ref aF_values, .int F_printedMany, .ref aF_printedRow, .ref aF_wasValues, .ref aF_wasPrinted, .ref aF_due, .int F_keptBits, .int F_keptMany, .int F_takenMany, .ref aF_takenPlace, .ref aF_against, .int F_change, .int F_who, .int F_where, .long F_h])), (aF_answer, eI cI 16 F_answer)] [(aF, .inr (6, [.int F_lines, .ref aF_kinds, .ref aF_vs, .ref aF_ws, .ref aF_roles, .ref aF_partner, .int F_model, .ref aF_lineOf, .ref aF_rank, .ref aF_behind, .ref aF_before, .ref aF_ways, .int F_inputs, .ref aF_inputOf, .int out.2.1, .ref aF_answer, .int F_hints, .int F_hasRun, .ref aF_values, .int F_printedMany, .ref aF_printedRow, .ref aF_wasValues, .ref aF_wasPrinted, .ref aF_due, .int F_keptBits, .int F_keptMany, .int F_takenMany, .ref aF_takenPlace, .ref aF_against, .int F_change, .int F_who, .int F_where, .long F_h])), (aF_answer, eI cI 16 out.2.2)] sz) 0 0 (va_A [(aF, .inr (6, [.int F_lines, .ref aF_kinds, .ref aF_vs, .ref aF_ws, .ref aF_roles, .ref aF_partner, .int F_model, .ref aF_lineOf, .ref aF_rank, .ref aF_behind, .ref aF_before, .ref aF_ways, .int F_inputs, .ref aF_inputOf, .int F_size, .ref aF_answer, .int F_hints, .int F_hasRun, .ref aF_values, .int F_printedMany, .ref aF_printedRow, .ref aF_wasValues, .ref aF_wasPrinted, .ref aF_due, .int F_keptBits, .int F_keptMany, .int F_takenMany, .ref aF_takenPlace, .ref aF_against, .int F_change, .int F_who, .int F_where, .long F_h])), (aF_answer, eI cI 16 F_answer)] sz) := by
  refine Met.ofW (cc := cX6_remove) (maxL := 4) (ret := (some .int)) (by decide) rfl ?_
  intro p e s m args below meth c s₁ B hml hv
  obtain ⟨rfl, hsz, hP, hK, hD0⟩ := hv
  have hx := B.exec
  have hb := B.bytes
  have hr := B.returns
  have hts := atoms_spec (ws := wsX6_remove) B.pre
  have hown : s.vm.findClass RX6 = some m.cls := findClass_of_methodNamed B.named
  have hlocks := B.notSynchronized
  have iX6 : ∀ w ∈ wsX60, w ∈ wsX6_remove := by decide +kernel
  have k44 := hts (.fieldLink RX6 44 "BlockMarkerModel" "answer" "[I") (by decide +kernel)
  have k79 := hts (.fieldLink RX6 79 "BlockMarkerModel" "size" "I") (by decide +kernel)
  subst hsz
  have hD := hD0.self (sz := s.heap.size)
  generalize hAe : va_A [(aF, .inr (6, [.int F_lines, .ref aF_kinds, .ref aF_vs, .ref aF_ws, .ref aF_roles, .ref aF_partner, .int F_model, .ref aF_lineOf, .ref aF_rank, .ref aF_behind, .ref aF_before, .ref aF_ways, .int F_inputs, .ref aF_inputOf, .int F_size, .ref aF_answer, .int F_hints, .int F_hasRun, .ref aF_values, .int F_printedMany, .ref aF_printedRow, .ref aF_wasValues, .ref aF_wasPrinted, .ref aF_due, .int F_keptBits, .int F_keptMany, .int F_takenMany, .ref aF_takenPlace, .ref aF_against, .int F_change, .int F_who, .int F_where, .long F_h])), (aF_answer, eI cI 16 F_answer)] s.heap.size = A at hD ⊢
  have hA : ∀ q : Nat, s.heap.size ≤ q → A q := fun q h => by rw [← hAe]; exact Or.inr h
  have hS : va_S A s.heap s.heap [] := va_S.rf
  have hl := lv_entry ([.ref aF, .int y1]) (n := 4) (Nat.le_of_ble_eq_true rfl)
  rw [lg_entry_eq]
  generalize (lg_sl ([.ref aF, .int y1]) ++ List.replicate (4 - (lg_sl ([.ref aF, .int y1])).length) Slot.unset).toArray = ls at hl ⊢
  have hl : lv_has ls 4 [(0, .ref aF), (1, .int y1)] := hl
  generalize hQQ : MQ below _ _ s 0 0 _ = QQ
  replace hQQ := hQQ.symm
  have b_9 : ∀ (n : Nat), ∀ (x2 : Int32) (x3 : Int32) (F_size : Int32) (F_answer : (Nat → Int32)), fX6_remove_h9  n x2 x3 F_size F_answer = some out → ∀ (H : Heap) (locs : List Loc) (ls : Array Slot), va_P D vwCl [(aF, .inr (6, [.int F_lines, .ref aF_kinds, .ref aF_vs, .ref aF_ws, .ref aF_roles, .ref aF_partner, .int F_model, .ref aF_lineOf, .ref aF_rank, .ref aF_behind, .ref aF_before, .ref aF_ways, .int F_inputs, .ref aF_inputOf, .int F_size, .ref aF_answer, .int F_hints, .int F_hasRun, .ref aF_values, .int F_printedMany, .ref aF_printedRow, .ref aF_wasValues, .ref aF_wasPrinted, .ref aF_due, .int F_keptBits, .int F_keptMany, .int F_takenMany, .ref aF_takenPlace, .ref aF_against, .int F_change, .int F_who, .int F_where, .long F_h])), (aF_answer, eI cI 16 F_answer)] H → va_D A [(aF, .inr (6, [.int F_lines, .ref aF_kinds, .ref aF_vs, .ref aF_ws, .ref aF_roles, .ref aF_partner, .int F_model, .ref aF_lineOf, .ref aF_rank, .ref aF_behind, .ref aF_before, .ref aF_ways, .int F_inputs, .ref aF_inputOf, .int F_size, .ref aF_answer, .int F_hints, .int F_hasRun, .ref aF_values, .int F_printedMany, .ref aF_printedRow, .ref aF_wasValues, .ref aF_wasPrinted, .ref aF_due, .int F_keptBits, .int F_keptMany, .int F_takenMany, .ref aF_takenPlace, .ref aF_against, .int F_change, .int F_who, .int F_where, .long F_h])), (aF_answer, eI cI 16 F_answer)] → va_S A s.heap H locs → lv_has ls 4 [(0, .ref aF), (2, .int x2), (3, .int x3)] → W p l e (headSpec wsX6_remove { frames := 0, cells := 0, slots := 0, locals := 0 }).room s m ([.ref aF, .int y1] : List Value).toArray below meth c H locs 0 0 QQ (F0 m 9 ls []) := by
    intro  n
    induction n with
    | zero => intro x2 x3 F_size F_answer hf; exact nomatch (show (none : Option (Int32 × Int32 × (Nat → Int32))) = some out from hf)
    | succ n ih =>
      intro x2 x3 F_size F_answer hf H locs ls hP hD hS hl
      replace hf : uX6_remove_h9  (fX6_remove_h9  n) x2 x3 F_size F_answer = some out := hf
      unfold uX6_remove_h9 at hf
      refine lv_iload_n hx hb dX6_remove_9 rfl (lv_at hl 2 rfl) ?_
      refine lv_aload_n hx hb dX6_remove_10 rfl (lv_at hl 0 rfl) ?_
      refine va_get (D := D) (ci := 6) (v := .int F_size) (C := RX6) (T := TX6) (N := 33) hx hb hts iX6 hown hK.1 hP 0 rfl rfl 14 (by decide) k79 (fun _ h9 => h9) rfl dX6_remove_11 ?_
      refine lv_iconst (v := (1 : Int32)) hx hb dX6_remove_14 (by decide) ?_
      refine lv_isub hx hb dX6_remove_15 ?_
      refine lv_icmp_ge (tgt := 39) hx hb dX6_remove_16 (by decide) (fun c16 => ?_) (fun c16 => ?_)
      · have hf := ifp hf c16
        refine lv_aload_n hx hb dX6_remove_39 rfl (lv_at hl 0 rfl) ?_
        refine lv_dup hx hb dX6_remove_40 rfl ?_
        refine va_get (D := D) (ci := 6) (v := .int F_size) (C := RX6) (T := TX6) (N := 33) hx hb hts iX6 hown hK.1 hP 0 rfl rfl 14 (by decide) k79 (fun _ h9 => h9) rfl dX6_remove_41 ?_
        refine lv_iconst (v := (1 : Int32)) hx hb dX6_remove_44 (by decide) ?_
        refine lv_isub hx hb dX6_remove_45 ?_
        refine va_put (D := D) (ci := 6) (v := .int (F_size - (1 : Int32))) (ty := .int) (C := RX6) (T := TX6) (N := 33) hx hb hts iX6 tyX6 tyX6_ok nmX6 hown hK.1 hP hD hS 0 rfl rfl 14 (by decide) k79 (fun _ h9 => h9) rfl (by decide +kernel) rfl rfl (Nat.le_of_ble_eq_true rfl) dX6_remove_46 (fun H locs hP hD hS => ?_)
        have hP : va_P D vwCl [(aF, .inr (6, [.int F_lines, .ref aF_kinds, .ref aF_vs, .ref aF_ws, .ref aF_roles, .ref aF_partner, .int F_model, .ref aF_lineOf, .ref aF_rank, .ref aF_behind, .ref aF_before, .ref aF_ways, .int F_inputs, .ref aF_inputOf, .int (F_size - (1 : Int32)), .ref aF_answer, .int F_hints, .int F_hasRun, .ref aF_values, .int F_printedMany, .ref aF_printedRow, .ref aF_wasValues, .ref aF_wasPrinted, .ref aF_due, .int F_keptBits, .int F_keptMany, .int F_takenMany, .ref aF_takenPlace, .ref aF_against, .int F_change, .int F_who, .int F_where, .long F_h])), (aF_answer, eI cI 16 F_answer)] H := hP
        have hD : va_D A [(aF, .inr (6, [.int F_lines, .ref aF_kinds, .ref aF_vs, .ref aF_ws, .ref aF_roles, .ref aF_partner, .int F_model, .ref aF_lineOf, .ref aF_rank, .ref aF_behind, .ref aF_before, .ref aF_ways, .int F_inputs, .ref aF_inputOf, .int (F_size - (1 : Int32)), .ref aF_answer, .int F_hints, .int F_hasRun, .ref aF_values, .int F_printedMany, .ref aF_printedRow, .ref aF_wasValues, .ref aF_wasPrinted, .ref aF_due, .int F_keptBits, .int F_keptMany, .int F_takenMany, .ref aF_takenPlace, .ref aF_against, .int F_change, .int F_who, .int F_where, .long F_h])), (aF_answer, eI cI 16 F_answer)] := hD
        refine lv_iload_n hx hb dX6_remove_49 rfl (lv_at hl 1 rfl) ?_
        rw [hQQ]
        exact W.iret (v := x2) hx hb hr (fun t ht hW => by rw [← Option.some.inj hf]; rw [← hAe] at hD hS; exact ⟨⟨x2, (), rfl, rfl, by rw [ht]; exact hP, hD⟩, hS.F ht⟩) hS.2.2 dX6_remove_50
      · have hf := ifn hf c16
        refine lv_aload_n hx hb dX6_remove_19 rfl (lv_at hl 0 rfl) ?_
        refine va_get (D := D) (ci := 6) (v := .ref aF_answer) (C := RX6) (T := TX6) (N := 33) hx hb hts iX6 hown hK.1 hP 0 rfl rfl 15 (by decide) k44 (fun _ h9 => h9) rfl dX6_remove_20 ?_
        refine lv_iload_n hx hb dX6_remove_23 rfl (lv_at hl 2 rfl) ?_
        refine lv_aload_n hx hb dX6_remove_24 rfl (lv_at hl 0 rfl) ?_
        refine va_get (D := D) (ci := 6) (v := .ref aF_answer) (C := RX6) (T := TX6) (N := 33) hx hb hts iX6 hown hK.1 hP 0 rfl rfl 15 (by decide) k44 (fun _ h9 => h9) rfl dX6_remove_25 ?_
        refine lv_iload_n hx hb dX6_remove_28 rfl (lv_at hl 2 rfl) ?_
        refine lv_iconst (v := (1 : Int32)) hx hb dX6_remove_29 (by decide) ?_
        refine lv_iadd hx hb dX6_remove_30 ?_
        refine ckE hf (fun h31 hf => ?_)
        refine va_iald hx hb hK.1 hP 1 0 rfl rfl (inB_in h31) dX6_remove_31 ?_
        refine ckE hf (fun h32 hf => ?_)
        refine va_iast hx hb hK.1 hP hD hS 1 0 rfl rfl (inB_in h32) dX6_remove_32 (fun H locs hP hD hS => ?_)
        have hP : va_P D vwCl [(aF, .inr (6, [.int F_lines, .ref aF_kinds, .ref aF_vs, .ref aF_ws, .ref aF_roles, .ref aF_partner, .int F_model, .ref aF_lineOf, .ref aF_rank, .ref aF_behind, .ref aF_before, .ref aF_ways, .int F_inputs, .ref aF_inputOf, .int F_size, .ref aF_answer, .int F_hints, .int F_hasRun, .ref aF_values, .int F_printedMany, .ref aF_printedRow, .ref aF_wasValues, .ref aF_wasPrinted, .ref aF_due, .int F_keptBits, .int F_keptMany, .int F_takenMany, .ref aF_takenPlace, .ref aF_against, .int F_change, .int F_who, .int F_where, .long F_h])), (aF_answer, eI cI 16 (upd F_answer (x3).toNatClampNeg (F_answer ((x3 + (1 : Int32))).toNatClampNeg)))] H := hP
        have hD : va_D A [(aF, .inr (6, [.int F_lines, .ref aF_kinds, .ref aF_vs, .ref aF_ws, .ref aF_roles, .ref aF_partner, .int F_model, .ref aF_lineOf, .ref aF_rank, .ref aF_behind, .ref aF_before, .ref aF_ways, .int F_inputs, .ref aF_inputOf, .int F_size, .ref aF_answer, .int F_hints, .int F_hasRun, .ref aF_values, .int F_printedMany, .ref aF_printedRow, .ref aF_wasValues, .ref aF_wasPrinted, .ref aF_due, .int F_keptBits, .int F_keptMany, .int F_takenMany, .ref aF_takenPlace, .ref aF_against, .int F_change, .int F_who, .int F_where, .long F_h])), (aF_answer, eI cI 16 (upd F_answer (x3).toNatClampNeg (F_answer ((x3 + (1 : Int32))).toNatClampNeg)))] := hD
        refine lv_iinc (v := (x3 + (1 : Int32))) (lv' := [(3, .int (x3 + (1 : Int32))), (0, .ref aF), (2, .int x2)]) hx hb dX6_remove_33 hl (k := 2) rfl rfl (by decide) rfl (fun ls hl => ?_)
        refine lv_goto (tgt := 9) hx hb dX6_remove_36 (by decide) ?_
        exact ih x2 (x3 + (1 : Int32)) F_size (upd F_answer (x3).toNatClampNeg (F_answer ((x3 + (1 : Int32))).toNatClampNeg)) hf _ _ _ hP hD hS (lv_sub hl [1, 2, 0] rfl)
  generalize hHH : s.heap = H at hP ⊢
  have hS : va_S A s.heap H [] := by rw [← hHH]; exact va_S.rf
  generalize ([] : List Loc) = locs at hS ⊢
  unfold fX6_remove at hf
  refine lv_aload_n hx hb dX6_remove_0 rfl (lv_at hl 0 rfl) ?_
  refine va_get (D := D) (ci := 6) (v := .ref aF_answer) (C := RX6) (T := TX6) (N := 33) hx hb hts iX6 hown hK.1 hP 0 rfl rfl 15 (by decide) k44 (fun _ h9 => h9) rfl dX6_remove_1 ?_
  refine lv_iload_n hx hb dX6_remove_4 rfl (lv_at hl 1 rfl) ?_
  refine ckE hf (fun h5 hf => ?_)
  refine va_iald hx hb hK.1 hP 1 0 rfl rfl (inB_in h5) dX6_remove_5 ?_
  refine lv_istore_n (lv' := [(2, .int (F_answer (y1).toNatClampNeg)), (0, .ref aF), (1, .int y1)]) hx hb dX6_remove_6 rfl hl (by decide) rfl (fun ls hl => ?_)
  refine lv_iload_n hx hb dX6_remove_7 rfl (lv_at hl 2 rfl) ?_
  refine lv_istore_n (lv' := [(3, .int y1), (2, .int (F_answer (y1).toNatClampNeg)), (0, .ref aF), (1, .int y1)]) hx hb dX6_remove_8 rfl hl (by decide) rfl (fun ls hl => ?_)
  exact b_9 FU (F_answer (y1).toNatClampNeg) y1 F_size F_answer hf _ _ _ hP hD hS (lv_sub hl [2, 1, 0] rfl)

set_option maxHeartbeats 4000000 in
set_option maxRecDepth 100000 in
theorem tX6_lay (l : Launch) (D : va_G) (cI cJ cG : ClassId) (aF aF_kinds aF_vs aF_ws aF_roles aF_partner aF_lineOf aF_rank aF_behind aF_before aF_ways aF_inputOf aF_answer aF_values aF_printedRow aF_wasValues aF_wasPrinted aF_due aF_takenPlace aF_against : Nat) (sz : Nat) (y1 : Int32) (y2 : Int32) (F_lines : Int32) (F_model : Int32) (F_inputs : Int32) (F_size : Int32) (F_hints : Int32) (F_hasRun : Int32) (F_printedMany : Int32) (F_keptBits : Int32) (F_keptMany : Int32) (F_takenMany : Int32) (F_change : Int32) (F_who : Int32) (F_where : Int32) (F_h : Int64) (F_answer : (Nat → Int32)) (out : Int32 × Int32 × (Nat → Int32)) (hf : fX6_lay y1 y2 F_lines F_size F_answer = some out) : Met l yX6_lay wsX6_lay ({ frames := 2, cells := 0, slots := 0, locals := 43 }) (va_Pc [.ref aF, .int y1, .int y2] (wP D (tyL cI cJ cG) [(aF, .inr (6, [.int F_lines, .ref aF_kinds, .ref aF_vs, .ref aF_ws, .ref aF_roles, .ref aF_partner, .int F_model, .ref aF_lineOf, .ref aF_rank, .ref aF_behind, .ref aF_before, .ref aF_ways, .int F_inputs, .ref aF_inputOf, .int F_size, .ref aF_answer, .int F_hints, .int F_hasRun, .ref aF_values, .int F_printedMany, .ref aF_printedRow, .ref aF_wasValues, .ref aF_wasPrinted, .ref aF_due, .int F_keptBits, .int F_keptMany, .int F_takenMany, .ref aF_takenPlace, .ref aF_against, .int F_change, .int F_who, .int F_where, .long F_h])), (aF_answer, eI cI 16 F_answer)] sz)) (wQi D out.1 [(aF, .inr (6, [.int F_lines, .ref aF_kinds, .ref aF_vs, .ref aF_ws, .ref aF_roles, .ref aF_partner, .int F_model, .ref aF_lineOf, .ref aF_rank, .ref aF_behind, .ref aF_before, .ref aF_ways, .int F_inputs, .ref aF_inputOf, .int F_size, .ref aF_answer, .int F_hints, .int F_hasRun, .ref aF_values, .int F_printedMany, .ref aF_printedRow, .ref aF_wasValues, .ref aF_wasPrinted, .ref aF_due, .int F_keptBits, .int F_keptMany, .int F_takenMany, .ref aF_takenPlace, .ref aF_against, .int F_change, .int F_who, .int F_where, .long F_h])), (aF_answer, eI cI 16 F_answer)] [(aF, .inr (6, [.int F_lines, .ref aF_kinds, .ref aF_vs, .ref aF_ws, .ref aF_roles, .ref aF_partner, .int F_model, .ref aF_lineOf, .ref aF_rank, .ref aF_behind, .ref aF_before, .ref aF_ways, .int F_inputs, .ref aF_inputOf, .int out.2.1, .ref aF_answer, .int F_hints, .int F_hasRun, .ref aF_values, .int F_printedMany, .ref aF_printedRow, .ref aF_wasValues, .ref aF_wasPrinted, .ref aF_due, .int F_keptBits, .int F_keptMany, .int F_takenMany, .ref aF_takenPlace, .ref aF_against, .int F_change, .int F_who, .int F_where, .long F_h])), (aF_answer, eI cI 16 out.2.2)] sz) 0 0 (va_A [(aF, .inr (6, [.int F_lines, .ref aF_kinds, .ref aF_vs, .ref aF_ws, .ref aF_roles, .ref aF_partner, .int F_model, .ref aF_lineOf, .ref aF_rank, .ref aF_behind, .ref aF_before, .ref aF_ways, .int F_inputs, .ref aF_inputOf, .int F_size, .ref aF_answer, .int F_hints, .int F_hasRun, .ref aF_values, .int F_printedMany, .ref aF_printedRow, .ref aF_wasValues, .ref aF_wasPrinted, .ref aF_due, .int F_keptBits, .int F_keptMany, .int F_takenMany, .ref aF_takenPlace, .ref aF_against, .int F_change, .int F_who, .int F_where, .long F_h])), (aF_answer, eI cI 16 F_answer)] sz) := by
  refine Met.ofW (cc := cX6_lay) (maxL := 3) (ret := (some .int)) (by decide) rfl ?_
  intro p e s m args below meth c s₁ B hml hv
  obtain ⟨rfl, hsz, hP, hK, hD0⟩ := hv
  have hx := B.exec
  have hb := B.bytes
  have hr := B.returns
  have hts := atoms_spec (ws := wsX6_lay) B.pre
  have hown : s.vm.findClass RX6 = some m.cls := findClass_of_methodNamed B.named
  have hlocks := B.notSynchronized
  have iX6 : ∀ w ∈ wsX60, w ∈ wsX6_lay := by decide +kernel
  have k79 := hts (.fieldLink RX6 79 "BlockMarkerModel" "size" "I") (by decide +kernel)
  subst hsz
  have hD := hD0.self (sz := s.heap.size)
  generalize hAe : va_A [(aF, .inr (6, [.int F_lines, .ref aF_kinds, .ref aF_vs, .ref aF_ws, .ref aF_roles, .ref aF_partner, .int F_model, .ref aF_lineOf, .ref aF_rank, .ref aF_behind, .ref aF_before, .ref aF_ways, .int F_inputs, .ref aF_inputOf, .int F_size, .ref aF_answer, .int F_hints, .int F_hasRun, .ref aF_values, .int F_printedMany, .ref aF_printedRow, .ref aF_wasValues, .ref aF_wasPrinted, .ref aF_due, .int F_keptBits, .int F_keptMany, .int F_takenMany, .ref aF_takenPlace, .ref aF_against, .int F_change, .int F_who, .int F_where, .long F_h])), (aF_answer, eI cI 16 F_answer)] s.heap.size = A at hD ⊢
  have hA : ∀ q : Nat, s.heap.size ≤ q → A q := fun q h => by rw [← hAe]; exact Or.inr h
  have hS : va_S A s.heap s.heap [] := va_S.rf
  have hl := lv_entry ([.ref aF, .int y1, .int y2]) (n := 3) (Nat.le_of_ble_eq_true rfl)
  rw [lg_entry_eq]
  generalize (lg_sl ([.ref aF, .int y1, .int y2]) ++ List.replicate (3 - (lg_sl ([.ref aF, .int y1, .int y2])).length) Slot.unset).toArray = ls at hl ⊢
  have hl : lv_has ls 3 [(0, .ref aF), (1, .int y1), (2, .int y2)] := hl
  generalize hQQ : MQ below _ _ s 0 0 _ = QQ
  replace hQQ := hQQ.symm
  generalize hHH : s.heap = H at hP ⊢
  have hS : va_S A s.heap H [] := by rw [← hHH]; exact va_S.rf
  generalize ([] : List Loc) = locs at hS ⊢
  unfold fX6_lay at hf
  refine lv_aload_n hx hb dX6_lay_0 rfl (lv_at hl 0 rfl) ?_
  refine lv_iload_n hx hb dX6_lay_1 rfl (lv_at hl 1 rfl) ?_
  refine bnd hf (fun o2 e2 hf => ?_)
  refine rdVi (As := [.int y1]) (rest := []) ⟨hx, hb, hml, hown, hts⟩ (tX6_isLine l D cI cJ cG aF aF_kinds aF_vs aF_ws aF_roles aF_partner aF_lineOf aF_rank aF_behind aF_before aF_ways aF_inputOf aF_answer aF_values aF_printedRow aF_wasValues aF_wasPrinted aF_due aF_takenPlace aF_against H y1 F_lines F_model F_inputs F_size F_hints F_hasRun F_printedMany F_keptBits F_keptMany F_takenMany F_change F_who F_where F_h o2 e2) (cwV 1 hts gX6_lay_X6_isLine rfl rfl rfl (by decide +kernel) ⟨Nat.le_of_ble_eq_true rfl, Nat.le_of_ble_eq_true rfl⟩) (va_recv (ci := 6) (q0 := 0) hK.1 hP rfl rfl) hK (hP.sub (ws' := [(aF, .inr (6, [.int F_lines, .ref aF_kinds, .ref aF_vs, .ref aF_ws, .ref aF_roles, .ref aF_partner, .int F_model, .ref aF_lineOf, .ref aF_rank, .ref aF_behind, .ref aF_before, .ref aF_ways, .int F_inputs, .ref aF_inputOf, .int F_size, .ref aF_answer, .int F_hints, .int F_hasRun, .ref aF_values, .int F_printedMany, .ref aF_printedRow, .ref aF_wasValues, .ref aF_wasPrinted, .ref aF_due, .int F_keptBits, .int F_keptMany, .int F_takenMany, .ref aF_takenPlace, .ref aF_against, .int F_change, .int F_who, .int F_where, .long F_h]))]) [0] rfl) rfl hl.1 rfl (lv_room (Nat.le_of_ble_eq_true rfl)) dX6_lay_2 ⟨Nat.le_of_ble_eq_true rfl, Nat.le_of_ble_eq_true rfl⟩ hS (fun locs hS => ?_)
  refine lv_if_ne (tgt := 11) hx hb dX6_lay_5 (by decide) (fun c5 => ?_) (fun c5 => ?_)
  · have hf := ifn hf c5
    refine lv_iload_n hx hb dX6_lay_11 rfl (lv_at hl 2 rfl) ?_
    refine lv_iconst (v := (0 : Int32)) hx hb dX6_lay_12 (by decide) ?_
    refine lv_aload_n hx hb dX6_lay_13 rfl (lv_at hl 0 rfl) ?_
    refine va_get (D := D) (ci := 6) (v := .int F_size) (C := RX6) (T := TX6) (N := 33) hx hb hts iX6 hown hK.1 hP 0 rfl rfl 14 (by decide) k79 (fun _ h9 => h9) rfl dX6_lay_14 ?_
    refine bnd hf (fun o17 e17 hf => ?_)
    refine rdSi (As := [.int y2, .int (0 : Int32), .int F_size]) (rest := []) ⟨hx, hb, hml, hown, hts⟩ (tX6_in l D cI cJ cG  H y2 (0 : Int32) F_size  o17 e17) (va_cwS 3 hts gX6_lay_X6_in rfl rfl rfl (by decide +kernel) ⟨Nat.le_of_ble_eq_true rfl, Nat.le_of_ble_eq_true rfl⟩) hK (hP.sub (ws' := []) [] rfl) rfl hl.1 rfl (lv_room (Nat.le_of_ble_eq_true rfl)) dX6_lay_17 ⟨Nat.le_of_ble_eq_true rfl, Nat.le_of_ble_eq_true rfl⟩ hS (fun locs hS => ?_)
    refine lv_if_ne (tgt := 26) hx hb dX6_lay_20 (by decide) (fun c20 => ?_) (fun c20 => ?_)
    · have hf := ifn hf c20
      refine lv_aload_n hx hb dX6_lay_26 rfl (lv_at hl 0 rfl) ?_
      refine lv_iload_n hx hb dX6_lay_27 rfl (lv_at hl 1 rfl) ?_
      refine bnd hf (fun o28 e28 hf => ?_)
      refine rdVi (As := [.int y1]) (rest := []) ⟨hx, hb, hml, hown, hts⟩ (tX6_placeOf l D cI cJ cG aF aF_kinds aF_vs aF_ws aF_roles aF_partner aF_lineOf aF_rank aF_behind aF_before aF_ways aF_inputOf aF_answer aF_values aF_printedRow aF_wasValues aF_wasPrinted aF_due aF_takenPlace aF_against H y1 F_lines F_model F_inputs F_size F_hints F_hasRun F_printedMany F_keptBits F_keptMany F_takenMany F_change F_who F_where F_h F_answer o28 e28) (cwV 1 hts gX6_lay_X6_placeOf rfl rfl rfl (by decide +kernel) ⟨Nat.le_of_ble_eq_true rfl, Nat.le_of_ble_eq_true rfl⟩) (va_recv (ci := 6) (q0 := 0) hK.1 hP rfl rfl) hK (hP.sub (ws' := [(aF, .inr (6, [.int F_lines, .ref aF_kinds, .ref aF_vs, .ref aF_ws, .ref aF_roles, .ref aF_partner, .int F_model, .ref aF_lineOf, .ref aF_rank, .ref aF_behind, .ref aF_before, .ref aF_ways, .int F_inputs, .ref aF_inputOf, .int F_size, .ref aF_answer, .int F_hints, .int F_hasRun, .ref aF_values, .int F_printedMany, .ref aF_printedRow, .ref aF_wasValues, .ref aF_wasPrinted, .ref aF_due, .int F_keptBits, .int F_keptMany, .int F_takenMany, .ref aF_takenPlace, .ref aF_against, .int F_change, .int F_who, .int F_where, .long F_h])), (aF_answer, eI cI 16 F_answer)]) [0, 1] rfl) rfl hl.1 rfl (lv_room (Nat.le_of_ble_eq_true rfl)) dX6_lay_28 ⟨Nat.le_of_ble_eq_true rfl, Nat.le_of_ble_eq_true rfl⟩ hS (fun locs hS => ?_)
      refine lv_iconst (v := (-1 : Int32)) hx hb dX6_lay_31 (by decide) ?_
      refine lv_icmp_eq (tgt := 38) hx hb dX6_lay_32 (by decide) (fun c32 => ?_) (fun c32 => ?_)
      · have hf := ifp hf c32
        refine lv_aload_n hx hb dX6_lay_38 rfl (lv_at hl 0 rfl) ?_
        refine lv_iload_n hx hb dX6_lay_39 rfl (lv_at hl 1 rfl) ?_
        refine lv_iload_n hx hb dX6_lay_40 rfl (lv_at hl 2 rfl) ?_
        refine bnd hf (fun o41 e41 hf => ?_)
        refine wrVv (As := [.int y1, .int y2]) (rest := []) (cw := [(aF, .inr (6, [.int F_lines, .ref aF_kinds, .ref aF_vs, .ref aF_ws, .ref aF_roles, .ref aF_partner, .int F_model, .ref aF_lineOf, .ref aF_rank, .ref aF_behind, .ref aF_before, .ref aF_ways, .int F_inputs, .ref aF_inputOf, .int F_size, .ref aF_answer, .int F_hints, .int F_hasRun, .ref aF_values, .int F_printedMany, .ref aF_printedRow, .ref aF_wasValues, .ref aF_wasPrinted, .ref aF_due, .int F_keptBits, .int F_keptMany, .int F_takenMany, .ref aF_takenPlace, .ref aF_against, .int F_change, .int F_who, .int F_where, .long F_h])), (aF_answer, eI cI 16 F_answer)]) (cw' := [(aF, .inr (6, [.int F_lines, .ref aF_kinds, .ref aF_vs, .ref aF_ws, .ref aF_roles, .ref aF_partner, .int F_model, .ref aF_lineOf, .ref aF_rank, .ref aF_behind, .ref aF_before, .ref aF_ways, .int F_inputs, .ref aF_inputOf, .int o41.1, .ref aF_answer, .int F_hints, .int F_hasRun, .ref aF_values, .int F_printedMany, .ref aF_printedRow, .ref aF_wasValues, .ref aF_wasPrinted, .ref aF_due, .int F_keptBits, .int F_keptMany, .int F_takenMany, .ref aF_takenPlace, .ref aF_against, .int F_change, .int F_who, .int F_where, .long F_h])), (aF_answer, eI cI 16 o41.2)]) (wr := []) (ws2 := [(aF, .inr (6, [.int F_lines, .ref aF_kinds, .ref aF_vs, .ref aF_ws, .ref aF_roles, .ref aF_partner, .int F_model, .ref aF_lineOf, .ref aF_rank, .ref aF_behind, .ref aF_before, .ref aF_ways, .int F_inputs, .ref aF_inputOf, .int o41.1, .ref aF_answer, .int F_hints, .int F_hasRun, .ref aF_values, .int F_printedMany, .ref aF_printedRow, .ref aF_wasValues, .ref aF_wasPrinted, .ref aF_due, .int F_keptBits, .int F_keptMany, .int F_takenMany, .ref aF_takenPlace, .ref aF_against, .int F_change, .int F_who, .int F_where, .long F_h])), (aF_answer, eI cI 16 o41.2)]) ⟨hx, hb, hml, hown, hts⟩ (tX6_insert l D cI cJ cG aF aF_kinds aF_vs aF_ws aF_roles aF_partner aF_lineOf aF_rank aF_behind aF_before aF_ways aF_inputOf aF_answer aF_values aF_printedRow aF_wasValues aF_wasPrinted aF_due aF_takenPlace aF_against H.size y1 y2 F_lines F_model F_inputs F_size F_hints F_hasRun F_printedMany F_keptBits F_keptMany F_takenMany F_change F_who F_where F_h F_answer o41 e41) (cwV 2 hts gX6_lay_X6_insert rfl rfl rfl (by decide +kernel) ⟨Nat.le_of_ble_eq_true rfl, Nat.le_of_ble_eq_true rfl⟩) (va_recv (ci := 6) (q0 := 0) hK.1 hP rfl rfl) hK hP hD hS hA [0, 1] [] [0, 1] rfl rfl rfl (by decide) (by decide) (by decide) (by decide) rfl hl.1 rfl (lv_room (Nat.le_of_ble_eq_true rfl)) dX6_lay_41 ⟨Nat.le_of_ble_eq_true rfl, Nat.le_of_ble_eq_true rfl⟩ (fun H locs hP hD hS => ?_)
        refine lv_aload_n hx hb dX6_lay_44 rfl (lv_at hl 0 rfl) ?_
        refine va_get (D := D) (ci := 6) (v := .int o41.1) (C := RX6) (T := TX6) (N := 33) hx hb hts iX6 hown hK.1 hP 0 rfl rfl 14 (by decide) k79 (fun _ h9 => h9) rfl dX6_lay_45 ?_
        rw [hQQ]
        exact W.iret (v := o41.1) hx hb hr (fun t ht hW => by rw [← Option.some.inj hf]; rw [← hAe] at hD hS; exact ⟨⟨o41.1, (), rfl, rfl, by rw [ht]; exact hP, hD⟩, hS.F ht⟩) hS.2.2 dX6_lay_48
      · have hf := ifn hf c32
        refine lv_bipush (v := (-103 : Int32)) hx hb dX6_lay_35 (by decide) ?_
        rw [hQQ]
        exact W.iret (v := (-103 : Int32)) hx hb hr (fun t ht hW => by rw [← Option.some.inj hf]; rw [← hAe] at hD hS; exact ⟨⟨(-103 : Int32), (), rfl, rfl, by rw [ht]; exact hP, hD⟩, hS.F ht⟩) hS.2.2 dX6_lay_37
    · have hf := ifp hf c20
      refine lv_bipush (v := (-102 : Int32)) hx hb dX6_lay_23 (by decide) ?_
      rw [hQQ]
      exact W.iret (v := (-102 : Int32)) hx hb hr (fun t ht hW => by rw [← Option.some.inj hf]; rw [← hAe] at hD hS; exact ⟨⟨(-102 : Int32), (), rfl, rfl, by rw [ht]; exact hP, hD⟩, hS.F ht⟩) hS.2.2 dX6_lay_25
  · have hf := ifp hf c5
    refine lv_bipush (v := (-101 : Int32)) hx hb dX6_lay_8 (by decide) ?_
    rw [hQQ]
    exact W.iret (v := (-101 : Int32)) hx hb hr (fun t ht hW => by rw [← Option.some.inj hf]; rw [← hAe] at hD hS; exact ⟨⟨(-101 : Int32), (), rfl, rfl, by rw [ht]; exact hP, hD⟩, hS.F ht⟩) hS.2.2 dX6_lay_10

set_option maxHeartbeats 4000000 in
set_option maxRecDepth 100000 in
theorem tX6_take (l : Launch) (D : va_G) (cI cJ cG : ClassId) (aF aF_kinds aF_vs aF_ws aF_roles aF_partner aF_lineOf aF_rank aF_behind aF_before aF_ways aF_inputOf aF_answer aF_values aF_printedRow aF_wasValues aF_wasPrinted aF_due aF_takenPlace aF_against : Nat) (sz : Nat) (y1 : Int32) (F_lines : Int32) (F_model : Int32) (F_inputs : Int32) (F_size : Int32) (F_hints : Int32) (F_hasRun : Int32) (F_printedMany : Int32) (F_keptBits : Int32) (F_keptMany : Int32) (F_takenMany : Int32) (F_change : Int32) (F_who : Int32) (F_where : Int32) (F_h : Int64) (F_answer : (Nat → Int32)) (out : Int32 × Int32 × (Nat → Int32)) (hf : fX6_take y1 F_size F_answer = some out) : Met l yX6_take wsX6_take ({ frames := 1, cells := 0, slots := 0, locals := 23 }) (va_Pc [.ref aF, .int y1] (wP D (tyL cI cJ cG) [(aF, .inr (6, [.int F_lines, .ref aF_kinds, .ref aF_vs, .ref aF_ws, .ref aF_roles, .ref aF_partner, .int F_model, .ref aF_lineOf, .ref aF_rank, .ref aF_behind, .ref aF_before, .ref aF_ways, .int F_inputs, .ref aF_inputOf, .int F_size, .ref aF_answer, .int F_hints, .int F_hasRun, .ref aF_values, .int F_printedMany, .ref aF_printedRow, .ref aF_wasValues, .ref aF_wasPrinted, .ref aF_due, .int F_keptBits, .int F_keptMany, .int F_takenMany, .ref aF_takenPlace, .ref aF_against, .int F_change, .int F_who, .int F_where, .long F_h])), (aF_answer, eI cI 16 F_answer)] sz)) (wQi D out.1 [(aF, .inr (6, [.int F_lines, .ref aF_kinds, .ref aF_vs, .ref aF_ws, .ref aF_roles, .ref aF_partner, .int F_model, .ref aF_lineOf, .ref aF_rank, .ref aF_behind, .ref aF_before, .ref aF_ways, .int F_inputs, .ref aF_inputOf, .int F_size, .ref aF_answer, .int F_hints, .int F_hasRun, .ref aF_values, .int F_printedMany, .ref aF_printedRow, .ref aF_wasValues, .ref aF_wasPrinted, .ref aF_due, .int F_keptBits, .int F_keptMany, .int F_takenMany, .ref aF_takenPlace, .ref aF_against, .int F_change, .int F_who, .int F_where, .long F_h])), (aF_answer, eI cI 16 F_answer)] [(aF, .inr (6, [.int F_lines, .ref aF_kinds, .ref aF_vs, .ref aF_ws, .ref aF_roles, .ref aF_partner, .int F_model, .ref aF_lineOf, .ref aF_rank, .ref aF_behind, .ref aF_before, .ref aF_ways, .int F_inputs, .ref aF_inputOf, .int out.2.1, .ref aF_answer, .int F_hints, .int F_hasRun, .ref aF_values, .int F_printedMany, .ref aF_printedRow, .ref aF_wasValues, .ref aF_wasPrinted, .ref aF_due, .int F_keptBits, .int F_keptMany, .int F_takenMany, .ref aF_takenPlace, .ref aF_against, .int F_change, .int F_who, .int F_where, .long F_h])), (aF_answer, eI cI 16 out.2.2)] sz) 0 0 (va_A [(aF, .inr (6, [.int F_lines, .ref aF_kinds, .ref aF_vs, .ref aF_ws, .ref aF_roles, .ref aF_partner, .int F_model, .ref aF_lineOf, .ref aF_rank, .ref aF_behind, .ref aF_before, .ref aF_ways, .int F_inputs, .ref aF_inputOf, .int F_size, .ref aF_answer, .int F_hints, .int F_hasRun, .ref aF_values, .int F_printedMany, .ref aF_printedRow, .ref aF_wasValues, .ref aF_wasPrinted, .ref aF_due, .int F_keptBits, .int F_keptMany, .int F_takenMany, .ref aF_takenPlace, .ref aF_against, .int F_change, .int F_who, .int F_where, .long F_h])), (aF_answer, eI cI 16 F_answer)] sz) := by
  refine Met.ofW (cc := cX6_take) (maxL := 2) (ret := (some .int)) (by decide) rfl ?_
  intro p e s m args below meth c s₁ B hml hv
  obtain ⟨rfl, hsz, hP, hK, hD0⟩ := hv
  have hx := B.exec
  have hb := B.bytes
  have hr := B.returns
  have hts := atoms_spec (ws := wsX6_take) B.pre
  have hown : s.vm.findClass RX6 = some m.cls := findClass_of_methodNamed B.named
  have hlocks := B.notSynchronized
  have iX6 : ∀ w ∈ wsX60, w ∈ wsX6_take := by decide +kernel
  have k79 := hts (.fieldLink RX6 79 "BlockMarkerModel" "size" "I") (by decide +kernel)
  subst hsz
  have hD := hD0.self (sz := s.heap.size)
  generalize hAe : va_A [(aF, .inr (6, [.int F_lines, .ref aF_kinds, .ref aF_vs, .ref aF_ws, .ref aF_roles, .ref aF_partner, .int F_model, .ref aF_lineOf, .ref aF_rank, .ref aF_behind, .ref aF_before, .ref aF_ways, .int F_inputs, .ref aF_inputOf, .int F_size, .ref aF_answer, .int F_hints, .int F_hasRun, .ref aF_values, .int F_printedMany, .ref aF_printedRow, .ref aF_wasValues, .ref aF_wasPrinted, .ref aF_due, .int F_keptBits, .int F_keptMany, .int F_takenMany, .ref aF_takenPlace, .ref aF_against, .int F_change, .int F_who, .int F_where, .long F_h])), (aF_answer, eI cI 16 F_answer)] s.heap.size = A at hD ⊢
  have hA : ∀ q : Nat, s.heap.size ≤ q → A q := fun q h => by rw [← hAe]; exact Or.inr h
  have hS : va_S A s.heap s.heap [] := va_S.rf
  have hl := lv_entry ([.ref aF, .int y1]) (n := 2) (Nat.le_of_ble_eq_true rfl)
  rw [lg_entry_eq]
  generalize (lg_sl ([.ref aF, .int y1]) ++ List.replicate (2 - (lg_sl ([.ref aF, .int y1])).length) Slot.unset).toArray = ls at hl ⊢
  have hl : lv_has ls 2 [(0, .ref aF), (1, .int y1)] := hl
  generalize hQQ : MQ below _ _ s 0 0 _ = QQ
  replace hQQ := hQQ.symm
  generalize hHH : s.heap = H at hP ⊢
  have hS : va_S A s.heap H [] := by rw [← hHH]; exact va_S.rf
  generalize ([] : List Loc) = locs at hS ⊢
  unfold fX6_take at hf
  refine lv_iload_n hx hb dX6_take_0 rfl (lv_at hl 1 rfl) ?_
  refine lv_iconst (v := (0 : Int32)) hx hb dX6_take_1 (by decide) ?_
  refine lv_aload_n hx hb dX6_take_2 rfl (lv_at hl 0 rfl) ?_
  refine va_get (D := D) (ci := 6) (v := .int F_size) (C := RX6) (T := TX6) (N := 33) hx hb hts iX6 hown hK.1 hP 0 rfl rfl 14 (by decide) k79 (fun _ h9 => h9) rfl dX6_take_3 ?_
  refine lv_iconst (v := (1 : Int32)) hx hb dX6_take_6 (by decide) ?_
  refine lv_isub hx hb dX6_take_7 ?_
  refine bnd hf (fun o8 e8 hf => ?_)
  refine rdSi (As := [.int y1, .int (0 : Int32), .int (F_size - (1 : Int32))]) (rest := []) ⟨hx, hb, hml, hown, hts⟩ (tX6_in l D cI cJ cG  H y1 (0 : Int32) (F_size - (1 : Int32))  o8 e8) (va_cwS 3 hts gX6_take_X6_in rfl rfl rfl (by decide +kernel) ⟨Nat.le_of_ble_eq_true rfl, Nat.le_of_ble_eq_true rfl⟩) hK (hP.sub (ws' := []) [] rfl) rfl hl.1 rfl (lv_room (Nat.le_of_ble_eq_true rfl)) dX6_take_8 ⟨Nat.le_of_ble_eq_true rfl, Nat.le_of_ble_eq_true rfl⟩ hS (fun locs hS => ?_)
  refine lv_if_eq (tgt := 22) hx hb dX6_take_11 (by decide) (fun c11 => ?_) (fun c11 => ?_)
  · have hf := ifp hf c11
    refine lv_bipush (v := (-102 : Int32)) hx hb dX6_take_22 (by decide) ?_
    rw [hQQ]
    exact W.iret (v := (-102 : Int32)) hx hb hr (fun t ht hW => by rw [← Option.some.inj hf]; rw [← hAe] at hD hS; exact ⟨⟨(-102 : Int32), (), rfl, rfl, by rw [ht]; exact hP, hD⟩, hS.F ht⟩) hS.2.2 dX6_take_24
  · have hf := ifn hf c11
    refine lv_aload_n hx hb dX6_take_14 rfl (lv_at hl 0 rfl) ?_
    refine lv_iload_n hx hb dX6_take_15 rfl (lv_at hl 1 rfl) ?_
    refine bnd hf (fun o16 e16 hf => ?_)
    refine wrVi (As := [.int y1]) (rest := []) (cw := [(aF, .inr (6, [.int F_lines, .ref aF_kinds, .ref aF_vs, .ref aF_ws, .ref aF_roles, .ref aF_partner, .int F_model, .ref aF_lineOf, .ref aF_rank, .ref aF_behind, .ref aF_before, .ref aF_ways, .int F_inputs, .ref aF_inputOf, .int F_size, .ref aF_answer, .int F_hints, .int F_hasRun, .ref aF_values, .int F_printedMany, .ref aF_printedRow, .ref aF_wasValues, .ref aF_wasPrinted, .ref aF_due, .int F_keptBits, .int F_keptMany, .int F_takenMany, .ref aF_takenPlace, .ref aF_against, .int F_change, .int F_who, .int F_where, .long F_h])), (aF_answer, eI cI 16 F_answer)]) (cw' := [(aF, .inr (6, [.int F_lines, .ref aF_kinds, .ref aF_vs, .ref aF_ws, .ref aF_roles, .ref aF_partner, .int F_model, .ref aF_lineOf, .ref aF_rank, .ref aF_behind, .ref aF_before, .ref aF_ways, .int F_inputs, .ref aF_inputOf, .int o16.2.1, .ref aF_answer, .int F_hints, .int F_hasRun, .ref aF_values, .int F_printedMany, .ref aF_printedRow, .ref aF_wasValues, .ref aF_wasPrinted, .ref aF_due, .int F_keptBits, .int F_keptMany, .int F_takenMany, .ref aF_takenPlace, .ref aF_against, .int F_change, .int F_who, .int F_where, .long F_h])), (aF_answer, eI cI 16 o16.2.2)]) (wr := []) (ws2 := [(aF, .inr (6, [.int F_lines, .ref aF_kinds, .ref aF_vs, .ref aF_ws, .ref aF_roles, .ref aF_partner, .int F_model, .ref aF_lineOf, .ref aF_rank, .ref aF_behind, .ref aF_before, .ref aF_ways, .int F_inputs, .ref aF_inputOf, .int o16.2.1, .ref aF_answer, .int F_hints, .int F_hasRun, .ref aF_values, .int F_printedMany, .ref aF_printedRow, .ref aF_wasValues, .ref aF_wasPrinted, .ref aF_due, .int F_keptBits, .int F_keptMany, .int F_takenMany, .ref aF_takenPlace, .ref aF_against, .int F_change, .int F_who, .int F_where, .long F_h])), (aF_answer, eI cI 16 o16.2.2)]) ⟨hx, hb, hml, hown, hts⟩ (tX6_remove l D cI cJ cG aF aF_kinds aF_vs aF_ws aF_roles aF_partner aF_lineOf aF_rank aF_behind aF_before aF_ways aF_inputOf aF_answer aF_values aF_printedRow aF_wasValues aF_wasPrinted aF_due aF_takenPlace aF_against H.size y1 F_lines F_model F_inputs F_size F_hints F_hasRun F_printedMany F_keptBits F_keptMany F_takenMany F_change F_who F_where F_h F_answer o16 e16) (cwV 1 hts gX6_take_X6_remove rfl rfl rfl (by decide +kernel) ⟨Nat.le_of_ble_eq_true rfl, Nat.le_of_ble_eq_true rfl⟩) (va_recv (ci := 6) (q0 := 0) hK.1 hP rfl rfl) hK hP hD hS hA [0, 1] [] [0, 1] rfl rfl rfl (by decide) (by decide) (by decide) (by decide) rfl hl.1 rfl (lv_room (Nat.le_of_ble_eq_true rfl)) dX6_take_16 ⟨Nat.le_of_ble_eq_true rfl, Nat.le_of_ble_eq_true rfl⟩ (fun H locs hP hD hS => ?_)
    refine lv_goto (tgt := 24) hx hb dX6_take_19 (by decide) ?_
    rw [hQQ]
    exact W.iret (v := o16.1) hx hb hr (fun t ht hW => by rw [← Option.some.inj hf]; rw [← hAe] at hD hS; exact ⟨⟨o16.1, (), rfl, rfl, by rw [ht]; exact hP, hD⟩, hS.F ht⟩) hS.2.2 dX6_take_24

set_option maxHeartbeats 4000000 in
set_option maxRecDepth 100000 in
theorem tX6_move (l : Launch) (D : va_G) (cI cJ cG : ClassId) (aF aF_kinds aF_vs aF_ws aF_roles aF_partner aF_lineOf aF_rank aF_behind aF_before aF_ways aF_inputOf aF_answer aF_values aF_printedRow aF_wasValues aF_wasPrinted aF_due aF_takenPlace aF_against : Nat) (sz : Nat) (y1 : Int32) (y2 : Int32) (F_lines : Int32) (F_model : Int32) (F_inputs : Int32) (F_size : Int32) (F_hints : Int32) (F_hasRun : Int32) (F_printedMany : Int32) (F_keptBits : Int32) (F_keptMany : Int32) (F_takenMany : Int32) (F_change : Int32) (F_who : Int32) (F_where : Int32) (F_h : Int64) (F_answer : (Nat → Int32)) (out : Int32 × Int32 × (Nat → Int32)) (hf : fX6_move y1 y2 F_size F_answer = some out) : Met l yX6_move wsX6_move ({ frames := 1, cells := 0, slots := 0, locals := 23 }) (va_Pc [.ref aF, .int y1, .int y2] (wP D (tyL cI cJ cG) [(aF, .inr (6, [.int F_lines, .ref aF_kinds, .ref aF_vs, .ref aF_ws, .ref aF_roles, .ref aF_partner, .int F_model, .ref aF_lineOf, .ref aF_rank, .ref aF_behind, .ref aF_before, .ref aF_ways, .int F_inputs, .ref aF_inputOf, .int F_size, .ref aF_answer, .int F_hints, .int F_hasRun, .ref aF_values, .int F_printedMany, .ref aF_printedRow, .ref aF_wasValues, .ref aF_wasPrinted, .ref aF_due, .int F_keptBits, .int F_keptMany, .int F_takenMany, .ref aF_takenPlace, .ref aF_against, .int F_change, .int F_who, .int F_where, .long F_h])), (aF_answer, eI cI 16 F_answer)] sz)) (wQi D out.1 [(aF, .inr (6, [.int F_lines, .ref aF_kinds, .ref aF_vs, .ref aF_ws, .ref aF_roles, .ref aF_partner, .int F_model, .ref aF_lineOf, .ref aF_rank, .ref aF_behind, .ref aF_before, .ref aF_ways, .int F_inputs, .ref aF_inputOf, .int F_size, .ref aF_answer, .int F_hints, .int F_hasRun, .ref aF_values, .int F_printedMany, .ref aF_printedRow, .ref aF_wasValues, .ref aF_wasPrinted, .ref aF_due, .int F_keptBits, .int F_keptMany, .int F_takenMany, .ref aF_takenPlace, .ref aF_against, .int F_change, .int F_who, .int F_where, .long F_h])), (aF_answer, eI cI 16 F_answer)] [(aF, .inr (6, [.int F_lines, .ref aF_kinds, .ref aF_vs, .ref aF_ws, .ref aF_roles, .ref aF_partner, .int F_model, .ref aF_lineOf, .ref aF_rank, .ref aF_behind, .ref aF_before, .ref aF_ways, .int F_inputs, .ref aF_inputOf, .int out.2.1, .ref aF_answer, .int F_hints, .int F_hasRun, .ref aF_values, .int F_printedMany, .ref aF_printedRow, .ref aF_wasValues, .ref aF_wasPrinted, .ref aF_due, .int F_keptBits, .int F_keptMany, .int F_takenMany, .ref aF_takenPlace, .ref aF_against, .int F_change, .int F_who, .int F_where, .long F_h])), (aF_answer, eI cI 16 out.2.2)] sz) 0 0 (va_A [(aF, .inr (6, [.int F_lines, .ref aF_kinds, .ref aF_vs, .ref aF_ws, .ref aF_roles, .ref aF_partner, .int F_model, .ref aF_lineOf, .ref aF_rank, .ref aF_behind, .ref aF_before, .ref aF_ways, .int F_inputs, .ref aF_inputOf, .int F_size, .ref aF_answer, .int F_hints, .int F_hasRun, .ref aF_values, .int F_printedMany, .ref aF_printedRow, .ref aF_wasValues, .ref aF_wasPrinted, .ref aF_due, .int F_keptBits, .int F_keptMany, .int F_takenMany, .ref aF_takenPlace, .ref aF_against, .int F_change, .int F_who, .int F_where, .long F_h])), (aF_answer, eI cI 16 F_answer)] sz) := by
  refine Met.ofW (cc := cX6_move) (maxL := 4) (ret := (some .int)) (by decide) rfl ?_
  intro p e s m args below meth c s₁ B hml hv
  obtain ⟨rfl, hsz, hP, hK, hD0⟩ := hv
  have hx := B.exec
  have hb := B.bytes
  have hr := B.returns
  have hts := atoms_spec (ws := wsX6_move) B.pre
  have hown : s.vm.findClass RX6 = some m.cls := findClass_of_methodNamed B.named
  have hlocks := B.notSynchronized
  have iX6 : ∀ w ∈ wsX60, w ∈ wsX6_move := by decide +kernel
  have k79 := hts (.fieldLink RX6 79 "BlockMarkerModel" "size" "I") (by decide +kernel)
  subst hsz
  have hD := hD0.self (sz := s.heap.size)
  generalize hAe : va_A [(aF, .inr (6, [.int F_lines, .ref aF_kinds, .ref aF_vs, .ref aF_ws, .ref aF_roles, .ref aF_partner, .int F_model, .ref aF_lineOf, .ref aF_rank, .ref aF_behind, .ref aF_before, .ref aF_ways, .int F_inputs, .ref aF_inputOf, .int F_size, .ref aF_answer, .int F_hints, .int F_hasRun, .ref aF_values, .int F_printedMany, .ref aF_printedRow, .ref aF_wasValues, .ref aF_wasPrinted, .ref aF_due, .int F_keptBits, .int F_keptMany, .int F_takenMany, .ref aF_takenPlace, .ref aF_against, .int F_change, .int F_who, .int F_where, .long F_h])), (aF_answer, eI cI 16 F_answer)] s.heap.size = A at hD ⊢
  have hA : ∀ q : Nat, s.heap.size ≤ q → A q := fun q h => by rw [← hAe]; exact Or.inr h
  have hS : va_S A s.heap s.heap [] := va_S.rf
  have hl := lv_entry ([.ref aF, .int y1, .int y2]) (n := 4) (Nat.le_of_ble_eq_true rfl)
  rw [lg_entry_eq]
  generalize (lg_sl ([.ref aF, .int y1, .int y2]) ++ List.replicate (4 - (lg_sl ([.ref aF, .int y1, .int y2])).length) Slot.unset).toArray = ls at hl ⊢
  have hl : lv_has ls 4 [(0, .ref aF), (1, .int y1), (2, .int y2)] := hl
  generalize hQQ : MQ below _ _ s 0 0 _ = QQ
  replace hQQ := hQQ.symm
  generalize hHH : s.heap = H at hP ⊢
  have hS : va_S A s.heap H [] := by rw [← hHH]; exact va_S.rf
  generalize ([] : List Loc) = locs at hS ⊢
  unfold fX6_move at hf
  refine lv_iload_n hx hb dX6_move_0 rfl (lv_at hl 1 rfl) ?_
  refine lv_iconst (v := (0 : Int32)) hx hb dX6_move_1 (by decide) ?_
  refine lv_aload_n hx hb dX6_move_2 rfl (lv_at hl 0 rfl) ?_
  refine va_get (D := D) (ci := 6) (v := .int F_size) (C := RX6) (T := TX6) (N := 33) hx hb hts iX6 hown hK.1 hP 0 rfl rfl 14 (by decide) k79 (fun _ h9 => h9) rfl dX6_move_3 ?_
  refine lv_iconst (v := (1 : Int32)) hx hb dX6_move_6 (by decide) ?_
  refine lv_isub hx hb dX6_move_7 ?_
  refine bnd hf (fun o8 e8 hf => ?_)
  refine rdSi (As := [.int y1, .int (0 : Int32), .int (F_size - (1 : Int32))]) (rest := []) ⟨hx, hb, hml, hown, hts⟩ (tX6_in l D cI cJ cG  H y1 (0 : Int32) (F_size - (1 : Int32))  o8 e8) (va_cwS 3 hts gX6_move_X6_in rfl rfl rfl (by decide +kernel) ⟨Nat.le_of_ble_eq_true rfl, Nat.le_of_ble_eq_true rfl⟩) hK (hP.sub (ws' := []) [] rfl) rfl hl.1 rfl (lv_room (Nat.le_of_ble_eq_true rfl)) dX6_move_8 ⟨Nat.le_of_ble_eq_true rfl, Nat.le_of_ble_eq_true rfl⟩ hS (fun locs hS => ?_)
  refine lv_if_eq (tgt := 28) hx hb dX6_move_11 (by decide) (fun c11 => ?_) (fun c11 => ?_)
  · have hf := ifp hf c11
    refine lv_bipush (v := (-102 : Int32)) hx hb dX6_move_28 (by decide) ?_
    rw [hQQ]
    exact W.iret (v := (-102 : Int32)) hx hb hr (fun t ht hW => by rw [← Option.some.inj hf]; rw [← hAe] at hD hS; exact ⟨⟨(-102 : Int32), (), rfl, rfl, by rw [ht]; exact hP, hD⟩, hS.F ht⟩) hS.2.2 dX6_move_30
  · have hf := ifn hf c11
    refine lv_iload_n hx hb dX6_move_14 rfl (lv_at hl 2 rfl) ?_
    refine lv_iconst (v := (0 : Int32)) hx hb dX6_move_15 (by decide) ?_
    refine lv_aload_n hx hb dX6_move_16 rfl (lv_at hl 0 rfl) ?_
    refine va_get (D := D) (ci := 6) (v := .int F_size) (C := RX6) (T := TX6) (N := 33) hx hb hts iX6 hown hK.1 hP 0 rfl rfl 14 (by decide) k79 (fun _ h9 => h9) rfl dX6_move_17 ?_
    refine lv_iconst (v := (1 : Int32)) hx hb dX6_move_20 (by decide) ?_
    refine lv_isub hx hb dX6_move_21 ?_
    refine bnd hf (fun o22 e22 hf => ?_)
    refine rdSi (As := [.int y2, .int (0 : Int32), .int (F_size - (1 : Int32))]) (rest := []) ⟨hx, hb, hml, hown, hts⟩ (tX6_in l D cI cJ cG  H y2 (0 : Int32) (F_size - (1 : Int32))  o22 e22) (va_cwS 3 hts gX6_move_X6_in rfl rfl rfl (by decide +kernel) ⟨Nat.le_of_ble_eq_true rfl, Nat.le_of_ble_eq_true rfl⟩) hK (hP.sub (ws' := []) [] rfl) rfl hl.1 rfl (lv_room (Nat.le_of_ble_eq_true rfl)) dX6_move_22 ⟨Nat.le_of_ble_eq_true rfl, Nat.le_of_ble_eq_true rfl⟩ hS (fun locs hS => ?_)
    refine lv_if_ne (tgt := 31) hx hb dX6_move_25 (by decide) (fun c25 => ?_) (fun c25 => ?_)
    · have hf := ifn hf c25
      refine lv_aload_n hx hb dX6_move_31 rfl (lv_at hl 0 rfl) ?_
      refine lv_iload_n hx hb dX6_move_32 rfl (lv_at hl 1 rfl) ?_
      refine bnd hf (fun o33 e33 hf => ?_)
      refine wrVi (As := [.int y1]) (rest := []) (cw := [(aF, .inr (6, [.int F_lines, .ref aF_kinds, .ref aF_vs, .ref aF_ws, .ref aF_roles, .ref aF_partner, .int F_model, .ref aF_lineOf, .ref aF_rank, .ref aF_behind, .ref aF_before, .ref aF_ways, .int F_inputs, .ref aF_inputOf, .int F_size, .ref aF_answer, .int F_hints, .int F_hasRun, .ref aF_values, .int F_printedMany, .ref aF_printedRow, .ref aF_wasValues, .ref aF_wasPrinted, .ref aF_due, .int F_keptBits, .int F_keptMany, .int F_takenMany, .ref aF_takenPlace, .ref aF_against, .int F_change, .int F_who, .int F_where, .long F_h])), (aF_answer, eI cI 16 F_answer)]) (cw' := [(aF, .inr (6, [.int F_lines, .ref aF_kinds, .ref aF_vs, .ref aF_ws, .ref aF_roles, .ref aF_partner, .int F_model, .ref aF_lineOf, .ref aF_rank, .ref aF_behind, .ref aF_before, .ref aF_ways, .int F_inputs, .ref aF_inputOf, .int o33.2.1, .ref aF_answer, .int F_hints, .int F_hasRun, .ref aF_values, .int F_printedMany, .ref aF_printedRow, .ref aF_wasValues, .ref aF_wasPrinted, .ref aF_due, .int F_keptBits, .int F_keptMany, .int F_takenMany, .ref aF_takenPlace, .ref aF_against, .int F_change, .int F_who, .int F_where, .long F_h])), (aF_answer, eI cI 16 o33.2.2)]) (wr := []) (ws2 := [(aF, .inr (6, [.int F_lines, .ref aF_kinds, .ref aF_vs, .ref aF_ws, .ref aF_roles, .ref aF_partner, .int F_model, .ref aF_lineOf, .ref aF_rank, .ref aF_behind, .ref aF_before, .ref aF_ways, .int F_inputs, .ref aF_inputOf, .int o33.2.1, .ref aF_answer, .int F_hints, .int F_hasRun, .ref aF_values, .int F_printedMany, .ref aF_printedRow, .ref aF_wasValues, .ref aF_wasPrinted, .ref aF_due, .int F_keptBits, .int F_keptMany, .int F_takenMany, .ref aF_takenPlace, .ref aF_against, .int F_change, .int F_who, .int F_where, .long F_h])), (aF_answer, eI cI 16 o33.2.2)]) ⟨hx, hb, hml, hown, hts⟩ (tX6_remove l D cI cJ cG aF aF_kinds aF_vs aF_ws aF_roles aF_partner aF_lineOf aF_rank aF_behind aF_before aF_ways aF_inputOf aF_answer aF_values aF_printedRow aF_wasValues aF_wasPrinted aF_due aF_takenPlace aF_against H.size y1 F_lines F_model F_inputs F_size F_hints F_hasRun F_printedMany F_keptBits F_keptMany F_takenMany F_change F_who F_where F_h F_answer o33 e33) (cwV 1 hts gX6_move_X6_remove rfl rfl rfl (by decide +kernel) ⟨Nat.le_of_ble_eq_true rfl, Nat.le_of_ble_eq_true rfl⟩) (va_recv (ci := 6) (q0 := 0) hK.1 hP rfl rfl) hK hP hD hS hA [0, 1] [] [0, 1] rfl rfl rfl (by decide) (by decide) (by decide) (by decide) rfl hl.1 rfl (lv_room (Nat.le_of_ble_eq_true rfl)) dX6_move_33 ⟨Nat.le_of_ble_eq_true rfl, Nat.le_of_ble_eq_true rfl⟩ (fun H locs hP hD hS => ?_)
      refine lv_istore_n (lv' := [(3, .int o33.1), (0, .ref aF), (1, .int y1), (2, .int y2)]) hx hb dX6_move_36 rfl hl (by decide) rfl (fun ls hl => ?_)
      refine lv_aload_n hx hb dX6_move_37 rfl (lv_at hl 1 rfl) ?_
      refine lv_iload_n hx hb dX6_move_38 rfl (lv_at hl 0 rfl) ?_
      refine lv_iload_n hx hb dX6_move_39 rfl (lv_at hl 3 rfl) ?_
      refine bnd hf (fun o40 e40 hf => ?_)
      refine wrVv (As := [.int o33.1, .int y2]) (rest := []) (cw := [(aF, .inr (6, [.int F_lines, .ref aF_kinds, .ref aF_vs, .ref aF_ws, .ref aF_roles, .ref aF_partner, .int F_model, .ref aF_lineOf, .ref aF_rank, .ref aF_behind, .ref aF_before, .ref aF_ways, .int F_inputs, .ref aF_inputOf, .int o33.2.1, .ref aF_answer, .int F_hints, .int F_hasRun, .ref aF_values, .int F_printedMany, .ref aF_printedRow, .ref aF_wasValues, .ref aF_wasPrinted, .ref aF_due, .int F_keptBits, .int F_keptMany, .int F_takenMany, .ref aF_takenPlace, .ref aF_against, .int F_change, .int F_who, .int F_where, .long F_h])), (aF_answer, eI cI 16 o33.2.2)]) (cw' := [(aF, .inr (6, [.int F_lines, .ref aF_kinds, .ref aF_vs, .ref aF_ws, .ref aF_roles, .ref aF_partner, .int F_model, .ref aF_lineOf, .ref aF_rank, .ref aF_behind, .ref aF_before, .ref aF_ways, .int F_inputs, .ref aF_inputOf, .int o40.1, .ref aF_answer, .int F_hints, .int F_hasRun, .ref aF_values, .int F_printedMany, .ref aF_printedRow, .ref aF_wasValues, .ref aF_wasPrinted, .ref aF_due, .int F_keptBits, .int F_keptMany, .int F_takenMany, .ref aF_takenPlace, .ref aF_against, .int F_change, .int F_who, .int F_where, .long F_h])), (aF_answer, eI cI 16 o40.2)]) (wr := []) (ws2 := [(aF, .inr (6, [.int F_lines, .ref aF_kinds, .ref aF_vs, .ref aF_ws, .ref aF_roles, .ref aF_partner, .int F_model, .ref aF_lineOf, .ref aF_rank, .ref aF_behind, .ref aF_before, .ref aF_ways, .int F_inputs, .ref aF_inputOf, .int o40.1, .ref aF_answer, .int F_hints, .int F_hasRun, .ref aF_values, .int F_printedMany, .ref aF_printedRow, .ref aF_wasValues, .ref aF_wasPrinted, .ref aF_due, .int F_keptBits, .int F_keptMany, .int F_takenMany, .ref aF_takenPlace, .ref aF_against, .int F_change, .int F_who, .int F_where, .long F_h])), (aF_answer, eI cI 16 o40.2)]) ⟨hx, hb, hml, hown, hts⟩ (tX6_insert l D cI cJ cG aF aF_kinds aF_vs aF_ws aF_roles aF_partner aF_lineOf aF_rank aF_behind aF_before aF_ways aF_inputOf aF_answer aF_values aF_printedRow aF_wasValues aF_wasPrinted aF_due aF_takenPlace aF_against H.size o33.1 y2 F_lines F_model F_inputs o33.2.1 F_hints F_hasRun F_printedMany F_keptBits F_keptMany F_takenMany F_change F_who F_where F_h o33.2.2 o40 e40) (cwV 2 hts gX6_move_X6_insert rfl rfl rfl (by decide +kernel) ⟨Nat.le_of_ble_eq_true rfl, Nat.le_of_ble_eq_true rfl⟩) (va_recv (ci := 6) (q0 := 0) hK.1 hP rfl rfl) hK hP hD hS hA [0, 1] [] [0, 1] rfl rfl rfl (by decide) (by decide) (by decide) (by decide) rfl hl.1 rfl (lv_room (Nat.le_of_ble_eq_true rfl)) dX6_move_40 ⟨Nat.le_of_ble_eq_true rfl, Nat.le_of_ble_eq_true rfl⟩ (fun H locs hP hD hS => ?_)
      refine lv_iload_n hx hb dX6_move_43 rfl (lv_at hl 0 rfl) ?_
      rw [hQQ]
      exact W.iret (v := o33.1) hx hb hr (fun t ht hW => by rw [← Option.some.inj hf]; rw [← hAe] at hD hS; exact ⟨⟨o33.1, (), rfl, rfl, by rw [ht]; exact hP, hD⟩, hS.F ht⟩) hS.2.2 dX6_move_44
    · have hf := ifp hf c25
      refine lv_bipush (v := (-102 : Int32)) hx hb dX6_move_28 (by decide) ?_
      rw [hQQ]
      exact W.iret (v := (-102 : Int32)) hx hb hr (fun t ht hW => by rw [← Option.some.inj hf]; rw [← hAe] at hD hS; exact ⟨⟨(-102 : Int32), (), rfl, rfl, by rw [ht]; exact hP, hD⟩, hS.F ht⟩) hS.2.2 dX6_move_30

set_option maxHeartbeats 4000000 in
set_option maxRecDepth 100000 in
theorem tX6_clear (l : Launch) (D : va_G) (cI cJ cG : ClassId) (aF aF_kinds aF_vs aF_ws aF_roles aF_partner aF_lineOf aF_rank aF_behind aF_before aF_ways aF_inputOf aF_answer aF_values aF_printedRow aF_wasValues aF_wasPrinted aF_due aF_takenPlace aF_against : Nat) (sz : Nat)  (F_lines : Int32) (F_model : Int32) (F_inputs : Int32) (F_size : Int32) (F_hints : Int32) (F_hasRun : Int32) (F_printedMany : Int32) (F_keptBits : Int32) (F_keptMany : Int32) (F_takenMany : Int32) (F_change : Int32) (F_who : Int32) (F_where : Int32) (F_h : Int64) (out : Int32 × Int32) (hf : fX6_clear F_size = some out) : Met l yX6_clear wsX6_clear ({ frames := 0, cells := 0, slots := 0, locals := 0 }) (va_Pc [.ref aF] (wP D (tyL cI cJ cG) [(aF, .inr (6, [.int F_lines, .ref aF_kinds, .ref aF_vs, .ref aF_ws, .ref aF_roles, .ref aF_partner, .int F_model, .ref aF_lineOf, .ref aF_rank, .ref aF_behind, .ref aF_before, .ref aF_ways, .int F_inputs, .ref aF_inputOf, .int F_size, .ref aF_answer, .int F_hints, .int F_hasRun, .ref aF_values, .int F_printedMany, .ref aF_printedRow, .ref aF_wasValues, .ref aF_wasPrinted, .ref aF_due, .int F_keptBits, .int F_keptMany, .int F_takenMany, .ref aF_takenPlace, .ref aF_against, .int F_change, .int F_who, .int F_where, .long F_h]))] sz)) (wQi D out.1 [(aF, .inr (6, [.int F_lines, .ref aF_kinds, .ref aF_vs, .ref aF_ws, .ref aF_roles, .ref aF_partner, .int F_model, .ref aF_lineOf, .ref aF_rank, .ref aF_behind, .ref aF_before, .ref aF_ways, .int F_inputs, .ref aF_inputOf, .int F_size, .ref aF_answer, .int F_hints, .int F_hasRun, .ref aF_values, .int F_printedMany, .ref aF_printedRow, .ref aF_wasValues, .ref aF_wasPrinted, .ref aF_due, .int F_keptBits, .int F_keptMany, .int F_takenMany, .ref aF_takenPlace, .ref aF_against, .int F_change, .int F_who, .int F_where, .long F_h]))] [(aF, .inr (6, [.int F_lines, .ref aF_kinds, .ref aF_vs, .ref aF_ws, .ref aF_roles, .ref aF_partner, .int F_model, .ref aF_lineOf, .ref aF_rank, .ref aF_behind, .ref aF_before, .ref aF_ways, .int F_inputs, .ref aF_inputOf, .int out.2, .ref aF_answer, .int F_hints, .int F_hasRun, .ref aF_values, .int F_printedMany, .ref aF_printedRow, .ref aF_wasValues, .ref aF_wasPrinted, .ref aF_due, .int F_keptBits, .int F_keptMany, .int F_takenMany, .ref aF_takenPlace, .ref aF_against, .int F_change, .int F_who, .int F_where, .long F_h]))] sz) 0 0 (va_A [(aF, .inr (6, [.int F_lines, .ref aF_kinds, .ref aF_vs, .ref aF_ws, .ref aF_roles, .ref aF_partner, .int F_model, .ref aF_lineOf, .ref aF_rank, .ref aF_behind, .ref aF_before, .ref aF_ways, .int F_inputs, .ref aF_inputOf, .int F_size, .ref aF_answer, .int F_hints, .int F_hasRun, .ref aF_values, .int F_printedMany, .ref aF_printedRow, .ref aF_wasValues, .ref aF_wasPrinted, .ref aF_due, .int F_keptBits, .int F_keptMany, .int F_takenMany, .ref aF_takenPlace, .ref aF_against, .int F_change, .int F_who, .int F_where, .long F_h]))] sz) := by
  refine Met.ofW (cc := cX6_clear) (maxL := 2) (ret := (some .int)) (by decide) rfl ?_
  intro p e s m args below meth c s₁ B hml hv
  obtain ⟨rfl, hsz, hP, hK, hD0⟩ := hv
  have hx := B.exec
  have hb := B.bytes
  have hr := B.returns
  have hts := atoms_spec (ws := wsX6_clear) B.pre
  have hown : s.vm.findClass RX6 = some m.cls := findClass_of_methodNamed B.named
  have hlocks := B.notSynchronized
  have iX6 : ∀ w ∈ wsX60, w ∈ wsX6_clear := by decide +kernel
  have k79 := hts (.fieldLink RX6 79 "BlockMarkerModel" "size" "I") (by decide +kernel)
  subst hsz
  have hD := hD0.self (sz := s.heap.size)
  generalize hAe : va_A [(aF, .inr (6, [.int F_lines, .ref aF_kinds, .ref aF_vs, .ref aF_ws, .ref aF_roles, .ref aF_partner, .int F_model, .ref aF_lineOf, .ref aF_rank, .ref aF_behind, .ref aF_before, .ref aF_ways, .int F_inputs, .ref aF_inputOf, .int F_size, .ref aF_answer, .int F_hints, .int F_hasRun, .ref aF_values, .int F_printedMany, .ref aF_printedRow, .ref aF_wasValues, .ref aF_wasPrinted, .ref aF_due, .int F_keptBits, .int F_keptMany, .int F_takenMany, .ref aF_takenPlace, .ref aF_against, .int F_change, .int F_who, .int F_where, .long F_h]))] s.heap.size = A at hD ⊢
  have hA : ∀ q : Nat, s.heap.size ≤ q → A q := fun q h => by rw [← hAe]; exact Or.inr h
  have hS : va_S A s.heap s.heap [] := va_S.rf
  have hl := lv_entry ([.ref aF]) (n := 2) (Nat.le_of_ble_eq_true rfl)
  rw [lg_entry_eq]
  generalize (lg_sl ([.ref aF]) ++ List.replicate (2 - (lg_sl ([.ref aF])).length) Slot.unset).toArray = ls at hl ⊢
  have hl : lv_has ls 2 [(0, .ref aF)] := hl
  generalize hQQ : MQ below _ _ s 0 0 _ = QQ
  replace hQQ := hQQ.symm
  generalize hHH : s.heap = H at hP ⊢
  have hS : va_S A s.heap H [] := by rw [← hHH]; exact va_S.rf
  generalize ([] : List Loc) = locs at hS ⊢
  unfold fX6_clear at hf
  refine lv_aload_n hx hb dX6_clear_0 rfl (lv_at hl 0 rfl) ?_
  refine va_get (D := D) (ci := 6) (v := .int F_size) (C := RX6) (T := TX6) (N := 33) hx hb hts iX6 hown hK.1 hP 0 rfl rfl 14 (by decide) k79 (fun _ h9 => h9) rfl dX6_clear_1 ?_
  refine lv_istore_n (lv' := [(1, .int F_size), (0, .ref aF)]) hx hb dX6_clear_4 rfl hl (by decide) rfl (fun ls hl => ?_)
  refine lv_aload_n hx hb dX6_clear_5 rfl (lv_at hl 1 rfl) ?_
  refine lv_iconst (v := (0 : Int32)) hx hb dX6_clear_6 (by decide) ?_
  refine va_put (D := D) (ci := 6) (v := .int (0 : Int32)) (ty := .int) (C := RX6) (T := TX6) (N := 33) hx hb hts iX6 tyX6 tyX6_ok nmX6 hown hK.1 hP hD hS 0 rfl rfl 14 (by decide) k79 (fun _ h9 => h9) rfl (by decide +kernel) rfl rfl (Nat.le_of_ble_eq_true rfl) dX6_clear_7 (fun H locs hP hD hS => ?_)
  have hP : va_P D vwCl [(aF, .inr (6, [.int F_lines, .ref aF_kinds, .ref aF_vs, .ref aF_ws, .ref aF_roles, .ref aF_partner, .int F_model, .ref aF_lineOf, .ref aF_rank, .ref aF_behind, .ref aF_before, .ref aF_ways, .int F_inputs, .ref aF_inputOf, .int (0 : Int32), .ref aF_answer, .int F_hints, .int F_hasRun, .ref aF_values, .int F_printedMany, .ref aF_printedRow, .ref aF_wasValues, .ref aF_wasPrinted, .ref aF_due, .int F_keptBits, .int F_keptMany, .int F_takenMany, .ref aF_takenPlace, .ref aF_against, .int F_change, .int F_who, .int F_where, .long F_h]))] H := hP
  have hD : va_D A [(aF, .inr (6, [.int F_lines, .ref aF_kinds, .ref aF_vs, .ref aF_ws, .ref aF_roles, .ref aF_partner, .int F_model, .ref aF_lineOf, .ref aF_rank, .ref aF_behind, .ref aF_before, .ref aF_ways, .int F_inputs, .ref aF_inputOf, .int (0 : Int32), .ref aF_answer, .int F_hints, .int F_hasRun, .ref aF_values, .int F_printedMany, .ref aF_printedRow, .ref aF_wasValues, .ref aF_wasPrinted, .ref aF_due, .int F_keptBits, .int F_keptMany, .int F_takenMany, .ref aF_takenPlace, .ref aF_against, .int F_change, .int F_who, .int F_where, .long F_h]))] := hD
  refine lv_iload_n hx hb dX6_clear_10 rfl (lv_at hl 0 rfl) ?_
  rw [hQQ]
  exact W.iret (v := F_size) hx hb hr (fun t ht hW => by rw [← Option.some.inj hf]; rw [← hAe] at hD hS; exact ⟨⟨F_size, (), rfl, rfl, by rw [ht]; exact hP, hD⟩, hS.F ht⟩) hS.2.2 dX6_clear_11

set_option maxHeartbeats 4000000 in
set_option maxRecDepth 100000 in
theorem tX6_at (l : Launch) (D : va_G) (cI cJ cG : ClassId) (aF aF_kinds aF_vs aF_ws aF_roles aF_partner aF_lineOf aF_rank aF_behind aF_before aF_ways aF_inputOf aF_answer aF_values aF_printedRow aF_wasValues aF_wasPrinted aF_due aF_takenPlace aF_against : Nat) (Hs : Heap) (y1 : Int32) (F_lines : Int32) (F_model : Int32) (F_inputs : Int32) (F_size : Int32) (F_hints : Int32) (F_hasRun : Int32) (F_printedMany : Int32) (F_keptBits : Int32) (F_keptMany : Int32) (F_takenMany : Int32) (F_change : Int32) (F_who : Int32) (F_where : Int32) (F_h : Int64) (F_answer : (Nat → Int32)) (out : Int32) (hf : fX6_at y1 F_size F_answer = some out) : Met l yX6_at wsX6_at ({ frames := 1, cells := 0, slots := 0, locals := 22 }) (va_Pc [.ref aF, .int y1] (rP D (tyL cI cJ cG) [(aF, .inr (6, [.int F_lines, .ref aF_kinds, .ref aF_vs, .ref aF_ws, .ref aF_roles, .ref aF_partner, .int F_model, .ref aF_lineOf, .ref aF_rank, .ref aF_behind, .ref aF_before, .ref aF_ways, .int F_inputs, .ref aF_inputOf, .int F_size, .ref aF_answer, .int F_hints, .int F_hasRun, .ref aF_values, .int F_printedMany, .ref aF_printedRow, .ref aF_wasValues, .ref aF_wasPrinted, .ref aF_due, .int F_keptBits, .int F_keptMany, .int F_takenMany, .ref aF_takenPlace, .ref aF_against, .int F_change, .int F_who, .int F_where, .long F_h])), (aF_answer, eI cI 16 F_answer)] Hs)) (rQi out Hs) 0 0 (fun _ => False) := by
  refine Met.ofW (cc := cX6_at) (maxL := 2) (ret := (some .int)) (by decide) rfl ?_
  intro p e s m args below meth c s₁ B hml hv
  obtain ⟨rfl, rfl, hP, hK⟩ := hv
  have hx := B.exec
  have hb := B.bytes
  have hr := B.returns
  have hts := atoms_spec (ws := wsX6_at) B.pre
  have hown : s.vm.findClass RX6 = some m.cls := findClass_of_methodNamed B.named
  have hlocks := B.notSynchronized
  have iX6 : ∀ w ∈ wsX60, w ∈ wsX6_at := by decide +kernel
  have k44 := hts (.fieldLink RX6 44 "BlockMarkerModel" "answer" "[I") (by decide +kernel)
  have k79 := hts (.fieldLink RX6 79 "BlockMarkerModel" "size" "I") (by decide +kernel)
  have hS : va_S (fun _ => False) s.heap s.heap [] := va_S.rf
  have hl := lv_entry ([.ref aF, .int y1]) (n := 2) (Nat.le_of_ble_eq_true rfl)
  rw [lg_entry_eq]
  generalize (lg_sl ([.ref aF, .int y1]) ++ List.replicate (2 - (lg_sl ([.ref aF, .int y1])).length) Slot.unset).toArray = ls at hl ⊢
  have hl : lv_has ls 2 [(0, .ref aF), (1, .int y1)] := hl
  generalize hQQ : MQ below _ _ s 0 0 _ = QQ
  replace hQQ := hQQ.symm
  unfold fX6_at at hf
  refine lv_iload_n hx hb dX6_at_0 rfl (lv_at hl 1 rfl) ?_
  refine lv_iconst (v := (0 : Int32)) hx hb dX6_at_1 (by decide) ?_
  refine lv_aload_n hx hb dX6_at_2 rfl (lv_at hl 0 rfl) ?_
  refine va_get (D := D) (ci := 6) (v := .int F_size) (C := RX6) (T := TX6) (N := 33) hx hb hts iX6 hown hK.1 hP 0 rfl rfl 14 (by decide) k79 (fun _ h9 => h9) rfl dX6_at_3 ?_
  refine lv_iconst (v := (1 : Int32)) hx hb dX6_at_6 (by decide) ?_
  refine lv_isub hx hb dX6_at_7 ?_
  refine bnd hf (fun o8 e8 hf => ?_)
  refine rdSi (As := [.int y1, .int (0 : Int32), .int (F_size - (1 : Int32))]) (rest := []) ⟨hx, hb, hml, hown, hts⟩ (tX6_in l D cI cJ cG  s.heap y1 (0 : Int32) (F_size - (1 : Int32))  o8 e8) (va_cwS 3 hts gX6_at_X6_in rfl rfl rfl (by decide +kernel) ⟨Nat.le_of_ble_eq_true rfl, Nat.le_of_ble_eq_true rfl⟩) hK (hP.sub (ws' := []) [] rfl) rfl hl.1 rfl (lv_room (Nat.le_of_ble_eq_true rfl)) dX6_at_8 ⟨Nat.le_of_ble_eq_true rfl, Nat.le_of_ble_eq_true rfl⟩ hS (fun locs hS => ?_)
  refine lv_if_eq (tgt := 23) hx hb dX6_at_11 (by decide) (fun c11 => ?_) (fun c11 => ?_)
  · have hf := ifp hf c11
    refine lv_iconst (v := (-1 : Int32)) hx hb dX6_at_23 (by decide) ?_
    rw [hQQ]
    exact W.iret (v := (-1 : Int32)) hx hb hr (fun t ht hW => ⟨⟨(-1 : Int32), (), rfl, Option.some.inj hf, ht⟩, rF ht⟩) hS.2.2 dX6_at_24
  · have hf := ifn hf c11
    refine lv_aload_n hx hb dX6_at_14 rfl (lv_at hl 0 rfl) ?_
    refine va_get (D := D) (ci := 6) (v := .ref aF_answer) (C := RX6) (T := TX6) (N := 33) hx hb hts iX6 hown hK.1 hP 0 rfl rfl 15 (by decide) k44 (fun _ h9 => h9) rfl dX6_at_15 ?_
    refine lv_iload_n hx hb dX6_at_18 rfl (lv_at hl 1 rfl) ?_
    refine ckE hf (fun h19 hf => ?_)
    refine va_iald hx hb hK.1 hP 1 0 rfl rfl (inB_in h19) dX6_at_19 ?_
    refine lv_goto (tgt := 24) hx hb dX6_at_20 (by decide) ?_
    rw [hQQ]
    exact W.iret (v := (F_answer (y1).toNatClampNeg)) hx hb hr (fun t ht hW => ⟨⟨(F_answer (y1).toNatClampNeg), (), rfl, Option.some.inj hf, ht⟩, rF ht⟩) hS.2.2 dX6_at_24

set_option maxHeartbeats 4000000 in
set_option maxRecDepth 100000 in
theorem tX6_size (l : Launch) (D : va_G) (cI cJ cG : ClassId) (aF aF_kinds aF_vs aF_ws aF_roles aF_partner aF_lineOf aF_rank aF_behind aF_before aF_ways aF_inputOf aF_answer aF_values aF_printedRow aF_wasValues aF_wasPrinted aF_due aF_takenPlace aF_against : Nat) (Hs : Heap)  (F_lines : Int32) (F_model : Int32) (F_inputs : Int32) (F_size : Int32) (F_hints : Int32) (F_hasRun : Int32) (F_printedMany : Int32) (F_keptBits : Int32) (F_keptMany : Int32) (F_takenMany : Int32) (F_change : Int32) (F_who : Int32) (F_where : Int32) (F_h : Int64) (out : Int32) (hf : fX6_size F_size = some out) : Met l yX6_size wsX6_size ({ frames := 0, cells := 0, slots := 0, locals := 0 }) (va_Pc [.ref aF] (rP D (tyL cI cJ cG) [(aF, .inr (6, [.int F_lines, .ref aF_kinds, .ref aF_vs, .ref aF_ws, .ref aF_roles, .ref aF_partner, .int F_model, .ref aF_lineOf, .ref aF_rank, .ref aF_behind, .ref aF_before, .ref aF_ways, .int F_inputs, .ref aF_inputOf, .int F_size, .ref aF_answer, .int F_hints, .int F_hasRun, .ref aF_values, .int F_printedMany, .ref aF_printedRow, .ref aF_wasValues, .ref aF_wasPrinted, .ref aF_due, .int F_keptBits, .int F_keptMany, .int F_takenMany, .ref aF_takenPlace, .ref aF_against, .int F_change, .int F_who, .int F_where, .long F_h]))] Hs)) (rQi out Hs) 0 0 (fun _ => False) := by
  refine Met.ofW (cc := cX6_size) (maxL := 1) (ret := (some .int)) (by decide) rfl ?_
  intro p e s m args below meth c s₁ B hml hv
  obtain ⟨rfl, rfl, hP, hK⟩ := hv
  have hx := B.exec
  have hb := B.bytes
  have hr := B.returns
  have hts := atoms_spec (ws := wsX6_size) B.pre
  have hown : s.vm.findClass RX6 = some m.cls := findClass_of_methodNamed B.named
  have hlocks := B.notSynchronized
  have iX6 : ∀ w ∈ wsX60, w ∈ wsX6_size := by decide +kernel
  have k79 := hts (.fieldLink RX6 79 "BlockMarkerModel" "size" "I") (by decide +kernel)
  have hS : va_S (fun _ => False) s.heap s.heap [] := va_S.rf
  have hl := lv_entry ([.ref aF]) (n := 1) (Nat.le_of_ble_eq_true rfl)
  rw [lg_entry_eq]
  generalize (lg_sl ([.ref aF]) ++ List.replicate (1 - (lg_sl ([.ref aF])).length) Slot.unset).toArray = ls at hl ⊢
  have hl : lv_has ls 1 [(0, .ref aF)] := hl
  generalize hQQ : MQ below _ _ s 0 0 _ = QQ
  replace hQQ := hQQ.symm
  unfold fX6_size at hf
  refine lv_aload_n hx hb dX6_size_0 rfl (lv_at hl 0 rfl) ?_
  refine va_get (D := D) (ci := 6) (v := .int F_size) (C := RX6) (T := TX6) (N := 33) hx hb hts iX6 hown hK.1 hP 0 rfl rfl 14 (by decide) k79 (fun _ h9 => h9) rfl dX6_size_1 ?_
  rw [hQQ]
  exact W.iret (v := F_size) hx hb hr (fun t ht hW => ⟨⟨F_size, (), rfl, Option.some.inj hf, ht⟩, rF ht⟩) hS.2.2 dX6_size_4

