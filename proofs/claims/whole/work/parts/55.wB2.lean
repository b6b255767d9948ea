set_option maxHeartbeats 4000000 in
set_option maxRecDepth 100000 in
theorem tX5_alike (l : Launch) (D : va_G) (cI cJ cG : ClassId) (aB aL aM aA aK aB_inputs aC1 aC2 aC3 aB_r0 aB_r1 aB_r2 aB_r3 aB_r4 aB_r5 aB_r6 aB_r7 aL_kinds aL_vs aL_ws aL_roles aL_mates aM_numbers aM_ranks aM_ahead aM_ways aA_row aC2_variables aC2_prints aC3_variables aC3_prints : Nat) (sz : Nat)  (B_manyInputs : Int32) (B_hintsDone : Int32) (B_inp : (Nat → Nat → Int32)) (L_many : Int32) (L_kinds : (Nat → Int32)) (L_vs : (Nat → Int32)) (L_ws : (Nat → Int32)) (L_roles : (Nat → Int32)) (L_mates : (Nat → Int32)) (M_length : Int32) (M_waysCounted : Int32) (M_numbers : (Nat → Int32)) (A_length : Int32) (A_row : (Nat → Int32)) (C2_manyPrints : Int32) (C2_variables : (Nat → Int32)) (C2_prints : (Nat → Int32)) (C3_manyPrints : Int32) (C3_variables : (Nat → Int32)) (C3_prints : (Nat → Int32)) (out : Int32 × Int32 × (Nat → Int32) × (Nat → Int32) × Int32 × (Nat → Int32) × (Nat → Int32)) (hf : fX5_alike B_manyInputs B_inp L_many L_kinds L_vs L_ws L_roles L_mates M_length M_numbers A_length A_row C2_manyPrints C2_variables C2_prints C3_manyPrints C3_variables C3_prints = some out) : Met l yX5_alike wsX5_alike ({ frames := 4, cells := 0, slots := 0, locals := 106 }) (va_Pc [.ref aB] (wP D (tyL cI cJ cG) [(aB, .inr (5, [.ref aL, .ref aM, .ref aA, .ref aK, .ref aB_inputs, .int B_manyInputs, .int B_hintsDone, .ref aC1, .ref aC2, .ref aC3])), (aB_inputs, eG cG aB_r0 aB_r1 aB_r2 aB_r3 aB_r4 aB_r5 aB_r6 aB_r7), (aB_r0, eI cI 6 (B_inp 0)), (aB_r1, eI cI 6 (B_inp 1)), (aB_r2, eI cI 6 (B_inp 2)), (aB_r3, eI cI 6 (B_inp 3)), (aB_r4, eI cI 6 (B_inp 4)), (aB_r5, eI cI 6 (B_inp 5)), (aB_r6, eI cI 6 (B_inp 6)), (aB_r7, eI cI 6 (B_inp 7)), (aL, .inr (1, [.ref aL_kinds, .ref aL_vs, .ref aL_ws, .ref aL_roles, .ref aL_mates, .int L_many])), (aL_kinds, eI cI 16 L_kinds), (aL_vs, eI cI 16 L_vs), (aL_ws, eI cI 16 L_ws), (aL_roles, eI cI 16 L_roles), (aL_mates, eI cI 16 L_mates), (aM, .inr (4, [.ref aM_numbers, .ref aM_ranks, .ref aM_ahead, .int M_length, .ref aM_ways, .int M_waysCounted])), (aM_numbers, eI cI 12 M_numbers), (aA, .inr (0, [.ref aA_row, .int A_length])), (aA_row, eI cI 16 A_row), (aC2, .inr (2, [.ref aC2_variables, .ref aC2_prints, .int C2_manyPrints])), (aC2_variables, eI cI 6 C2_variables), (aC2_prints, eI cI 16 C2_prints), (aC3, .inr (2, [.ref aC3_variables, .ref aC3_prints, .int C3_manyPrints])), (aC3_variables, eI cI 6 C3_variables), (aC3_prints, eI cI 16 C3_prints)] sz)) (wQi D out.1 [(aB, .inr (5, [.ref aL, .ref aM, .ref aA, .ref aK, .ref aB_inputs, .int B_manyInputs, .int B_hintsDone, .ref aC1, .ref aC2, .ref aC3])), (aB_inputs, eG cG aB_r0 aB_r1 aB_r2 aB_r3 aB_r4 aB_r5 aB_r6 aB_r7), (aB_r0, eI cI 6 (B_inp 0)), (aB_r1, eI cI 6 (B_inp 1)), (aB_r2, eI cI 6 (B_inp 2)), (aB_r3, eI cI 6 (B_inp 3)), (aB_r4, eI cI 6 (B_inp 4)), (aB_r5, eI cI 6 (B_inp 5)), (aB_r6, eI cI 6 (B_inp 6)), (aB_r7, eI cI 6 (B_inp 7)), (aL, .inr (1, [.ref aL_kinds, .ref aL_vs, .ref aL_ws, .ref aL_roles, .ref aL_mates, .int L_many])), (aL_kinds, eI cI 16 L_kinds), (aL_vs, eI cI 16 L_vs), (aL_ws, eI cI 16 L_ws), (aL_roles, eI cI 16 L_roles), (aL_mates, eI cI 16 L_mates), (aM, .inr (4, [.ref aM_numbers, .ref aM_ranks, .ref aM_ahead, .int M_length, .ref aM_ways, .int M_waysCounted])), (aM_numbers, eI cI 12 M_numbers), (aA, .inr (0, [.ref aA_row, .int A_length])), (aA_row, eI cI 16 A_row), (aC2, .inr (2, [.ref aC2_variables, .ref aC2_prints, .int C2_manyPrints])), (aC2_variables, eI cI 6 C2_variables), (aC2_prints, eI cI 16 C2_prints), (aC3, .inr (2, [.ref aC3_variables, .ref aC3_prints, .int C3_manyPrints])), (aC3_variables, eI cI 6 C3_variables), (aC3_prints, eI cI 16 C3_prints)] [(aB, .inr (5, [.ref aL, .ref aM, .ref aA, .ref aK, .ref aB_inputs, .int B_manyInputs, .int B_hintsDone, .ref aC1, .ref aC2, .ref aC3])), (aB_inputs, eG cG aB_r0 aB_r1 aB_r2 aB_r3 aB_r4 aB_r5 aB_r6 aB_r7), (aB_r0, eI cI 6 (B_inp 0)), (aB_r1, eI cI 6 (B_inp 1)), (aB_r2, eI cI 6 (B_inp 2)), (aB_r3, eI cI 6 (B_inp 3)), (aB_r4, eI cI 6 (B_inp 4)), (aB_r5, eI cI 6 (B_inp 5)), (aB_r6, eI cI 6 (B_inp 6)), (aB_r7, eI cI 6 (B_inp 7)), (aL, .inr (1, [.ref aL_kinds, .ref aL_vs, .ref aL_ws, .ref aL_roles, .ref aL_mates, .int L_many])), (aL_kinds, eI cI 16 L_kinds), (aL_vs, eI cI 16 L_vs), (aL_ws, eI cI 16 L_ws), (aL_roles, eI cI 16 L_roles), (aL_mates, eI cI 16 L_mates), (aM, .inr (4, [.ref aM_numbers, .ref aM_ranks, .ref aM_ahead, .int M_length, .ref aM_ways, .int M_waysCounted])), (aM_numbers, eI cI 12 M_numbers), (aA, .inr (0, [.ref aA_row, .int A_length])), (aA_row, eI cI 16 A_row), (aC2, .inr (2, [.ref aC2_variables, .ref aC2_prints, .int out.2.1])), (aC2_variables, eI cI 6 out.2.2.1), (aC2_prints, eI cI 16 out.2.2.2.1), (aC3, .inr (2, [.ref aC3_variables, .ref aC3_prints, .int out.2.2.2.2.1])), (aC3_variables, eI cI 6 out.2.2.2.2.2.1), (aC3_prints, eI cI 16 out.2.2.2.2.2.2)] sz) 0 0 (va_A [(aB, .inr (5, [.ref aL, .ref aM, .ref aA, .ref aK, .ref aB_inputs, .int B_manyInputs, .int B_hintsDone, .ref aC1, .ref aC2, .ref aC3])), (aB_inputs, eG cG aB_r0 aB_r1 aB_r2 aB_r3 aB_r4 aB_r5 aB_r6 aB_r7), (aB_r0, eI cI 6 (B_inp 0)), (aB_r1, eI cI 6 (B_inp 1)), (aB_r2, eI cI 6 (B_inp 2)), (aB_r3, eI cI 6 (B_inp 3)), (aB_r4, eI cI 6 (B_inp 4)), (aB_r5, eI cI 6 (B_inp 5)), (aB_r6, eI cI 6 (B_inp 6)), (aB_r7, eI cI 6 (B_inp 7)), (aL, .inr (1, [.ref aL_kinds, .ref aL_vs, .ref aL_ws, .ref aL_roles, .ref aL_mates, .int L_many])), (aL_kinds, eI cI 16 L_kinds), (aL_vs, eI cI 16 L_vs), (aL_ws, eI cI 16 L_ws), (aL_roles, eI cI 16 L_roles), (aL_mates, eI cI 16 L_mates), (aM, .inr (4, [.ref aM_numbers, .ref aM_ranks, .ref aM_ahead, .int M_length, .ref aM_ways, .int M_waysCounted])), (aM_numbers, eI cI 12 M_numbers), (aA, .inr (0, [.ref aA_row, .int A_length])), (aA_row, eI cI 16 A_row), (aC2, .inr (2, [.ref aC2_variables, .ref aC2_prints, .int C2_manyPrints])), (aC2_variables, eI cI 6 C2_variables), (aC2_prints, eI cI 16 C2_prints), (aC3, .inr (2, [.ref aC3_variables, .ref aC3_prints, .int C3_manyPrints])), (aC3_variables, eI cI 6 C3_variables), (aC3_prints, eI cI 16 C3_prints)] sz) := by
  refine Met.ofW (cc := cX5_alike) (maxL := 2) (ret := (some .int)) (by decide) rfl ?_
  intro p e s m args below meth c s₁ B hml hv
  obtain ⟨rfl, hsz, hP, hK, hD0⟩ := hv
  have hx := B.exec
  have hb := B.bytes
  have hr := B.returns
  have hts := atoms_spec (ws := wsX5_alike) B.pre
  have hown : s.vm.findClass RX5 = some m.cls := findClass_of_methodNamed B.named
  have hlocks := B.notSynchronized
  have iX5 : ∀ w ∈ wsX50, w ∈ wsX5_alike := by decide +kernel
  have k51 := hts (.fieldLink RX5 51 "BlockMarker" "answerMachine" "LBlockMarker$Machine;") (by decide +kernel)
  have k54 := hts (.fieldLink RX5 54 "BlockMarker" "modelMachine" "LBlockMarker$Machine;") (by decide +kernel)
  have k88 := hts (.fieldLink RX5 88 "BlockMarker" "manyInputs" "I") (by decide +kernel)
  subst hsz
  have hD := hD0.self (sz := s.heap.size)
  generalize hAe : va_A [(aB, .inr (5, [.ref aL, .ref aM, .ref aA, .ref aK, .ref aB_inputs, .int B_manyInputs, .int B_hintsDone, .ref aC1, .ref aC2, .ref aC3])), (aB_inputs, eG cG aB_r0 aB_r1 aB_r2 aB_r3 aB_r4 aB_r5 aB_r6 aB_r7), (aB_r0, eI cI 6 (B_inp 0)), (aB_r1, eI cI 6 (B_inp 1)), (aB_r2, eI cI 6 (B_inp 2)), (aB_r3, eI cI 6 (B_inp 3)), (aB_r4, eI cI 6 (B_inp 4)), (aB_r5, eI cI 6 (B_inp 5)), (aB_r6, eI cI 6 (B_inp 6)), (aB_r7, eI cI 6 (B_inp 7)), (aL, .inr (1, [.ref aL_kinds, .ref aL_vs, .ref aL_ws, .ref aL_roles, .ref aL_mates, .int L_many])), (aL_kinds, eI cI 16 L_kinds), (aL_vs, eI cI 16 L_vs), (aL_ws, eI cI 16 L_ws), (aL_roles, eI cI 16 L_roles), (aL_mates, eI cI 16 L_mates), (aM, .inr (4, [.ref aM_numbers, .ref aM_ranks, .ref aM_ahead, .int M_length, .ref aM_ways, .int M_waysCounted])), (aM_numbers, eI cI 12 M_numbers), (aA, .inr (0, [.ref aA_row, .int A_length])), (aA_row, eI cI 16 A_row), (aC2, .inr (2, [.ref aC2_variables, .ref aC2_prints, .int C2_manyPrints])), (aC2_variables, eI cI 6 C2_variables), (aC2_prints, eI cI 16 C2_prints), (aC3, .inr (2, [.ref aC3_variables, .ref aC3_prints, .int C3_manyPrints])), (aC3_variables, eI cI 6 C3_variables), (aC3_prints, eI cI 16 C3_prints)] s.heap.size = A at hD ⊢
  have hA : ∀ q : Nat, s.heap.size ≤ q → A q := fun q h => by rw [← hAe]; exact Or.inr h
  have hS : va_S A s.heap s.heap [] := va_S.rf
  have hl := lv_entry ([.ref aB]) (n := 2) (Nat.le_of_ble_eq_true rfl)
  rw [lg_entry_eq]
  generalize (lg_sl ([.ref aB]) ++ List.replicate (2 - (lg_sl ([.ref aB])).length) Slot.unset).toArray = ls at hl ⊢
  have hl : lv_has ls 2 [(0, .ref aB)] := hl
  generalize hQQ : MQ below _ _ s 0 0 _ = QQ
  replace hQQ := hQQ.symm
  have b_2 : ∀ (n : Nat), ∀ (x1 : Int32) (C2_manyPrints : Int32) (C2_variables : (Nat → Int32)) (C2_prints : (Nat → Int32)) (C3_manyPrints : Int32) (C3_variables : (Nat → Int32)) (C3_prints : (Nat → Int32)), fX5_alike_h2  n x1 B_manyInputs B_inp L_many L_kinds L_vs L_ws L_roles L_mates M_length M_numbers A_length A_row C2_manyPrints C2_variables C2_prints C3_manyPrints C3_variables C3_prints = some out → ∀ (H : Heap) (locs : List Loc) (ls : Array Slot), va_P D vwCl [(aB, .inr (5, [.ref aL, .ref aM, .ref aA, .ref aK, .ref aB_inputs, .int B_manyInputs, .int B_hintsDone, .ref aC1, .ref aC2, .ref aC3])), (aB_inputs, eG cG aB_r0 aB_r1 aB_r2 aB_r3 aB_r4 aB_r5 aB_r6 aB_r7), (aB_r0, eI cI 6 (B_inp 0)), (aB_r1, eI cI 6 (B_inp 1)), (aB_r2, eI cI 6 (B_inp 2)), (aB_r3, eI cI 6 (B_inp 3)), (aB_r4, eI cI 6 (B_inp 4)), (aB_r5, eI cI 6 (B_inp 5)), (aB_r6, eI cI 6 (B_inp 6)), (aB_r7, eI cI 6 (B_inp 7)), (aL, .inr (1, [.ref aL_kinds, .ref aL_vs, .ref aL_ws, .ref aL_roles, .ref aL_mates, .int L_many])), (aL_kinds, eI cI 16 L_kinds), (aL_vs, eI cI 16 L_vs), (aL_ws, eI cI 16 L_ws), (aL_roles, eI cI 16 L_roles), (aL_mates, eI cI 16 L_mates), (aM, .inr (4, [.ref aM_numbers, .ref aM_ranks, .ref aM_ahead, .int M_length, .ref aM_ways, .int M_waysCounted])), (aM_numbers, eI cI 12 M_numbers), (aA, .inr (0, [.ref aA_row, .int A_length])), (aA_row, eI cI 16 A_row), (aC2, .inr (2, [.ref aC2_variables, .ref aC2_prints, .int C2_manyPrints])), (aC2_variables, eI cI 6 C2_variables), (aC2_prints, eI cI 16 C2_prints), (aC3, .inr (2, [.ref aC3_variables, .ref aC3_prints, .int C3_manyPrints])), (aC3_variables, eI cI 6 C3_variables), (aC3_prints, eI cI 16 C3_prints)] H → va_D A [(aB, .inr (5, [.ref aL, .ref aM, .ref aA, .ref aK, .ref aB_inputs, .int B_manyInputs, .int B_hintsDone, .ref aC1, .ref aC2, .ref aC3])), (aB_inputs, eG cG aB_r0 aB_r1 aB_r2 aB_r3 aB_r4 aB_r5 aB_r6 aB_r7), (aB_r0, eI cI 6 (B_inp 0)), (aB_r1, eI cI 6 (B_inp 1)), (aB_r2, eI cI 6 (B_inp 2)), (aB_r3, eI cI 6 (B_inp 3)), (aB_r4, eI cI 6 (B_inp 4)), (aB_r5, eI cI 6 (B_inp 5)), (aB_r6, eI cI 6 (B_inp 6)), (aB_r7, eI cI 6 (B_inp 7)), (aL, .inr (1, [.ref aL_kinds, .ref aL_vs, .ref aL_ws, .ref aL_roles, .ref aL_mates, .int L_many])), (aL_kinds, eI cI 16 L_kinds), (aL_vs, eI cI 16 L_vs), (aL_ws, eI cI 16 L_ws), (aL_roles, eI cI 16 L_roles), (aL_mates, eI cI 16 L_mates), (aM, .inr (4, [.ref aM_numbers, .ref aM_ranks, .ref aM_ahead, .int M_length, .ref aM_ways, .int M_waysCounted])), (aM_numbers, eI cI 12 M_numbers), (aA, .inr (0, [.ref aA_row, .int A_length])), (aA_row, eI cI 16 A_row), (aC2, .inr (2, [.ref aC2_variables, .ref aC2_prints, .int C2_manyPrints])), (aC2_variables, eI cI 6 C2_variables), (aC2_prints, eI cI 16 C2_prints), (aC3, .inr (2, [.ref aC3_variables, .ref aC3_prints, .int C3_manyPrints])), (aC3_variables, eI cI 6 C3_variables), (aC3_prints, eI cI 16 C3_prints)] → va_S A s.heap H locs → lv_has ls 2 [(0, .ref aB), (1, .int x1)] → W p l e (headSpec wsX5_alike { frames := 4, cells := 0, slots := 0, locals := 106 }).room s m ([.ref aB] : List Value).toArray below meth c H locs 0 0 QQ (F0 m 2 ls []) := by
    intro  n
    induction n with
    | zero => intro x1 C2_manyPrints C2_variables C2_prints C3_manyPrints C3_variables C3_prints hf; exact nomatch (show (none : Option (Int32 × Int32 × (Nat → Int32) × (Nat → Int32) × Int32 × (Nat → Int32) × (Nat → Int32))) = some out from hf)
    | succ n ih =>
      intro x1 C2_manyPrints C2_variables C2_prints C3_manyPrints C3_variables C3_prints hf H locs ls hP hD hS hl
      replace hf : uX5_alike_h2  (fX5_alike_h2  n) x1 B_manyInputs B_inp L_many L_kinds L_vs L_ws L_roles L_mates M_length M_numbers A_length A_row C2_manyPrints C2_variables C2_prints C3_manyPrints C3_variables C3_prints = some out := hf
      unfold uX5_alike_h2 at hf
      refine lv_iload_n hx hb dX5_alike_2 rfl (lv_at hl 1 rfl) ?_
      refine lv_aload_n hx hb dX5_alike_3 rfl (lv_at hl 0 rfl) ?_
      refine va_get (D := D) (ci := 5) (v := .int B_manyInputs) (C := RX5) (T := TX5) (N := 10) hx hb hts iX5 hown hK.1 hP 0 rfl rfl 5 (by decide) k88 (fun _ h9 => h9) rfl dX5_alike_4 ?_
      refine lv_icmp_ge (tgt := 52) hx hb dX5_alike_7 (by decide) (fun c7 => ?_) (fun c7 => ?_)
      · have hf := ifp hf c7
        refine lv_iconst (v := (-1 : Int32)) hx hb dX5_alike_52 (by decide) ?_
        rw [hQQ]
        exact W.iret (v := (-1 : Int32)) hx hb hr (fun t ht hW => by rw [← Option.some.inj hf]; rw [← hAe] at hD hS; exact ⟨⟨(-1 : Int32), (), rfl, rfl, by rw [ht]; exact hP, hD⟩, hS.F ht⟩) hS.2.2 dX5_alike_53
      · have hf := ifn hf c7
        refine lv_aload_n hx hb dX5_alike_10 rfl (lv_at hl 0 rfl) ?_
        refine lv_aload_n hx hb dX5_alike_11 rfl (lv_at hl 0 rfl) ?_
        refine va_get (D := D) (ci := 5) (v := .ref aC2) (C := RX5) (T := TX5) (N := 10) hx hb hts iX5 hown hK.1 hP 0 rfl rfl 8 (by decide) k51 (fun _ h9 => h9) rfl dX5_alike_12 ?_
        refine lv_iload_n hx hb dX5_alike_15 rfl (lv_at hl 1 rfl) ?_
        refine lv_iconst (v := (0 : Int32)) hx hb dX5_alike_16 (by decide) ?_
        refine bnd hf (fun o17 e17 hf => ?_)
        refine wrVv (As := [.ref aC2, .int x1, .int (0 : Int32)]) (rest := []) (cw := [(aB, .inr (5, [.ref aL, .ref aM, .ref aA, .ref aK, .ref aB_inputs, .int B_manyInputs, .int B_hintsDone, .ref aC1, .ref aC2, .ref aC3])), (aB_inputs, eG cG aB_r0 aB_r1 aB_r2 aB_r3 aB_r4 aB_r5 aB_r6 aB_r7), (aB_r0, eI cI 6 (B_inp 0)), (aB_r1, eI cI 6 (B_inp 1)), (aB_r2, eI cI 6 (B_inp 2)), (aB_r3, eI cI 6 (B_inp 3)), (aB_r4, eI cI 6 (B_inp 4)), (aB_r5, eI cI 6 (B_inp 5)), (aB_r6, eI cI 6 (B_inp 6)), (aB_r7, eI cI 6 (B_inp 7)), (aL, .inr (1, [.ref aL_kinds, .ref aL_vs, .ref aL_ws, .ref aL_roles, .ref aL_mates, .int L_many])), (aL_kinds, eI cI 16 L_kinds), (aL_vs, eI cI 16 L_vs), (aL_ws, eI cI 16 L_ws), (aL_roles, eI cI 16 L_roles), (aL_mates, eI cI 16 L_mates), (aM, .inr (4, [.ref aM_numbers, .ref aM_ranks, .ref aM_ahead, .int M_length, .ref aM_ways, .int M_waysCounted])), (aM_numbers, eI cI 12 M_numbers), (aA, .inr (0, [.ref aA_row, .int A_length])), (aA_row, eI cI 16 A_row), (aC2, .inr (2, [.ref aC2_variables, .ref aC2_prints, .int C2_manyPrints])), (aC2_variables, eI cI 6 C2_variables), (aC2_prints, eI cI 16 C2_prints)]) (cw' := [(aB, .inr (5, [.ref aL, .ref aM, .ref aA, .ref aK, .ref aB_inputs, .int B_manyInputs, .int B_hintsDone, .ref aC1, .ref aC2, .ref aC3])), (aB_inputs, eG cG aB_r0 aB_r1 aB_r2 aB_r3 aB_r4 aB_r5 aB_r6 aB_r7), (aB_r0, eI cI 6 (B_inp 0)), (aB_r1, eI cI 6 (B_inp 1)), (aB_r2, eI cI 6 (B_inp 2)), (aB_r3, eI cI 6 (B_inp 3)), (aB_r4, eI cI 6 (B_inp 4)), (aB_r5, eI cI 6 (B_inp 5)), (aB_r6, eI cI 6 (B_inp 6)), (aB_r7, eI cI 6 (B_inp 7)), (aL, .inr (1, [.ref aL_kinds, .ref aL_vs, .ref aL_ws, .ref aL_roles, .ref aL_mates, .int L_many])), (aL_kinds, eI cI 16 L_kinds), (aL_vs, eI cI 16 L_vs), (aL_ws, eI cI 16 L_ws), (aL_roles, eI cI 16 L_roles), (aL_mates, eI cI 16 L_mates), (aM, .inr (4, [.ref aM_numbers, .ref aM_ranks, .ref aM_ahead, .int M_length, .ref aM_ways, .int M_waysCounted])), (aM_numbers, eI cI 12 M_numbers), (aA, .inr (0, [.ref aA_row, .int A_length])), (aA_row, eI cI 16 A_row), (aC2, .inr (2, [.ref aC2_variables, .ref aC2_prints, .int o17.1])), (aC2_variables, eI cI 6 o17.2.1), (aC2_prints, eI cI 16 o17.2.2)]) (wr := [(aC3, .inr (2, [.ref aC3_variables, .ref aC3_prints, .int C3_manyPrints])), (aC3_variables, eI cI 6 C3_variables), (aC3_prints, eI cI 16 C3_prints)]) (ws2 := [(aB, .inr (5, [.ref aL, .ref aM, .ref aA, .ref aK, .ref aB_inputs, .int B_manyInputs, .int B_hintsDone, .ref aC1, .ref aC2, .ref aC3])), (aB_inputs, eG cG aB_r0 aB_r1 aB_r2 aB_r3 aB_r4 aB_r5 aB_r6 aB_r7), (aB_r0, eI cI 6 (B_inp 0)), (aB_r1, eI cI 6 (B_inp 1)), (aB_r2, eI cI 6 (B_inp 2)), (aB_r3, eI cI 6 (B_inp 3)), (aB_r4, eI cI 6 (B_inp 4)), (aB_r5, eI cI 6 (B_inp 5)), (aB_r6, eI cI 6 (B_inp 6)), (aB_r7, eI cI 6 (B_inp 7)), (aL, .inr (1, [.ref aL_kinds, .ref aL_vs, .ref aL_ws, .ref aL_roles, .ref aL_mates, .int L_many])), (aL_kinds, eI cI 16 L_kinds), (aL_vs, eI cI 16 L_vs), (aL_ws, eI cI 16 L_ws), (aL_roles, eI cI 16 L_roles), (aL_mates, eI cI 16 L_mates), (aM, .inr (4, [.ref aM_numbers, .ref aM_ranks, .ref aM_ahead, .int M_length, .ref aM_ways, .int M_waysCounted])), (aM_numbers, eI cI 12 M_numbers), (aA, .inr (0, [.ref aA_row, .int A_length])), (aA_row, eI cI 16 A_row), (aC2, .inr (2, [.ref aC2_variables, .ref aC2_prints, .int o17.1])), (aC2_variables, eI cI 6 o17.2.1), (aC2_prints, eI cI 16 o17.2.2), (aC3, .inr (2, [.ref aC3_variables, .ref aC3_prints, .int C3_manyPrints])), (aC3_variables, eI cI 6 C3_variables), (aC3_prints, eI cI 16 C3_prints)]) ⟨hx, hb, hml, hown, hts⟩ (tX5_perform l D cI cJ cG aB aL aM aA aK aB_inputs aC1 aC2 aC3 aB_r0 aB_r1 aB_r2 aB_r3 aB_r4 aB_r5 aB_r6 aB_r7 aL_kinds aL_vs aL_ws aL_roles aL_mates aM_numbers aM_ranks aM_ahead aM_ways aA_row aC2 aC2_variables aC2_prints H.size x1 (0 : Int32) B_manyInputs B_hintsDone B_inp L_many L_kinds L_vs L_ws L_roles L_mates M_length M_waysCounted M_numbers A_length A_row C2_manyPrints C2_variables C2_prints o17 e17) (cwV 3 hts gX5_alike_X5_perform rfl rfl rfl (by decide +kernel) ⟨Nat.le_of_ble_eq_true rfl, Nat.le_of_ble_eq_true rfl⟩) (va_recv (ci := 5) (q0 := 0) hK.1 hP rfl rfl) hK hP hD hS hA [0, 1, 2, 3, 4, 5, 6, 7, 8, 9, 10, 11, 12, 13, 14, 15, 16, 17, 18, 19, 20, 21, 22] [23, 24, 25] [3, 4, 5, 6, 7, 8, 9, 10, 11, 12, 13, 14, 15, 16, 17, 18, 19, 20, 21, 22, 23, 24, 25, 0, 1, 2] rfl rfl rfl (by decide) (by decide) (by decide) (by decide) rfl hl.1 rfl (lv_room (Nat.le_of_ble_eq_true rfl)) dX5_alike_17 ⟨Nat.le_of_ble_eq_true rfl, Nat.le_of_ble_eq_true rfl⟩ (fun H locs hP hD hS => ?_)
        refine lv_aload_n hx hb dX5_alike_20 rfl (lv_at hl 0 rfl) ?_
        refine lv_aload_n hx hb dX5_alike_21 rfl (lv_at hl 0 rfl) ?_
        refine va_get (D := D) (ci := 5) (v := .ref aC3) (C := RX5) (T := TX5) (N := 10) hx hb hts iX5 hown hK.1 hP 0 rfl rfl 9 (by decide) k54 (fun _ h9 => h9) rfl dX5_alike_22 ?_
        refine lv_iload_n hx hb dX5_alike_25 rfl (lv_at hl 1 rfl) ?_
        refine lv_iconst (v := (1 : Int32)) hx hb dX5_alike_26 (by decide) ?_
        refine bnd hf (fun o27 e27 hf => ?_)
        refine wrVv (As := [.ref aC3, .int x1, .int (1 : Int32)]) (rest := []) (cw := [(aB, .inr (5, [.ref aL, .ref aM, .ref aA, .ref aK, .ref aB_inputs, .int B_manyInputs, .int B_hintsDone, .ref aC1, .ref aC2, .ref aC3])), (aB_inputs, eG cG aB_r0 aB_r1 aB_r2 aB_r3 aB_r4 aB_r5 aB_r6 aB_r7), (aB_r0, eI cI 6 (B_inp 0)), (aB_r1, eI cI 6 (B_inp 1)), (aB_r2, eI cI 6 (B_inp 2)), (aB_r3, eI cI 6 (B_inp 3)), (aB_r4, eI cI 6 (B_inp 4)), (aB_r5, eI cI 6 (B_inp 5)), (aB_r6, eI cI 6 (B_inp 6)), (aB_r7, eI cI 6 (B_inp 7)), (aL, .inr (1, [.ref aL_kinds, .ref aL_vs, .ref aL_ws, .ref aL_roles, .ref aL_mates, .int L_many])), (aL_kinds, eI cI 16 L_kinds), (aL_vs, eI cI 16 L_vs), (aL_ws, eI cI 16 L_ws), (aL_roles, eI cI 16 L_roles), (aL_mates, eI cI 16 L_mates), (aM, .inr (4, [.ref aM_numbers, .ref aM_ranks, .ref aM_ahead, .int M_length, .ref aM_ways, .int M_waysCounted])), (aM_numbers, eI cI 12 M_numbers), (aA, .inr (0, [.ref aA_row, .int A_length])), (aA_row, eI cI 16 A_row), (aC3, .inr (2, [.ref aC3_variables, .ref aC3_prints, .int C3_manyPrints])), (aC3_variables, eI cI 6 C3_variables), (aC3_prints, eI cI 16 C3_prints)]) (cw' := [(aB, .inr (5, [.ref aL, .ref aM, .ref aA, .ref aK, .ref aB_inputs, .int B_manyInputs, .int B_hintsDone, .ref aC1, .ref aC2, .ref aC3])), (aB_inputs, eG cG aB_r0 aB_r1 aB_r2 aB_r3 aB_r4 aB_r5 aB_r6 aB_r7), (aB_r0, eI cI 6 (B_inp 0)), (aB_r1, eI cI 6 (B_inp 1)), (aB_r2, eI cI 6 (B_inp 2)), (aB_r3, eI cI 6 (B_inp 3)), (aB_r4, eI cI 6 (B_inp 4)), (aB_r5, eI cI 6 (B_inp 5)), (aB_r6, eI cI 6 (B_inp 6)), (aB_r7, eI cI 6 (B_inp 7)), (aL, .inr (1, [.ref aL_kinds, .ref aL_vs, .ref aL_ws, .ref aL_roles, .ref aL_mates, .int L_many])), (aL_kinds, eI cI 16 L_kinds), (aL_vs, eI cI 16 L_vs), (aL_ws, eI cI 16 L_ws), (aL_roles, eI cI 16 L_roles), (aL_mates, eI cI 16 L_mates), (aM, .inr (4, [.ref aM_numbers, .ref aM_ranks, .ref aM_ahead, .int M_length, .ref aM_ways, .int M_waysCounted])), (aM_numbers, eI cI 12 M_numbers), (aA, .inr (0, [.ref aA_row, .int A_length])), (aA_row, eI cI 16 A_row), (aC3, .inr (2, [.ref aC3_variables, .ref aC3_prints, .int o27.1])), (aC3_variables, eI cI 6 o27.2.1), (aC3_prints, eI cI 16 o27.2.2)]) (wr := [(aC2, .inr (2, [.ref aC2_variables, .ref aC2_prints, .int o17.1])), (aC2_variables, eI cI 6 o17.2.1), (aC2_prints, eI cI 16 o17.2.2)]) (ws2 := [(aB, .inr (5, [.ref aL, .ref aM, .ref aA, .ref aK, .ref aB_inputs, .int B_manyInputs, .int B_hintsDone, .ref aC1, .ref aC2, .ref aC3])), (aB_inputs, eG cG aB_r0 aB_r1 aB_r2 aB_r3 aB_r4 aB_r5 aB_r6 aB_r7), (aB_r0, eI cI 6 (B_inp 0)), (aB_r1, eI cI 6 (B_inp 1)), (aB_r2, eI cI 6 (B_inp 2)), (aB_r3, eI cI 6 (B_inp 3)), (aB_r4, eI cI 6 (B_inp 4)), (aB_r5, eI cI 6 (B_inp 5)), (aB_r6, eI cI 6 (B_inp 6)), (aB_r7, eI cI 6 (B_inp 7)), (aL, .inr (1, [.ref aL_kinds, .ref aL_vs, .ref aL_ws, .ref aL_roles, .ref aL_mates, .int L_many])), (aL_kinds, eI cI 16 L_kinds), (aL_vs, eI cI 16 L_vs), (aL_ws, eI cI 16 L_ws), (aL_roles, eI cI 16 L_roles), (aL_mates, eI cI 16 L_mates), (aM, .inr (4, [.ref aM_numbers, .ref aM_ranks, .ref aM_ahead, .int M_length, .ref aM_ways, .int M_waysCounted])), (aM_numbers, eI cI 12 M_numbers), (aA, .inr (0, [.ref aA_row, .int A_length])), (aA_row, eI cI 16 A_row), (aC2, .inr (2, [.ref aC2_variables, .ref aC2_prints, .int o17.1])), (aC2_variables, eI cI 6 o17.2.1), (aC2_prints, eI cI 16 o17.2.2), (aC3, .inr (2, [.ref aC3_variables, .ref aC3_prints, .int o27.1])), (aC3_variables, eI cI 6 o27.2.1), (aC3_prints, eI cI 16 o27.2.2)]) ⟨hx, hb, hml, hown, hts⟩ (tX5_perform l D cI cJ cG aB aL aM aA aK aB_inputs aC1 aC2 aC3 aB_r0 aB_r1 aB_r2 aB_r3 aB_r4 aB_r5 aB_r6 aB_r7 aL_kinds aL_vs aL_ws aL_roles aL_mates aM_numbers aM_ranks aM_ahead aM_ways aA_row aC3 aC3_variables aC3_prints H.size x1 (1 : Int32) B_manyInputs B_hintsDone B_inp L_many L_kinds L_vs L_ws L_roles L_mates M_length M_waysCounted M_numbers A_length A_row C3_manyPrints C3_variables C3_prints o27 e27) (cwV 3 hts gX5_alike_X5_perform rfl rfl rfl (by decide +kernel) ⟨Nat.le_of_ble_eq_true rfl, Nat.le_of_ble_eq_true rfl⟩) (va_recv (ci := 5) (q0 := 0) hK.1 hP rfl rfl) hK hP hD hS hA [0, 1, 2, 3, 4, 5, 6, 7, 8, 9, 10, 11, 12, 13, 14, 15, 16, 17, 18, 19, 23, 24, 25] [20, 21, 22] [3, 4, 5, 6, 7, 8, 9, 10, 11, 12, 13, 14, 15, 16, 17, 18, 19, 20, 21, 22, 0, 1, 2, 23, 24, 25] rfl rfl rfl (by decide) (by decide) (by decide) (by decide) rfl hl.1 rfl (lv_room (Nat.le_of_ble_eq_true rfl)) dX5_alike_27 ⟨Nat.le_of_ble_eq_true rfl, Nat.le_of_ble_eq_true rfl⟩ (fun H locs hP hD hS => ?_)
        refine lv_aload_n hx hb dX5_alike_30 rfl (lv_at hl 0 rfl) ?_
        refine va_get (D := D) (ci := 5) (v := .ref aC2) (C := RX5) (T := TX5) (N := 10) hx hb hts iX5 hown hK.1 hP 0 rfl rfl 8 (by decide) k51 (fun _ h9 => h9) rfl dX5_alike_31 ?_
        refine lv_aload_n hx hb dX5_alike_34 rfl (lv_at hl 0 rfl) ?_
        refine va_get (D := D) (ci := 5) (v := .ref aC3) (C := RX5) (T := TX5) (N := 10) hx hb hts iX5 hown hK.1 hP 0 rfl rfl 9 (by decide) k54 (fun _ h9 => h9) rfl dX5_alike_35 ?_
        refine bnd hf (fun o38 e38 hf => ?_)
        refine rdVi (As := [.ref aC3]) (rest := []) ⟨hx, hb, hml, hown, hts⟩ (tX2_printsAs l D cI cJ cG aC2 aC2_variables aC2_prints aC3 aC3_variables aC3_prints H  o17.1 o17.2.2 o27.1 o27.2.2 o38 e38) (cwV 1 hts gX5_alike_X2_printsAs rfl rfl rfl (by decide +kernel) ⟨Nat.le_of_ble_eq_true rfl, Nat.le_of_ble_eq_true rfl⟩) (va_recv (ci := 2) (q0 := 20) hK.1 hP rfl rfl) hK (hP.sub (ws' := [(aC2, .inr (2, [.ref aC2_variables, .ref aC2_prints, .int o17.1])), (aC2_prints, eI cI 16 o17.2.2), (aC3, .inr (2, [.ref aC3_variables, .ref aC3_prints, .int o27.1])), (aC3_prints, eI cI 16 o27.2.2)]) [20, 22, 23, 25] rfl) rfl hl.1 rfl (lv_room (Nat.le_of_ble_eq_true rfl)) dX5_alike_38 ⟨Nat.le_of_ble_eq_true rfl, Nat.le_of_ble_eq_true rfl⟩ hS (fun locs hS => ?_)
        refine lv_if_ne (tgt := 46) hx hb dX5_alike_41 (by decide) (fun c41 => ?_) (fun c41 => ?_)
        · have hf := ifn hf c41
          refine lv_iinc (v := (x1 + (1 : Int32))) (lv' := [(1, .int (x1 + (1 : Int32))), (0, .ref aB)]) hx hb dX5_alike_46 hl (k := 1) rfl rfl (by decide) rfl (fun ls hl => ?_)
          refine lv_goto (tgt := 2) hx hb dX5_alike_49 (by decide) ?_
          exact ih (x1 + (1 : Int32)) o17.1 o17.2.1 o17.2.2 o27.1 o27.2.1 o27.2.2 hf _ _ _ hP hD hS (lv_sub hl [1, 0] rfl)
        · have hf := ifp hf c41
          refine lv_iload_n hx hb dX5_alike_44 rfl (lv_at hl 1 rfl) ?_
          rw [hQQ]
          exact W.iret (v := x1) hx hb hr (fun t ht hW => by rw [← Option.some.inj hf]; rw [← hAe] at hD hS; exact ⟨⟨x1, (), rfl, rfl, by rw [ht]; exact hP, hD⟩, hS.F ht⟩) hS.2.2 dX5_alike_45
  generalize hHH : s.heap = H at hP ⊢
  have hS : va_S A s.heap H [] := by rw [← hHH]; exact va_S.rf
  generalize ([] : List Loc) = locs at hS ⊢
  unfold fX5_alike at hf
  refine lv_iconst (v := (0 : Int32)) hx hb dX5_alike_0 (by decide) ?_
  refine lv_istore_n (lv' := [(1, .int (0 : Int32)), (0, .ref aB)]) hx hb dX5_alike_1 rfl hl (by decide) rfl (fun ls hl => ?_)
  exact b_2 FU (0 : Int32) C2_manyPrints C2_variables C2_prints C3_manyPrints C3_variables C3_prints hf _ _ _ hP hD hS (lv_sub hl [1, 0] rfl)

set_option maxHeartbeats 4000000 in
set_option maxRecDepth 100000 in
theorem tX5_mark (l : Launch) (D : va_G) (cI cJ cG : ClassId) (aB aL aM aA aK aB_inputs aC1 aC2 aC3 aK_ranks aK_clashes aL_kinds aL_vs aL_ws aL_roles aL_mates aM_numbers aM_ranks aM_ahead aM_ways aA_row : Nat) (sz : Nat)  (B_manyInputs : Int32) (B_hintsDone : Int32) (K_keptPlaces : Int32) (K_changes : Int32) (K_hintChange : Int32) (K_hintLine : Int32) (K_hintPlace : Int32) (K_ranks : (Nat → Int32)) (K_clashes : (Nat → Int32)) (L_many : Int32) (L_roles : (Nat → Int32)) (L_mates : (Nat → Int32)) (M_length : Int32) (M_waysCounted : Int32) (M_numbers : (Nat → Int32)) (M_ranks : (Nat → Int32)) (M_ahead : (Nat → Int32)) (A_length : Int32) (A_row : (Nat → Int32)) (out : Int32 × Int32 × Int32 × Int32 × Int32 × Int32 × (Nat → Int32) × (Nat → Int32)) (hf : fX5_mark K_keptPlaces K_changes K_hintChange K_hintLine K_hintPlace K_ranks K_clashes L_many L_roles L_mates M_length M_numbers M_ranks M_ahead A_length A_row = some out) : Met l yX5_mark wsX5_mark ({ frames := 24, cells := 0, slots := 0, locals := 591 }) (va_Pc [.ref aB] (wP D (tyL cI cJ cG) [(aB, .inr (5, [.ref aL, .ref aM, .ref aA, .ref aK, .ref aB_inputs, .int B_manyInputs, .int B_hintsDone, .ref aC1, .ref aC2, .ref aC3])), (aK, .inr (3, [.ref aL, .ref aM, .ref aA, .ref aK_ranks, .ref aK_clashes, .int K_keptPlaces, .int K_changes, .int K_hintChange, .int K_hintLine, .int K_hintPlace])), (aK_ranks, eI cI 16 K_ranks), (aK_clashes, eI cI 16 K_clashes), (aL, .inr (1, [.ref aL_kinds, .ref aL_vs, .ref aL_ws, .ref aL_roles, .ref aL_mates, .int L_many])), (aL_roles, eI cI 16 L_roles), (aL_mates, eI cI 16 L_mates), (aM, .inr (4, [.ref aM_numbers, .ref aM_ranks, .ref aM_ahead, .int M_length, .ref aM_ways, .int M_waysCounted])), (aM_numbers, eI cI 12 M_numbers), (aM_ranks, eI cI 16 M_ranks), (aM_ahead, eI cI 12 M_ahead), (aA, .inr (0, [.ref aA_row, .int A_length])), (aA_row, eI cI 16 A_row)] sz)) (wQi D out.1 [(aB, .inr (5, [.ref aL, .ref aM, .ref aA, .ref aK, .ref aB_inputs, .int B_manyInputs, .int B_hintsDone, .ref aC1, .ref aC2, .ref aC3])), (aK, .inr (3, [.ref aL, .ref aM, .ref aA, .ref aK_ranks, .ref aK_clashes, .int K_keptPlaces, .int K_changes, .int K_hintChange, .int K_hintLine, .int K_hintPlace])), (aK_ranks, eI cI 16 K_ranks), (aK_clashes, eI cI 16 K_clashes), (aL, .inr (1, [.ref aL_kinds, .ref aL_vs, .ref aL_ws, .ref aL_roles, .ref aL_mates, .int L_many])), (aL_roles, eI cI 16 L_roles), (aL_mates, eI cI 16 L_mates), (aM, .inr (4, [.ref aM_numbers, .ref aM_ranks, .ref aM_ahead, .int M_length, .ref aM_ways, .int M_waysCounted])), (aM_numbers, eI cI 12 M_numbers), (aM_ranks, eI cI 16 M_ranks), (aM_ahead, eI cI 12 M_ahead), (aA, .inr (0, [.ref aA_row, .int A_length])), (aA_row, eI cI 16 A_row)] [(aB, .inr (5, [.ref aL, .ref aM, .ref aA, .ref aK, .ref aB_inputs, .int B_manyInputs, .int B_hintsDone, .ref aC1, .ref aC2, .ref aC3])), (aK, .inr (3, [.ref aL, .ref aM, .ref aA, .ref aK_ranks, .ref aK_clashes, .int out.2.1, .int out.2.2.1, .int out.2.2.2.1, .int out.2.2.2.2.1, .int out.2.2.2.2.2.1])), (aK_ranks, eI cI 16 out.2.2.2.2.2.2.1), (aK_clashes, eI cI 16 out.2.2.2.2.2.2.2), (aL, .inr (1, [.ref aL_kinds, .ref aL_vs, .ref aL_ws, .ref aL_roles, .ref aL_mates, .int L_many])), (aL_roles, eI cI 16 L_roles), (aL_mates, eI cI 16 L_mates), (aM, .inr (4, [.ref aM_numbers, .ref aM_ranks, .ref aM_ahead, .int M_length, .ref aM_ways, .int M_waysCounted])), (aM_numbers, eI cI 12 M_numbers), (aM_ranks, eI cI 16 M_ranks), (aM_ahead, eI cI 12 M_ahead), (aA, .inr (0, [.ref aA_row, .int A_length])), (aA_row, eI cI 16 A_row)] sz) 0 0 (va_A [(aB, .inr (5, [.ref aL, .ref aM, .ref aA, .ref aK, .ref aB_inputs, .int B_manyInputs, .int B_hintsDone, .ref aC1, .ref aC2, .ref aC3])), (aK, .inr (3, [.ref aL, .ref aM, .ref aA, .ref aK_ranks, .ref aK_clashes, .int K_keptPlaces, .int K_changes, .int K_hintChange, .int K_hintLine, .int K_hintPlace])), (aK_ranks, eI cI 16 K_ranks), (aK_clashes, eI cI 16 K_clashes), (aL, .inr (1, [.ref aL_kinds, .ref aL_vs, .ref aL_ws, .ref aL_roles, .ref aL_mates, .int L_many])), (aL_roles, eI cI 16 L_roles), (aL_mates, eI cI 16 L_mates), (aM, .inr (4, [.ref aM_numbers, .ref aM_ranks, .ref aM_ahead, .int M_length, .ref aM_ways, .int M_waysCounted])), (aM_numbers, eI cI 12 M_numbers), (aM_ranks, eI cI 16 M_ranks), (aM_ahead, eI cI 12 M_ahead), (aA, .inr (0, [.ref aA_row, .int A_length])), (aA_row, eI cI 16 A_row)] sz) := by
  refine Met.ofW (cc := cX5_mark) (maxL := 1) (ret := (some .int)) (by decide) rfl ?_
  intro p e s m args below meth c s₁ B hml hv
  obtain ⟨rfl, hsz, hP, hK, hD0⟩ := hv
  have hx := B.exec
  have hb := B.bytes
  have hr := B.returns
  have hts := atoms_spec (ws := wsX5_mark) B.pre
  have hown : s.vm.findClass RX5 = some m.cls := findClass_of_methodNamed B.named
  have hlocks := B.notSynchronized
  have iX3 : ∀ w ∈ wsX30, w ∈ wsX5_mark := by decide +kernel
  have iX5 : ∀ w ∈ wsX50, w ∈ wsX5_mark := by decide +kernel
  have k35 := hts (.fieldLink RX5 35 "BlockMarker" "marking" "LBlockMarker$Marking;") (by decide +kernel)
  have n155 := va_Nw.use (A := ([.ref aB] : List Value).toArray) rfl (hK.2 (.fieldLinkNest "BlockMarker" 155 "BlockMarker$Marking" "changes" "I" "BlockMarker") (by decide +kernel))
  subst hsz
  have hD := hD0.self (sz := s.heap.size)
  generalize hAe : va_A [(aB, .inr (5, [.ref aL, .ref aM, .ref aA, .ref aK, .ref aB_inputs, .int B_manyInputs, .int B_hintsDone, .ref aC1, .ref aC2, .ref aC3])), (aK, .inr (3, [.ref aL, .ref aM, .ref aA, .ref aK_ranks, .ref aK_clashes, .int K_keptPlaces, .int K_changes, .int K_hintChange, .int K_hintLine, .int K_hintPlace])), (aK_ranks, eI cI 16 K_ranks), (aK_clashes, eI cI 16 K_clashes), (aL, .inr (1, [.ref aL_kinds, .ref aL_vs, .ref aL_ws, .ref aL_roles, .ref aL_mates, .int L_many])), (aL_roles, eI cI 16 L_roles), (aL_mates, eI cI 16 L_mates), (aM, .inr (4, [.ref aM_numbers, .ref aM_ranks, .ref aM_ahead, .int M_length, .ref aM_ways, .int M_waysCounted])), (aM_numbers, eI cI 12 M_numbers), (aM_ranks, eI cI 16 M_ranks), (aM_ahead, eI cI 12 M_ahead), (aA, .inr (0, [.ref aA_row, .int A_length])), (aA_row, eI cI 16 A_row)] s.heap.size = A at hD ⊢
  have hA : ∀ q : Nat, s.heap.size ≤ q → A q := fun q h => by rw [← hAe]; exact Or.inr h
  have hS : va_S A s.heap s.heap [] := va_S.rf
  have hl := lv_entry ([.ref aB]) (n := 1) (Nat.le_of_ble_eq_true rfl)
  rw [lg_entry_eq]
  generalize (lg_sl ([.ref aB]) ++ List.replicate (1 - (lg_sl ([.ref aB])).length) Slot.unset).toArray = ls at hl ⊢
  have hl : lv_has ls 1 [(0, .ref aB)] := hl
  generalize hQQ : MQ below _ _ s 0 0 _ = QQ
  replace hQQ := hQQ.symm
  generalize hHH : s.heap = H at hP ⊢
  have hS : va_S A s.heap H [] := by rw [← hHH]; exact va_S.rf
  generalize ([] : List Loc) = locs at hS ⊢
  unfold fX5_mark at hf
  refine lv_aload_n hx hb dX5_mark_0 rfl (lv_at hl 0 rfl) ?_
  refine va_get (D := D) (ci := 5) (v := .ref aK) (C := RX5) (T := TX5) (N := 10) hx hb hts iX5 hown hK.1 hP 0 rfl rfl 3 (by decide) k35 (fun _ h9 => h9) rfl dX5_mark_1 ?_
  refine bnd hf (fun o4 e4 hf => ?_)
  refine wrVv (As := []) (rest := []) (cw := [(aK, .inr (3, [.ref aL, .ref aM, .ref aA, .ref aK_ranks, .ref aK_clashes, .int K_keptPlaces, .int K_changes, .int K_hintChange, .int K_hintLine, .int K_hintPlace])), (aK_ranks, eI cI 16 K_ranks), (aK_clashes, eI cI 16 K_clashes), (aL, .inr (1, [.ref aL_kinds, .ref aL_vs, .ref aL_ws, .ref aL_roles, .ref aL_mates, .int L_many])), (aL_roles, eI cI 16 L_roles), (aL_mates, eI cI 16 L_mates), (aM, .inr (4, [.ref aM_numbers, .ref aM_ranks, .ref aM_ahead, .int M_length, .ref aM_ways, .int M_waysCounted])), (aM_numbers, eI cI 12 M_numbers), (aM_ranks, eI cI 16 M_ranks), (aM_ahead, eI cI 12 M_ahead), (aA, .inr (0, [.ref aA_row, .int A_length])), (aA_row, eI cI 16 A_row)]) (cw' := [(aK, .inr (3, [.ref aL, .ref aM, .ref aA, .ref aK_ranks, .ref aK_clashes, .int o4.1, .int o4.2.1, .int o4.2.2.1, .int o4.2.2.2.1, .int o4.2.2.2.2.1])), (aK_ranks, eI cI 16 o4.2.2.2.2.2.1), (aK_clashes, eI cI 16 o4.2.2.2.2.2.2), (aL, .inr (1, [.ref aL_kinds, .ref aL_vs, .ref aL_ws, .ref aL_roles, .ref aL_mates, .int L_many])), (aL_roles, eI cI 16 L_roles), (aL_mates, eI cI 16 L_mates), (aM, .inr (4, [.ref aM_numbers, .ref aM_ranks, .ref aM_ahead, .int M_length, .ref aM_ways, .int M_waysCounted])), (aM_numbers, eI cI 12 M_numbers), (aM_ranks, eI cI 16 M_ranks), (aM_ahead, eI cI 12 M_ahead), (aA, .inr (0, [.ref aA_row, .int A_length])), (aA_row, eI cI 16 A_row)]) (wr := [(aB, .inr (5, [.ref aL, .ref aM, .ref aA, .ref aK, .ref aB_inputs, .int B_manyInputs, .int B_hintsDone, .ref aC1, .ref aC2, .ref aC3]))]) (ws2 := [(aB, .inr (5, [.ref aL, .ref aM, .ref aA, .ref aK, .ref aB_inputs, .int B_manyInputs, .int B_hintsDone, .ref aC1, .ref aC2, .ref aC3])), (aK, .inr (3, [.ref aL, .ref aM, .ref aA, .ref aK_ranks, .ref aK_clashes, .int o4.1, .int o4.2.1, .int o4.2.2.1, .int o4.2.2.2.1, .int o4.2.2.2.2.1])), (aK_ranks, eI cI 16 o4.2.2.2.2.2.1), (aK_clashes, eI cI 16 o4.2.2.2.2.2.2), (aL, .inr (1, [.ref aL_kinds, .ref aL_vs, .ref aL_ws, .ref aL_roles, .ref aL_mates, .int L_many])), (aL_roles, eI cI 16 L_roles), (aL_mates, eI cI 16 L_mates), (aM, .inr (4, [.ref aM_numbers, .ref aM_ranks, .ref aM_ahead, .int M_length, .ref aM_ways, .int M_waysCounted])), (aM_numbers, eI cI 12 M_numbers), (aM_ranks, eI cI 16 M_ranks), (aM_ahead, eI cI 12 M_ahead), (aA, .inr (0, [.ref aA_row, .int A_length])), (aA_row, eI cI 16 A_row)]) ⟨hx, hb, hml, hown, hts⟩ (tX3_study l D cI cJ cG aK aL aM aA aK_ranks aK_clashes aL_kinds aL_vs aL_ws aL_roles aL_mates aM_numbers aM_ranks aM_ahead aM_ways aA_row H.size  K_keptPlaces K_changes K_hintChange K_hintLine K_hintPlace K_ranks K_clashes L_many L_roles L_mates M_length M_waysCounted M_numbers M_ranks M_ahead A_length A_row o4 e4) (cwV 0 hts gX5_mark_X3_study rfl rfl rfl (by decide +kernel) ⟨Nat.le_of_ble_eq_true rfl, Nat.le_of_ble_eq_true rfl⟩) (va_recv (ci := 3) (q0 := 1) hK.1 hP rfl rfl) hK hP hD hS hA [1, 2, 3, 4, 5, 6, 7, 8, 9, 10, 11, 12] [0] [0, 1, 2, 3, 4, 5, 6, 7, 8, 9, 10, 11, 12] rfl rfl rfl (by decide) (by decide) (by decide) (by decide) rfl hl.1 rfl (lv_room (Nat.le_of_ble_eq_true rfl)) dX5_mark_4 ⟨Nat.le_of_ble_eq_true rfl, Nat.le_of_ble_eq_true rfl⟩ (fun H locs hP hD hS => ?_)
  refine lv_aload_n hx hb dX5_mark_7 rfl (lv_at hl 0 rfl) ?_
  refine va_get (D := D) (ci := 5) (v := .ref aK) (C := RX5) (T := TX5) (N := 10) hx hb hts iX5 hown hK.1 hP 0 rfl rfl 3 (by decide) k35 (fun _ h9 => h9) rfl dX5_mark_8 ?_
  refine va_getN (D := D) (ci := 3) (v := .int o4.2.1) (C := RX3) (T := TX3) (N := 10) hx hb hts iX3 hown hK.1 hP 1 rfl rfl 6 (by decide) n155 (fun _ h9 => h9) rfl dX5_mark_11 ?_
  rw [hQQ]
  exact W.iret (v := o4.2.1) hx hb hr (fun t ht hW => by rw [← Option.some.inj hf]; rw [← hAe] at hD hS; exact ⟨⟨o4.2.1, (), rfl, rfl, by rw [ht]; exact hP, hD⟩, hS.F ht⟩) hS.2.2 dX5_mark_14

set_option maxHeartbeats 4000000 in
set_option maxRecDepth 100000 in
theorem tX5_kept (l : Launch) (D : va_G) (cI cJ cG : ClassId) (aB aL aM aA aK aB_inputs aC1 aC2 aC3 aK_ranks aK_clashes aL_kinds aL_vs aL_ws aL_roles aL_mates aM_numbers aM_ranks aM_ahead aM_ways aA_row : Nat) (sz : Nat) (y1 : Int32) (B_manyInputs : Int32) (B_hintsDone : Int32) (K_keptPlaces : Int32) (K_changes : Int32) (K_hintChange : Int32) (K_hintLine : Int32) (K_hintPlace : Int32) (K_ranks : (Nat → Int32)) (K_clashes : (Nat → Int32)) (L_many : Int32) (L_roles : (Nat → Int32)) (L_mates : (Nat → Int32)) (M_length : Int32) (M_waysCounted : Int32) (M_numbers : (Nat → Int32)) (M_ranks : (Nat → Int32)) (M_ahead : (Nat → Int32)) (A_length : Int32) (A_row : (Nat → Int32)) (out : Int32 × Int32 × Int32 × Int32 × Int32 × Int32 × (Nat → Int32) × (Nat → Int32)) (hf : fX5_kept y1 K_keptPlaces K_changes K_hintChange K_hintLine K_hintPlace K_ranks K_clashes L_many L_roles L_mates M_length M_numbers M_ranks M_ahead A_length A_row = some out) : Met l yX5_kept wsX5_kept ({ frames := 24, cells := 0, slots := 0, locals := 591 }) (va_Pc [.ref aB, .int y1] (wP D (tyL cI cJ cG) [(aB, .inr (5, [.ref aL, .ref aM, .ref aA, .ref aK, .ref aB_inputs, .int B_manyInputs, .int B_hintsDone, .ref aC1, .ref aC2, .ref aC3])), (aK, .inr (3, [.ref aL, .ref aM, .ref aA, .ref aK_ranks, .ref aK_clashes, .int K_keptPlaces, .int K_changes, .int K_hintChange, .int K_hintLine, .int K_hintPlace])), (aK_ranks, eI cI 16 K_ranks), (aK_clashes, eI cI 16 K_clashes), (aL, .inr (1, [.ref aL_kinds, .ref aL_vs, .ref aL_ws, .ref aL_roles, .ref aL_mates, .int L_many])), (aL_roles, eI cI 16 L_roles), (aL_mates, eI cI 16 L_mates), (aM, .inr (4, [.ref aM_numbers, .ref aM_ranks, .ref aM_ahead, .int M_length, .ref aM_ways, .int M_waysCounted])), (aM_numbers, eI cI 12 M_numbers), (aM_ranks, eI cI 16 M_ranks), (aM_ahead, eI cI 12 M_ahead), (aA, .inr (0, [.ref aA_row, .int A_length])), (aA_row, eI cI 16 A_row)] sz)) (wQi D out.1 [(aB, .inr (5, [.ref aL, .ref aM, .ref aA, .ref aK, .ref aB_inputs, .int B_manyInputs, .int B_hintsDone, .ref aC1, .ref aC2, .ref aC3])), (aK, .inr (3, [.ref aL, .ref aM, .ref aA, .ref aK_ranks, .ref aK_clashes, .int K_keptPlaces, .int K_changes, .int K_hintChange, .int K_hintLine, .int K_hintPlace])), (aK_ranks, eI cI 16 K_ranks), (aK_clashes, eI cI 16 K_clashes), (aL, .inr (1, [.ref aL_kinds, .ref aL_vs, .ref aL_ws, .ref aL_roles, .ref aL_mates, .int L_many])), (aL_roles, eI cI 16 L_roles), (aL_mates, eI cI 16 L_mates), (aM, .inr (4, [.ref aM_numbers, .ref aM_ranks, .ref aM_ahead, .int M_length, .ref aM_ways, .int M_waysCounted])), (aM_numbers, eI cI 12 M_numbers), (aM_ranks, eI cI 16 M_ranks), (aM_ahead, eI cI 12 M_ahead), (aA, .inr (0, [.ref aA_row, .int A_length])), (aA_row, eI cI 16 A_row)] [(aB, .inr (5, [.ref aL, .ref aM, .ref aA, .ref aK, .ref aB_inputs, .int B_manyInputs, .int B_hintsDone, .ref aC1, .ref aC2, .ref aC3])), (aK, .inr (3, [.ref aL, .ref aM, .ref aA, .ref aK_ranks, .ref aK_clashes, .int out.2.1, .int out.2.2.1, .int out.2.2.2.1, .int out.2.2.2.2.1, .int out.2.2.2.2.2.1])), (aK_ranks, eI cI 16 out.2.2.2.2.2.2.1), (aK_clashes, eI cI 16 out.2.2.2.2.2.2.2), (aL, .inr (1, [.ref aL_kinds, .ref aL_vs, .ref aL_ws, .ref aL_roles, .ref aL_mates, .int L_many])), (aL_roles, eI cI 16 L_roles), (aL_mates, eI cI 16 L_mates), (aM, .inr (4, [.ref aM_numbers, .ref aM_ranks, .ref aM_ahead, .int M_length, .ref aM_ways, .int M_waysCounted])), (aM_numbers, eI cI 12 M_numbers), (aM_ranks, eI cI 16 M_ranks), (aM_ahead, eI cI 12 M_ahead), (aA, .inr (0, [.ref aA_row, .int A_length])), (aA_row, eI cI 16 A_row)] sz) 0 0 (va_A [(aB, .inr (5, [.ref aL, .ref aM, .ref aA, .ref aK, .ref aB_inputs, .int B_manyInputs, .int B_hintsDone, .ref aC1, .ref aC2, .ref aC3])), (aK, .inr (3, [.ref aL, .ref aM, .ref aA, .ref aK_ranks, .ref aK_clashes, .int K_keptPlaces, .int K_changes, .int K_hintChange, .int K_hintLine, .int K_hintPlace])), (aK_ranks, eI cI 16 K_ranks), (aK_clashes, eI cI 16 K_clashes), (aL, .inr (1, [.ref aL_kinds, .ref aL_vs, .ref aL_ws, .ref aL_roles, .ref aL_mates, .int L_many])), (aL_roles, eI cI 16 L_roles), (aL_mates, eI cI 16 L_mates), (aM, .inr (4, [.ref aM_numbers, .ref aM_ranks, .ref aM_ahead, .int M_length, .ref aM_ways, .int M_waysCounted])), (aM_numbers, eI cI 12 M_numbers), (aM_ranks, eI cI 16 M_ranks), (aM_ahead, eI cI 12 M_ahead), (aA, .inr (0, [.ref aA_row, .int A_length])), (aA_row, eI cI 16 A_row)] sz) := by
  refine Met.ofW (cc := cX5_kept) (maxL := 2) (ret := (some .int)) (by decide) rfl ?_
  intro p e s m args below meth c s₁ B hml hv
  obtain ⟨rfl, hsz, hP, hK, hD0⟩ := hv
  have hx := B.exec
  have hb := B.bytes
  have hr := B.returns
  have hts := atoms_spec (ws := wsX5_kept) B.pre
  have hown : s.vm.findClass RX5 = some m.cls := findClass_of_methodNamed B.named
  have hlocks := B.notSynchronized
  have iX5 : ∀ w ∈ wsX50, w ∈ wsX5_kept := by decide +kernel
  have k26 := hts (.fieldLink RX5 26 "BlockMarker" "answer" "LBlockMarker$Answer;") (by decide +kernel)
  have k35 := hts (.fieldLink RX5 35 "BlockMarker" "marking" "LBlockMarker$Marking;") (by decide +kernel)
  subst hsz
  have hD := hD0.self (sz := s.heap.size)
  generalize hAe : va_A [(aB, .inr (5, [.ref aL, .ref aM, .ref aA, .ref aK, .ref aB_inputs, .int B_manyInputs, .int B_hintsDone, .ref aC1, .ref aC2, .ref aC3])), (aK, .inr (3, [.ref aL, .ref aM, .ref aA, .ref aK_ranks, .ref aK_clashes, .int K_keptPlaces, .int K_changes, .int K_hintChange, .int K_hintLine, .int K_hintPlace])), (aK_ranks, eI cI 16 K_ranks), (aK_clashes, eI cI 16 K_clashes), (aL, .inr (1, [.ref aL_kinds, .ref aL_vs, .ref aL_ws, .ref aL_roles, .ref aL_mates, .int L_many])), (aL_roles, eI cI 16 L_roles), (aL_mates, eI cI 16 L_mates), (aM, .inr (4, [.ref aM_numbers, .ref aM_ranks, .ref aM_ahead, .int M_length, .ref aM_ways, .int M_waysCounted])), (aM_numbers, eI cI 12 M_numbers), (aM_ranks, eI cI 16 M_ranks), (aM_ahead, eI cI 12 M_ahead), (aA, .inr (0, [.ref aA_row, .int A_length])), (aA_row, eI cI 16 A_row)] s.heap.size = A at hD ⊢
  have hA : ∀ q : Nat, s.heap.size ≤ q → A q := fun q h => by rw [← hAe]; exact Or.inr h
  have hS : va_S A s.heap s.heap [] := va_S.rf
  have hl := lv_entry ([.ref aB, .int y1]) (n := 2) (Nat.le_of_ble_eq_true rfl)
  rw [lg_entry_eq]
  generalize (lg_sl ([.ref aB, .int y1]) ++ List.replicate (2 - (lg_sl ([.ref aB, .int y1])).length) Slot.unset).toArray = ls at hl ⊢
  have hl : lv_has ls 2 [(0, .ref aB), (1, .int y1)] := hl
  generalize hQQ : MQ below _ _ s 0 0 _ = QQ
  replace hQQ := hQQ.symm
  generalize hHH : s.heap = H at hP ⊢
  have hS : va_S A s.heap H [] := by rw [← hHH]; exact va_S.rf
  generalize ([] : List Loc) = locs at hS ⊢
  unfold fX5_kept at hf
  refine lv_aload_n hx hb dX5_kept_0 rfl (lv_at hl 0 rfl) ?_
  refine va_get (D := D) (ci := 5) (v := .ref aA) (C := RX5) (T := TX5) (N := 10) hx hb hts iX5 hown hK.1 hP 0 rfl rfl 2 (by decide) k26 (fun _ h9 => h9) rfl dX5_kept_1 ?_
  refine lv_iload_n hx hb dX5_kept_4 rfl (lv_at hl 1 rfl) ?_
  refine bnd hf (fun o5 e5 hf => ?_)
  refine rdVi (As := [.int y1]) (rest := []) ⟨hx, hb, hml, hown, hts⟩ (tX0_hasPlace l D cI cJ cG aA aA_row H y1 A_length o5 e5) (cwV 1 hts gX5_kept_X0_hasPlace rfl rfl rfl (by decide +kernel) ⟨Nat.le_of_ble_eq_true rfl, Nat.le_of_ble_eq_true rfl⟩) (va_recv (ci := 0) (q0 := 11) hK.1 hP rfl rfl) hK (hP.sub (ws' := [(aA, .inr (0, [.ref aA_row, .int A_length]))]) [11] rfl) rfl hl.1 rfl (lv_room (Nat.le_of_ble_eq_true rfl)) dX5_kept_5 ⟨Nat.le_of_ble_eq_true rfl, Nat.le_of_ble_eq_true rfl⟩ hS (fun locs hS => ?_)
  refine lv_if_ne (tgt := 14) hx hb dX5_kept_8 (by decide) (fun c8 => ?_) (fun c8 => ?_)
  · have hf := ifn hf c8
    refine lv_aload_n hx hb dX5_kept_14 rfl (lv_at hl 0 rfl) ?_
    refine va_get (D := D) (ci := 5) (v := .ref aK) (C := RX5) (T := TX5) (N := 10) hx hb hts iX5 hown hK.1 hP 0 rfl rfl 3 (by decide) k35 (fun _ h9 => h9) rfl dX5_kept_15 ?_
    refine bnd hf (fun o18 e18 hf => ?_)
    refine wrVv (As := []) (rest := []) (cw := [(aK, .inr (3, [.ref aL, .ref aM, .ref aA, .ref aK_ranks, .ref aK_clashes, .int K_keptPlaces, .int K_changes, .int K_hintChange, .int K_hintLine, .int K_hintPlace])), (aK_ranks, eI cI 16 K_ranks), (aK_clashes, eI cI 16 K_clashes), (aL, .inr (1, [.ref aL_kinds, .ref aL_vs, .ref aL_ws, .ref aL_roles, .ref aL_mates, .int L_many])), (aL_roles, eI cI 16 L_roles), (aL_mates, eI cI 16 L_mates), (aM, .inr (4, [.ref aM_numbers, .ref aM_ranks, .ref aM_ahead, .int M_length, .ref aM_ways, .int M_waysCounted])), (aM_numbers, eI cI 12 M_numbers), (aM_ranks, eI cI 16 M_ranks), (aM_ahead, eI cI 12 M_ahead), (aA, .inr (0, [.ref aA_row, .int A_length])), (aA_row, eI cI 16 A_row)]) (cw' := [(aK, .inr (3, [.ref aL, .ref aM, .ref aA, .ref aK_ranks, .ref aK_clashes, .int o18.1, .int o18.2.1, .int o18.2.2.1, .int o18.2.2.2.1, .int o18.2.2.2.2.1])), (aK_ranks, eI cI 16 o18.2.2.2.2.2.1), (aK_clashes, eI cI 16 o18.2.2.2.2.2.2), (aL, .inr (1, [.ref aL_kinds, .ref aL_vs, .ref aL_ws, .ref aL_roles, .ref aL_mates, .int L_many])), (aL_roles, eI cI 16 L_roles), (aL_mates, eI cI 16 L_mates), (aM, .inr (4, [.ref aM_numbers, .ref aM_ranks, .ref aM_ahead, .int M_length, .ref aM_ways, .int M_waysCounted])), (aM_numbers, eI cI 12 M_numbers), (aM_ranks, eI cI 16 M_ranks), (aM_ahead, eI cI 12 M_ahead), (aA, .inr (0, [.ref aA_row, .int A_length])), (aA_row, eI cI 16 A_row)]) (wr := [(aB, .inr (5, [.ref aL, .ref aM, .ref aA, .ref aK, .ref aB_inputs, .int B_manyInputs, .int B_hintsDone, .ref aC1, .ref aC2, .ref aC3]))]) (ws2 := [(aB, .inr (5, [.ref aL, .ref aM, .ref aA, .ref aK, .ref aB_inputs, .int B_manyInputs, .int B_hintsDone, .ref aC1, .ref aC2, .ref aC3])), (aK, .inr (3, [.ref aL, .ref aM, .ref aA, .ref aK_ranks, .ref aK_clashes, .int o18.1, .int o18.2.1, .int o18.2.2.1, .int o18.2.2.2.1, .int o18.2.2.2.2.1])), (aK_ranks, eI cI 16 o18.2.2.2.2.2.1), (aK_clashes, eI cI 16 o18.2.2.2.2.2.2), (aL, .inr (1, [.ref aL_kinds, .ref aL_vs, .ref aL_ws, .ref aL_roles, .ref aL_mates, .int L_many])), (aL_roles, eI cI 16 L_roles), (aL_mates, eI cI 16 L_mates), (aM, .inr (4, [.ref aM_numbers, .ref aM_ranks, .ref aM_ahead, .int M_length, .ref aM_ways, .int M_waysCounted])), (aM_numbers, eI cI 12 M_numbers), (aM_ranks, eI cI 16 M_ranks), (aM_ahead, eI cI 12 M_ahead), (aA, .inr (0, [.ref aA_row, .int A_length])), (aA_row, eI cI 16 A_row)]) ⟨hx, hb, hml, hown, hts⟩ (tX3_study l D cI cJ cG aK aL aM aA aK_ranks aK_clashes aL_kinds aL_vs aL_ws aL_roles aL_mates aM_numbers aM_ranks aM_ahead aM_ways aA_row H.size  K_keptPlaces K_changes K_hintChange K_hintLine K_hintPlace K_ranks K_clashes L_many L_roles L_mates M_length M_waysCounted M_numbers M_ranks M_ahead A_length A_row o18 e18) (cwV 0 hts gX5_kept_X3_study rfl rfl rfl (by decide +kernel) ⟨Nat.le_of_ble_eq_true rfl, Nat.le_of_ble_eq_true rfl⟩) (va_recv (ci := 3) (q0 := 1) hK.1 hP rfl rfl) hK hP hD hS hA [1, 2, 3, 4, 5, 6, 7, 8, 9, 10, 11, 12] [0] [0, 1, 2, 3, 4, 5, 6, 7, 8, 9, 10, 11, 12] rfl rfl rfl (by decide) (by decide) (by decide) (by decide) rfl hl.1 rfl (lv_room (Nat.le_of_ble_eq_true rfl)) dX5_kept_18 ⟨Nat.le_of_ble_eq_true rfl, Nat.le_of_ble_eq_true rfl⟩ (fun H locs hP hD hS => ?_)
    refine lv_aload_n hx hb dX5_kept_21 rfl (lv_at hl 0 rfl) ?_
    refine va_get (D := D) (ci := 5) (v := .ref aK) (C := RX5) (T := TX5) (N := 10) hx hb hts iX5 hown hK.1 hP 0 rfl rfl 3 (by decide) k35 (fun _ h9 => h9) rfl dX5_kept_22 ?_
    refine lv_iload_n hx hb dX5_kept_25 rfl (lv_at hl 1 rfl) ?_
    refine bnd hf (fun o26 e26 hf => ?_)
    refine rdVi (As := [.int y1]) (rest := []) ⟨hx, hb, hml, hown, hts⟩ (tX3_isKept l D cI cJ cG aK aL aM aA aK_ranks aK_clashes aA_row H y1 o18.1 o18.2.1 o18.2.2.1 o18.2.2.2.1 o18.2.2.2.2.1 A_length o26 e26) (cwV 1 hts gX5_kept_X3_isKept rfl rfl rfl (by decide +kernel) ⟨Nat.le_of_ble_eq_true rfl, Nat.le_of_ble_eq_true rfl⟩) (va_recv (ci := 3) (q0 := 1) hK.1 hP rfl rfl) hK (hP.sub (ws' := [(aK, .inr (3, [.ref aL, .ref aM, .ref aA, .ref aK_ranks, .ref aK_clashes, .int o18.1, .int o18.2.1, .int o18.2.2.1, .int o18.2.2.2.1, .int o18.2.2.2.2.1])), (aA, .inr (0, [.ref aA_row, .int A_length]))]) [1, 11] rfl) rfl hl.1 rfl (lv_room (Nat.le_of_ble_eq_true rfl)) dX5_kept_26 ⟨Nat.le_of_ble_eq_true rfl, Nat.le_of_ble_eq_true rfl⟩ hS (fun locs hS => ?_)
    refine lv_if_eq (tgt := 36) hx hb dX5_kept_29 (by decide) (fun c29 => ?_) (fun c29 => ?_)
    · have hf := ifp hf c29
      refine lv_iconst (v := (0 : Int32)) hx hb dX5_kept_36 (by decide) ?_
      rw [hQQ]
      exact W.iret (v := (0 : Int32)) hx hb hr (fun t ht hW => by rw [← Option.some.inj hf]; rw [← hAe] at hD hS; exact ⟨⟨(0 : Int32), (), rfl, rfl, by rw [ht]; exact hP, hD⟩, hS.F ht⟩) hS.2.2 dX5_kept_37
    · have hf := ifn hf c29
      refine lv_iconst (v := (1 : Int32)) hx hb dX5_kept_32 (by decide) ?_
      refine lv_goto (tgt := 37) hx hb dX5_kept_33 (by decide) ?_
      rw [hQQ]
      exact W.iret (v := (1 : Int32)) hx hb hr (fun t ht hW => by rw [← Option.some.inj hf]; rw [← hAe] at hD hS; exact ⟨⟨(1 : Int32), (), rfl, rfl, by rw [ht]; exact hP, hD⟩, hS.F ht⟩) hS.2.2 dX5_kept_37
  · have hf := ifp hf c8
    refine lv_bipush (v := (-102 : Int32)) hx hb dX5_kept_11 (by decide) ?_
    rw [hQQ]
    exact W.iret (v := (-102 : Int32)) hx hb hr (fun t ht hW => by rw [← Option.some.inj hf]; rw [← hAe] at hD hS; exact ⟨⟨(-102 : Int32), (), rfl, rfl, by rw [ht]; exact hP, hD⟩, hS.F ht⟩) hS.2.2 dX5_kept_13

set_option maxHeartbeats 4000000 in
set_option maxRecDepth 100000 in
theorem tX5_hint (l : Launch) (D : va_G) (cI cJ cG : ClassId) (aB aL aM aA aK aB_inputs aC1 aC2 aC3 aK_ranks aK_clashes aL_kinds aL_vs aL_ws aL_roles aL_mates aM_numbers aM_ranks aM_ahead aM_ways aA_row : Nat) (sz : Nat) (y1 : Int32) (B_manyInputs : Int32) (B_hintsDone : Int32) (K_keptPlaces : Int32) (K_changes : Int32) (K_hintChange : Int32) (K_hintLine : Int32) (K_hintPlace : Int32) (K_ranks : (Nat → Int32)) (K_clashes : (Nat → Int32)) (L_many : Int32) (L_roles : (Nat → Int32)) (L_mates : (Nat → Int32)) (M_length : Int32) (M_waysCounted : Int32) (M_numbers : (Nat → Int32)) (M_ranks : (Nat → Int32)) (M_ahead : (Nat → Int32)) (A_length : Int32) (A_row : (Nat → Int32)) (out : Int32 × Int32 × Int32 × Int32 × Int32 × Int32 × (Nat → Int32) × (Nat → Int32)) (hf : fX5_hint y1 K_keptPlaces K_changes K_hintChange K_hintLine K_hintPlace K_ranks K_clashes L_many L_roles L_mates M_length M_numbers M_ranks M_ahead A_length A_row = some out) : Met l yX5_hint wsX5_hint ({ frames := 24, cells := 0, slots := 0, locals := 591 }) (va_Pc [.ref aB, .int y1] (wP D (tyL cI cJ cG) [(aB, .inr (5, [.ref aL, .ref aM, .ref aA, .ref aK, .ref aB_inputs, .int B_manyInputs, .int B_hintsDone, .ref aC1, .ref aC2, .ref aC3])), (aK, .inr (3, [.ref aL, .ref aM, .ref aA, .ref aK_ranks, .ref aK_clashes, .int K_keptPlaces, .int K_changes, .int K_hintChange, .int K_hintLine, .int K_hintPlace])), (aK_ranks, eI cI 16 K_ranks), (aK_clashes, eI cI 16 K_clashes), (aL, .inr (1, [.ref aL_kinds, .ref aL_vs, .ref aL_ws, .ref aL_roles, .ref aL_mates, .int L_many])), (aL_roles, eI cI 16 L_roles), (aL_mates, eI cI 16 L_mates), (aM, .inr (4, [.ref aM_numbers, .ref aM_ranks, .ref aM_ahead, .int M_length, .ref aM_ways, .int M_waysCounted])), (aM_numbers, eI cI 12 M_numbers), (aM_ranks, eI cI 16 M_ranks), (aM_ahead, eI cI 12 M_ahead), (aA, .inr (0, [.ref aA_row, .int A_length])), (aA_row, eI cI 16 A_row)] sz)) (wQi D out.1 [(aB, .inr (5, [.ref aL, .ref aM, .ref aA, .ref aK, .ref aB_inputs, .int B_manyInputs, .int B_hintsDone, .ref aC1, .ref aC2, .ref aC3])), (aK, .inr (3, [.ref aL, .ref aM, .ref aA, .ref aK_ranks, .ref aK_clashes, .int K_keptPlaces, .int K_changes, .int K_hintChange, .int K_hintLine, .int K_hintPlace])), (aK_ranks, eI cI 16 K_ranks), (aK_clashes, eI cI 16 K_clashes), (aL, .inr (1, [.ref aL_kinds, .ref aL_vs, .ref aL_ws, .ref aL_roles, .ref aL_mates, .int L_many])), (aL_roles, eI cI 16 L_roles), (aL_mates, eI cI 16 L_mates), (aM, .inr (4, [.ref aM_numbers, .ref aM_ranks, .ref aM_ahead, .int M_length, .ref aM_ways, .int M_waysCounted])), (aM_numbers, eI cI 12 M_numbers), (aM_ranks, eI cI 16 M_ranks), (aM_ahead, eI cI 12 M_ahead), (aA, .inr (0, [.ref aA_row, .int A_length])), (aA_row, eI cI 16 A_row)] [(aB, .inr (5, [.ref aL, .ref aM, .ref aA, .ref aK, .ref aB_inputs, .int B_manyInputs, .int B_hintsDone, .ref aC1, .ref aC2, .ref aC3])), (aK, .inr (3, [.ref aL, .ref aM, .ref aA, .ref aK_ranks, .ref aK_clashes, .int out.2.1, .int out.2.2.1, .int out.2.2.2.1, .int out.2.2.2.2.1, .int out.2.2.2.2.2.1])), (aK_ranks, eI cI 16 out.2.2.2.2.2.2.1), (aK_clashes, eI cI 16 out.2.2.2.2.2.2.2), (aL, .inr (1, [.ref aL_kinds, .ref aL_vs, .ref aL_ws, .ref aL_roles, .ref aL_mates, .int L_many])), (aL_roles, eI cI 16 L_roles), (aL_mates, eI cI 16 L_mates), (aM, .inr (4, [.ref aM_numbers, .ref aM_ranks, .ref aM_ahead, .int M_length, .ref aM_ways, .int M_waysCounted])), (aM_numbers, eI cI 12 M_numbers), (aM_ranks, eI cI 16 M_ranks), (aM_ahead, eI cI 12 M_ahead), (aA, .inr (0, [.ref aA_row, .int A_length])), (aA_row, eI cI 16 A_row)] sz) 0 0 (va_A [(aB, .inr (5, [.ref aL, .ref aM, .ref aA, .ref aK, .ref aB_inputs, .int B_manyInputs, .int B_hintsDone, .ref aC1, .ref aC2, .ref aC3])), (aK, .inr (3, [.ref aL, .ref aM, .ref aA, .ref aK_ranks, .ref aK_clashes, .int K_keptPlaces, .int K_changes, .int K_hintChange, .int K_hintLine, .int K_hintPlace])), (aK_ranks, eI cI 16 K_ranks), (aK_clashes, eI cI 16 K_clashes), (aL, .inr (1, [.ref aL_kinds, .ref aL_vs, .ref aL_ws, .ref aL_roles, .ref aL_mates, .int L_many])), (aL_roles, eI cI 16 L_roles), (aL_mates, eI cI 16 L_mates), (aM, .inr (4, [.ref aM_numbers, .ref aM_ranks, .ref aM_ahead, .int M_length, .ref aM_ways, .int M_waysCounted])), (aM_numbers, eI cI 12 M_numbers), (aM_ranks, eI cI 16 M_ranks), (aM_ahead, eI cI 12 M_ahead), (aA, .inr (0, [.ref aA_row, .int A_length])), (aA_row, eI cI 16 A_row)] sz) := by
  refine Met.ofW (cc := cX5_hint) (maxL := 2) (ret := (some .int)) (by decide) rfl ?_
  intro p e s m args below meth c s₁ B hml hv
  obtain ⟨rfl, hsz, hP, hK, hD0⟩ := hv
  have hx := B.exec
  have hb := B.bytes
  have hr := B.returns
  have hts := atoms_spec (ws := wsX5_hint) B.pre
  have hown : s.vm.findClass RX5 = some m.cls := findClass_of_methodNamed B.named
  have hlocks := B.notSynchronized
  have iX3 : ∀ w ∈ wsX30, w ∈ wsX5_hint := by decide +kernel
  have iX5 : ∀ w ∈ wsX50, w ∈ wsX5_hint := by decide +kernel
  have k35 := hts (.fieldLink RX5 35 "BlockMarker" "marking" "LBlockMarker$Marking;") (by decide +kernel)
  have n161 := va_Nw.use (A := ([.ref aB, .int y1] : List Value).toArray) rfl (hK.2 (.fieldLinkNest "BlockMarker" 161 "BlockMarker$Marking" "hintChange" "I" "BlockMarker") (by decide +kernel))
  have n164 := va_Nw.use (A := ([.ref aB, .int y1] : List Value).toArray) rfl (hK.2 (.fieldLinkNest "BlockMarker" 164 "BlockMarker$Marking" "hintLine" "I" "BlockMarker") (by decide +kernel))
  have n167 := va_Nw.use (A := ([.ref aB, .int y1] : List Value).toArray) rfl (hK.2 (.fieldLinkNest "BlockMarker" 167 "BlockMarker$Marking" "hintPlace" "I" "BlockMarker") (by decide +kernel))
  subst hsz
  have hD := hD0.self (sz := s.heap.size)
  generalize hAe : va_A [(aB, .inr (5, [.ref aL, .ref aM, .ref aA, .ref aK, .ref aB_inputs, .int B_manyInputs, .int B_hintsDone, .ref aC1, .ref aC2, .ref aC3])), (aK, .inr (3, [.ref aL, .ref aM, .ref aA, .ref aK_ranks, .ref aK_clashes, .int K_keptPlaces, .int K_changes, .int K_hintChange, .int K_hintLine, .int K_hintPlace])), (aK_ranks, eI cI 16 K_ranks), (aK_clashes, eI cI 16 K_clashes), (aL, .inr (1, [.ref aL_kinds, .ref aL_vs, .ref aL_ws, .ref aL_roles, .ref aL_mates, .int L_many])), (aL_roles, eI cI 16 L_roles), (aL_mates, eI cI 16 L_mates), (aM, .inr (4, [.ref aM_numbers, .ref aM_ranks, .ref aM_ahead, .int M_length, .ref aM_ways, .int M_waysCounted])), (aM_numbers, eI cI 12 M_numbers), (aM_ranks, eI cI 16 M_ranks), (aM_ahead, eI cI 12 M_ahead), (aA, .inr (0, [.ref aA_row, .int A_length])), (aA_row, eI cI 16 A_row)] s.heap.size = A at hD ⊢
  have hA : ∀ q : Nat, s.heap.size ≤ q → A q := fun q h => by rw [← hAe]; exact Or.inr h
  have hS : va_S A s.heap s.heap [] := va_S.rf
  have hl := lv_entry ([.ref aB, .int y1]) (n := 2) (Nat.le_of_ble_eq_true rfl)
  rw [lg_entry_eq]
  generalize (lg_sl ([.ref aB, .int y1]) ++ List.replicate (2 - (lg_sl ([.ref aB, .int y1])).length) Slot.unset).toArray = ls at hl ⊢
  have hl : lv_has ls 2 [(0, .ref aB), (1, .int y1)] := hl
  generalize hQQ : MQ below _ _ s 0 0 _ = QQ
  replace hQQ := hQQ.symm
  generalize hHH : s.heap = H at hP ⊢
  have hS : va_S A s.heap H [] := by rw [← hHH]; exact va_S.rf
  generalize ([] : List Loc) = locs at hS ⊢
  unfold fX5_hint at hf
  refine lv_iload_n hx hb dX5_hint_0 rfl (lv_at hl 1 rfl) ?_
  refine lv_if_lt (tgt := 9) hx hb dX5_hint_1 (by decide) (fun c1 => ?_) (fun c1 => ?_)
  · have hf := ifp hf c1
    refine lv_bipush (v := (-102 : Int32)) hx hb dX5_hint_9 (by decide) ?_
    rw [hQQ]
    exact W.iret (v := (-102 : Int32)) hx hb hr (fun t ht hW => by rw [← Option.some.inj hf]; rw [← hAe] at hD hS; exact ⟨⟨(-102 : Int32), (), rfl, rfl, by rw [ht]; exact hP, hD⟩, hS.F ht⟩) hS.2.2 dX5_hint_11
  · have hf := ifn hf c1
    refine lv_iload_n hx hb dX5_hint_4 rfl (lv_at hl 1 rfl) ?_
    refine lv_iconst (v := (3 : Int32)) hx hb dX5_hint_5 (by decide) ?_
    refine lv_icmp_lt (tgt := 12) hx hb dX5_hint_6 (by decide) (fun c6 => ?_) (fun c6 => ?_)
    · have hf := ifp hf c6
      refine lv_aload_n hx hb dX5_hint_12 rfl (lv_at hl 0 rfl) ?_
      refine va_get (D := D) (ci := 5) (v := .ref aK) (C := RX5) (T := TX5) (N := 10) hx hb hts iX5 hown hK.1 hP 0 rfl rfl 3 (by decide) k35 (fun _ h9 => h9) rfl dX5_hint_13 ?_
      refine bnd hf (fun o16 e16 hf => ?_)
      refine wrVv (As := []) (rest := []) (cw := [(aK, .inr (3, [.ref aL, .ref aM, .ref aA, .ref aK_ranks, .ref aK_clashes, .int K_keptPlaces, .int K_changes, .int K_hintChange, .int K_hintLine, .int K_hintPlace])), (aK_ranks, eI cI 16 K_ranks), (aK_clashes, eI cI 16 K_clashes), (aL, .inr (1, [.ref aL_kinds, .ref aL_vs, .ref aL_ws, .ref aL_roles, .ref aL_mates, .int L_many])), (aL_roles, eI cI 16 L_roles), (aL_mates, eI cI 16 L_mates), (aM, .inr (4, [.ref aM_numbers, .ref aM_ranks, .ref aM_ahead, .int M_length, .ref aM_ways, .int M_waysCounted])), (aM_numbers, eI cI 12 M_numbers), (aM_ranks, eI cI 16 M_ranks), (aM_ahead, eI cI 12 M_ahead), (aA, .inr (0, [.ref aA_row, .int A_length])), (aA_row, eI cI 16 A_row)]) (cw' := [(aK, .inr (3, [.ref aL, .ref aM, .ref aA, .ref aK_ranks, .ref aK_clashes, .int o16.1, .int o16.2.1, .int o16.2.2.1, .int o16.2.2.2.1, .int o16.2.2.2.2.1])), (aK_ranks, eI cI 16 o16.2.2.2.2.2.1), (aK_clashes, eI cI 16 o16.2.2.2.2.2.2), (aL, .inr (1, [.ref aL_kinds, .ref aL_vs, .ref aL_ws, .ref aL_roles, .ref aL_mates, .int L_many])), (aL_roles, eI cI 16 L_roles), (aL_mates, eI cI 16 L_mates), (aM, .inr (4, [.ref aM_numbers, .ref aM_ranks, .ref aM_ahead, .int M_length, .ref aM_ways, .int M_waysCounted])), (aM_numbers, eI cI 12 M_numbers), (aM_ranks, eI cI 16 M_ranks), (aM_ahead, eI cI 12 M_ahead), (aA, .inr (0, [.ref aA_row, .int A_length])), (aA_row, eI cI 16 A_row)]) (wr := [(aB, .inr (5, [.ref aL, .ref aM, .ref aA, .ref aK, .ref aB_inputs, .int B_manyInputs, .int B_hintsDone, .ref aC1, .ref aC2, .ref aC3]))]) (ws2 := [(aB, .inr (5, [.ref aL, .ref aM, .ref aA, .ref aK, .ref aB_inputs, .int B_manyInputs, .int B_hintsDone, .ref aC1, .ref aC2, .ref aC3])), (aK, .inr (3, [.ref aL, .ref aM, .ref aA, .ref aK_ranks, .ref aK_clashes, .int o16.1, .int o16.2.1, .int o16.2.2.1, .int o16.2.2.2.1, .int o16.2.2.2.2.1])), (aK_ranks, eI cI 16 o16.2.2.2.2.2.1), (aK_clashes, eI cI 16 o16.2.2.2.2.2.2), (aL, .inr (1, [.ref aL_kinds, .ref aL_vs, .ref aL_ws, .ref aL_roles, .ref aL_mates, .int L_many])), (aL_roles, eI cI 16 L_roles), (aL_mates, eI cI 16 L_mates), (aM, .inr (4, [.ref aM_numbers, .ref aM_ranks, .ref aM_ahead, .int M_length, .ref aM_ways, .int M_waysCounted])), (aM_numbers, eI cI 12 M_numbers), (aM_ranks, eI cI 16 M_ranks), (aM_ahead, eI cI 12 M_ahead), (aA, .inr (0, [.ref aA_row, .int A_length])), (aA_row, eI cI 16 A_row)]) ⟨hx, hb, hml, hown, hts⟩ (tX3_study l D cI cJ cG aK aL aM aA aK_ranks aK_clashes aL_kinds aL_vs aL_ws aL_roles aL_mates aM_numbers aM_ranks aM_ahead aM_ways aA_row H.size  K_keptPlaces K_changes K_hintChange K_hintLine K_hintPlace K_ranks K_clashes L_many L_roles L_mates M_length M_waysCounted M_numbers M_ranks M_ahead A_length A_row o16 e16) (cwV 0 hts gX5_hint_X3_study rfl rfl rfl (by decide +kernel) ⟨Nat.le_of_ble_eq_true rfl, Nat.le_of_ble_eq_true rfl⟩) (va_recv (ci := 3) (q0 := 1) hK.1 hP rfl rfl) hK hP hD hS hA [1, 2, 3, 4, 5, 6, 7, 8, 9, 10, 11, 12] [0] [0, 1, 2, 3, 4, 5, 6, 7, 8, 9, 10, 11, 12] rfl rfl rfl (by decide) (by decide) (by decide) (by decide) rfl hl.1 rfl (lv_room (Nat.le_of_ble_eq_true rfl)) dX5_hint_16 ⟨Nat.le_of_ble_eq_true rfl, Nat.le_of_ble_eq_true rfl⟩ (fun H locs hP hD hS => ?_)
      refine lv_iload_n hx hb dX5_hint_19 rfl (lv_at hl 1 rfl) ?_
      by_cases c20_0 : y1 = (0 : Int32)
      · have hf := ifp hf c20_0
        refine lv_lookup (off := 28) (tgt := 48) hx hb dX5_hint_20 (by decide) (by rw [c20_0]; decide) (by decide) ?_
        refine lv_aload_n hx hb dX5_hint_48 rfl (lv_at hl 0 rfl) ?_
        refine va_get (D := D) (ci := 5) (v := .ref aK) (C := RX5) (T := TX5) (N := 10) hx hb hts iX5 hown hK.1 hP 0 rfl rfl 3 (by decide) k35 (fun _ h9 => h9) rfl dX5_hint_49 ?_
        refine va_getN (D := D) (ci := 3) (v := .int o16.2.2.1) (C := RX3) (T := TX3) (N := 10) hx hb hts iX3 hown hK.1 hP 1 rfl rfl 7 (by decide) n161 (fun _ h9 => h9) rfl dX5_hint_52 ?_
        rw [hQQ]
        exact W.iret (v := o16.2.2.1) hx hb hr (fun t ht hW => by rw [← Option.some.inj hf]; rw [← hAe] at hD hS; exact ⟨⟨o16.2.2.1, (), rfl, rfl, by rw [ht]; exact hP, hD⟩, hS.F ht⟩) hS.2.2 dX5_hint_55
      · have hf := ifn hf c20_0
        by_cases c20_1 : y1 = (1 : Int32)
        · have hf := ifp hf c20_1
          refine lv_lookup (off := 36) (tgt := 56) hx hb dX5_hint_20 (by decide) (by rw [c20_1]; decide) (by decide) ?_
          refine lv_aload_n hx hb dX5_hint_56 rfl (lv_at hl 0 rfl) ?_
          refine va_get (D := D) (ci := 5) (v := .ref aK) (C := RX5) (T := TX5) (N := 10) hx hb hts iX5 hown hK.1 hP 0 rfl rfl 3 (by decide) k35 (fun _ h9 => h9) rfl dX5_hint_57 ?_
          refine va_getN (D := D) (ci := 3) (v := .int o16.2.2.2.1) (C := RX3) (T := TX3) (N := 10) hx hb hts iX3 hown hK.1 hP 1 rfl rfl 8 (by decide) n164 (fun _ h9 => h9) rfl dX5_hint_60 ?_
          rw [hQQ]
          exact W.iret (v := o16.2.2.2.1) hx hb hr (fun t ht hW => by rw [← Option.some.inj hf]; rw [← hAe] at hD hS; exact ⟨⟨o16.2.2.2.1, (), rfl, rfl, by rw [ht]; exact hP, hD⟩, hS.F ht⟩) hS.2.2 dX5_hint_63
        · have hf := ifn hf c20_1
          refine lv_lookup (off := 44) (tgt := 64) hx hb dX5_hint_20 (by decide) ((lv_osw (a := 0) c20_0 rfl).trans ((lv_osw (a := 1) c20_1 rfl).trans (rfl))) (by decide) ?_
          refine lv_aload_n hx hb dX5_hint_64 rfl (lv_at hl 0 rfl) ?_
          refine va_get (D := D) (ci := 5) (v := .ref aK) (C := RX5) (T := TX5) (N := 10) hx hb hts iX5 hown hK.1 hP 0 rfl rfl 3 (by decide) k35 (fun _ h9 => h9) rfl dX5_hint_65 ?_
          refine va_getN (D := D) (ci := 3) (v := .int o16.2.2.2.2.1) (C := RX3) (T := TX3) (N := 10) hx hb hts iX3 hown hK.1 hP 1 rfl rfl 9 (by decide) n167 (fun _ h9 => h9) rfl dX5_hint_68 ?_
          rw [hQQ]
          exact W.iret (v := o16.2.2.2.2.1) hx hb hr (fun t ht hW => by rw [← Option.some.inj hf]; rw [← hAe] at hD hS; exact ⟨⟨o16.2.2.2.2.1, (), rfl, rfl, by rw [ht]; exact hP, hD⟩, hS.F ht⟩) hS.2.2 dX5_hint_71
    · have hf := ifn hf c6
      refine lv_bipush (v := (-102 : Int32)) hx hb dX5_hint_9 (by decide) ?_
      rw [hQQ]
      exact W.iret (v := (-102 : Int32)) hx hb hr (fun t ht hW => by rw [← Option.some.inj hf]; rw [← hAe] at hD hS; exact ⟨⟨(-102 : Int32), (), rfl, rfl, by rw [ht]; exact hP, hD⟩, hS.F ht⟩) hS.2.2 dX5_hint_11

set_option maxHeartbeats 4000000 in
set_option maxRecDepth 100000 in
theorem tX5_doHint (l : Launch) (D : va_G) (cI cJ cG : ClassId) (aB aL aM aA aK aB_inputs aC1 aC2 aC3 aK_ranks aK_clashes aL_kinds aL_vs aL_ws aL_roles aL_mates aA_row : Nat) (sz : Nat)  (B_manyInputs : Int32) (B_hintsDone : Int32) (K_keptPlaces : Int32) (K_changes : Int32) (K_hintChange : Int32) (K_hintLine : Int32) (K_hintPlace : Int32) (L_many : Int32) (L_mates : (Nat → Int32)) (A_length : Int32) (A_row : (Nat → Int32)) (out : Int32 × (Nat → Int32)) (hf : fX5_doHint K_hintChange K_hintLine K_hintPlace L_many L_mates A_length A_row = some out) : Met l yX5_doHint wsX5_doHint ({ frames := 2, cells := 0, slots := 0, locals := 44 }) (va_Pc [.ref aB] (wP D (tyL cI cJ cG) [(aB, .inr (5, [.ref aL, .ref aM, .ref aA, .ref aK, .ref aB_inputs, .int B_manyInputs, .int B_hintsDone, .ref aC1, .ref aC2, .ref aC3])), (aK, .inr (3, [.ref aL, .ref aM, .ref aA, .ref aK_ranks, .ref aK_clashes, .int K_keptPlaces, .int K_changes, .int K_hintChange, .int K_hintLine, .int K_hintPlace])), (aL, .inr (1, [.ref aL_kinds, .ref aL_vs, .ref aL_ws, .ref aL_roles, .ref aL_mates, .int L_many])), (aL_mates, eI cI 16 L_mates), (aA, .inr (0, [.ref aA_row, .int A_length])), (aA_row, eI cI 16 A_row)] sz)) (wQv D  [(aB, .inr (5, [.ref aL, .ref aM, .ref aA, .ref aK, .ref aB_inputs, .int B_manyInputs, .int B_hintsDone, .ref aC1, .ref aC2, .ref aC3])), (aK, .inr (3, [.ref aL, .ref aM, .ref aA, .ref aK_ranks, .ref aK_clashes, .int K_keptPlaces, .int K_changes, .int K_hintChange, .int K_hintLine, .int K_hintPlace])), (aL, .inr (1, [.ref aL_kinds, .ref aL_vs, .ref aL_ws, .ref aL_roles, .ref aL_mates, .int L_many])), (aL_mates, eI cI 16 L_mates), (aA, .inr (0, [.ref aA_row, .int A_length])), (aA_row, eI cI 16 A_row)] [(aB, .inr (5, [.ref aL, .ref aM, .ref aA, .ref aK, .ref aB_inputs, .int B_manyInputs, .int B_hintsDone, .ref aC1, .ref aC2, .ref aC3])), (aK, .inr (3, [.ref aL, .ref aM, .ref aA, .ref aK_ranks, .ref aK_clashes, .int K_keptPlaces, .int K_changes, .int K_hintChange, .int K_hintLine, .int K_hintPlace])), (aL, .inr (1, [.ref aL_kinds, .ref aL_vs, .ref aL_ws, .ref aL_roles, .ref aL_mates, .int L_many])), (aL_mates, eI cI 16 L_mates), (aA, .inr (0, [.ref aA_row, .int out.1])), (aA_row, eI cI 16 out.2)] sz) 0 0 (va_A [(aB, .inr (5, [.ref aL, .ref aM, .ref aA, .ref aK, .ref aB_inputs, .int B_manyInputs, .int B_hintsDone, .ref aC1, .ref aC2, .ref aC3])), (aK, .inr (3, [.ref aL, .ref aM, .ref aA, .ref aK_ranks, .ref aK_clashes, .int K_keptPlaces, .int K_changes, .int K_hintChange, .int K_hintLine, .int K_hintPlace])), (aL, .inr (1, [.ref aL_kinds, .ref aL_vs, .ref aL_ws, .ref aL_roles, .ref aL_mates, .int L_many])), (aL_mates, eI cI 16 L_mates), (aA, .inr (0, [.ref aA_row, .int A_length])), (aA_row, eI cI 16 A_row)] sz) := by
  refine Met.ofW (cc := cX5_doHint) (maxL := 3) (ret := none) (by decide) rfl ?_
  intro p e s m args below meth c s₁ B hml hv
  obtain ⟨rfl, hsz, hP, hK, hD0⟩ := hv
  have hx := B.exec
  have hb := B.bytes
  have hr := B.returns
  have hts := atoms_spec (ws := wsX5_doHint) B.pre
  have hown : s.vm.findClass RX5 = some m.cls := findClass_of_methodNamed B.named
  have hlocks := B.notSynchronized
  have iX3 : ∀ w ∈ wsX30, w ∈ wsX5_doHint := by decide +kernel
  have iX5 : ∀ w ∈ wsX50, w ∈ wsX5_doHint := by decide +kernel
  have k10 := hts (.fieldLink RX5 10 "BlockMarker" "lines" "LBlockMarker$Lines;") (by decide +kernel)
  have k26 := hts (.fieldLink RX5 26 "BlockMarker" "answer" "LBlockMarker$Answer;") (by decide +kernel)
  have k35 := hts (.fieldLink RX5 35 "BlockMarker" "marking" "LBlockMarker$Marking;") (by decide +kernel)
  have n161 := va_Nw.use (A := ([.ref aB] : List Value).toArray) rfl (hK.2 (.fieldLinkNest "BlockMarker" 161 "BlockMarker$Marking" "hintChange" "I" "BlockMarker") (by decide +kernel))
  have n164 := va_Nw.use (A := ([.ref aB] : List Value).toArray) rfl (hK.2 (.fieldLinkNest "BlockMarker" 164 "BlockMarker$Marking" "hintLine" "I" "BlockMarker") (by decide +kernel))
  have n167 := va_Nw.use (A := ([.ref aB] : List Value).toArray) rfl (hK.2 (.fieldLinkNest "BlockMarker" 167 "BlockMarker$Marking" "hintPlace" "I" "BlockMarker") (by decide +kernel))
  subst hsz
  have hD := hD0.self (sz := s.heap.size)
  generalize hAe : va_A [(aB, .inr (5, [.ref aL, .ref aM, .ref aA, .ref aK, .ref aB_inputs, .int B_manyInputs, .int B_hintsDone, .ref aC1, .ref aC2, .ref aC3])), (aK, .inr (3, [.ref aL, .ref aM, .ref aA, .ref aK_ranks, .ref aK_clashes, .int K_keptPlaces, .int K_changes, .int K_hintChange, .int K_hintLine, .int K_hintPlace])), (aL, .inr (1, [.ref aL_kinds, .ref aL_vs, .ref aL_ws, .ref aL_roles, .ref aL_mates, .int L_many])), (aL_mates, eI cI 16 L_mates), (aA, .inr (0, [.ref aA_row, .int A_length])), (aA_row, eI cI 16 A_row)] s.heap.size = A at hD ⊢
  have hA : ∀ q : Nat, s.heap.size ≤ q → A q := fun q h => by rw [← hAe]; exact Or.inr h
  have hS : va_S A s.heap s.heap [] := va_S.rf
  have hl := lv_entry ([.ref aB]) (n := 3) (Nat.le_of_ble_eq_true rfl)
  rw [lg_entry_eq]
  generalize (lg_sl ([.ref aB]) ++ List.replicate (3 - (lg_sl ([.ref aB])).length) Slot.unset).toArray = ls at hl ⊢
  have hl : lv_has ls 3 [(0, .ref aB)] := hl
  generalize hQQ : MQ below _ _ s 0 0 _ = QQ
  replace hQQ := hQQ.symm
  generalize hHH : s.heap = H at hP ⊢
  have hS : va_S A s.heap H [] := by rw [← hHH]; exact va_S.rf
  generalize ([] : List Loc) = locs at hS ⊢
  unfold fX5_doHint at hf
  refine lv_aload_n hx hb dX5_doHint_0 rfl (lv_at hl 0 rfl) ?_
  refine va_get (D := D) (ci := 5) (v := .ref aK) (C := RX5) (T := TX5) (N := 10) hx hb hts iX5 hown hK.1 hP 0 rfl rfl 3 (by decide) k35 (fun _ h9 => h9) rfl dX5_doHint_1 ?_
  refine va_getN (D := D) (ci := 3) (v := .int K_hintLine) (C := RX3) (T := TX3) (N := 10) hx hb hts iX3 hown hK.1 hP 1 rfl rfl 8 (by decide) n164 (fun _ h9 => h9) rfl dX5_doHint_4 ?_
  refine lv_istore_n (lv' := [(1, .int K_hintLine), (0, .ref aB)]) hx hb dX5_doHint_7 rfl hl (by decide) rfl (fun ls hl => ?_)
  refine lv_aload_n hx hb dX5_doHint_8 rfl (lv_at hl 1 rfl) ?_
  refine va_get (D := D) (ci := 5) (v := .ref aK) (C := RX5) (T := TX5) (N := 10) hx hb hts iX5 hown hK.1 hP 0 rfl rfl 3 (by decide) k35 (fun _ h9 => h9) rfl dX5_doHint_9 ?_
  refine va_getN (D := D) (ci := 3) (v := .int K_hintPlace) (C := RX3) (T := TX3) (N := 10) hx hb hts iX3 hown hK.1 hP 1 rfl rfl 9 (by decide) n167 (fun _ h9 => h9) rfl dX5_doHint_12 ?_
  refine lv_istore_n (lv' := [(2, .int K_hintPlace), (1, .int K_hintLine), (0, .ref aB)]) hx hb dX5_doHint_15 rfl hl (by decide) rfl (fun ls hl => ?_)
  refine lv_aload_n hx hb dX5_doHint_16 rfl (lv_at hl 2 rfl) ?_
  refine va_get (D := D) (ci := 5) (v := .ref aK) (C := RX5) (T := TX5) (N := 10) hx hb hts iX5 hown hK.1 hP 0 rfl rfl 3 (by decide) k35 (fun _ h9 => h9) rfl dX5_doHint_17 ?_
  refine va_getN (D := D) (ci := 3) (v := .int K_hintChange) (C := RX3) (T := TX3) (N := 10) hx hb hts iX3 hown hK.1 hP 1 rfl rfl 7 (by decide) n161 (fun _ h9 => h9) rfl dX5_doHint_20 ?_
  by_cases c23_0 : K_hintChange = (0 : Int32)
  · have hf := ifp hf c23_0
    refine lv_tableIn (off := 25) (tgt := 48) hx hb dX5_doHint_23 (by rw [c23_0]; decide) (by rw [c23_0]; decide) (by rw [c23_0]; decide) (by decide) ?_
    refine lv_aload_n hx hb dX5_doHint_48 rfl (lv_at hl 2 rfl) ?_
    refine va_get (D := D) (ci := 5) (v := .ref aA) (C := RX5) (T := TX5) (N := 10) hx hb hts iX5 hown hK.1 hP 0 rfl rfl 2 (by decide) k26 (fun _ h9 => h9) rfl dX5_doHint_49 ?_
    refine lv_iload_n hx hb dX5_doHint_52 rfl (lv_at hl 0 rfl) ?_
    refine bnd hf (fun o53 e53 hf => ?_)
    refine wrVi (As := [.int K_hintPlace]) (rest := []) (cw := [(aA, .inr (0, [.ref aA_row, .int A_length])), (aA_row, eI cI 16 A_row)]) (cw' := [(aA, .inr (0, [.ref aA_row, .int o53.2.1])), (aA_row, eI cI 16 o53.2.2)]) (wr := [(aB, .inr (5, [.ref aL, .ref aM, .ref aA, .ref aK, .ref aB_inputs, .int B_manyInputs, .int B_hintsDone, .ref aC1, .ref aC2, .ref aC3])), (aK, .inr (3, [.ref aL, .ref aM, .ref aA, .ref aK_ranks, .ref aK_clashes, .int K_keptPlaces, .int K_changes, .int K_hintChange, .int K_hintLine, .int K_hintPlace])), (aL, .inr (1, [.ref aL_kinds, .ref aL_vs, .ref aL_ws, .ref aL_roles, .ref aL_mates, .int L_many])), (aL_mates, eI cI 16 L_mates)]) (ws2 := [(aB, .inr (5, [.ref aL, .ref aM, .ref aA, .ref aK, .ref aB_inputs, .int B_manyInputs, .int B_hintsDone, .ref aC1, .ref aC2, .ref aC3])), (aK, .inr (3, [.ref aL, .ref aM, .ref aA, .ref aK_ranks, .ref aK_clashes, .int K_keptPlaces, .int K_changes, .int K_hintChange, .int K_hintLine, .int K_hintPlace])), (aL, .inr (1, [.ref aL_kinds, .ref aL_vs, .ref aL_ws, .ref aL_roles, .ref aL_mates, .int L_many])), (aL_mates, eI cI 16 L_mates), (aA, .inr (0, [.ref aA_row, .int o53.2.1])), (aA_row, eI cI 16 o53.2.2)]) ⟨hx, hb, hml, hown, hts⟩ (tX0_remove l D cI cJ cG aA aA_row H.size K_hintPlace A_length A_row o53 e53) (cwV 1 hts gX5_doHint_X0_remove rfl rfl rfl (by decide +kernel) ⟨Nat.le_of_ble_eq_true rfl, Nat.le_of_ble_eq_true rfl⟩) (va_recv (ci := 0) (q0 := 4) hK.1 hP rfl rfl) hK hP hD hS hA [4, 5] [0, 1, 2, 3] [0, 1, 2, 3, 4, 5] rfl rfl rfl (by decide) (by decide) (by decide) (by decide) rfl hl.1 rfl (lv_room (Nat.le_of_ble_eq_true rfl)) dX5_doHint_53 ⟨Nat.le_of_ble_eq_true rfl, Nat.le_of_ble_eq_true rfl⟩ (fun H locs hP hD hS => ?_)
    refine lv_pop hx hb dX5_doHint_56 rfl ?_
    refine lv_goto (tgt := 125) hx hb dX5_doHint_57 (by decide) ?_
    rw [hQQ]
    exact W.vret hx hb hr (fun t ht hW => by rw [← Option.some.inj hf]; rw [← hAe] at hD hS; exact ⟨⟨(), rfl, trivial, by rw [ht]; exact hP, hD⟩, hS.F ht⟩) hS.2.2 dX5_doHint_125
  · have hf := ifn hf c23_0
    by_cases c23_1 : K_hintChange = (1 : Int32)
    · have hf := ifp hf c23_1
      refine lv_tableIn (off := 37) (tgt := 60) hx hb dX5_doHint_23 (by rw [c23_1]; decide) (by rw [c23_1]; decide) (by rw [c23_1]; decide) (by decide) ?_
      refine lv_aload_n hx hb dX5_doHint_60 rfl (lv_at hl 2 rfl) ?_
      refine va_get (D := D) (ci := 5) (v := .ref aA) (C := RX5) (T := TX5) (N := 10) hx hb hts iX5 hown hK.1 hP 0 rfl rfl 2 (by decide) k26 (fun _ h9 => h9) rfl dX5_doHint_61 ?_
      refine lv_iload_n hx hb dX5_doHint_64 rfl (lv_at hl 1 rfl) ?_
      refine lv_iload_n hx hb dX5_doHint_65 rfl (lv_at hl 0 rfl) ?_
      refine bnd hf (fun o66 e66 hf => ?_)
      refine wrVv (As := [.int K_hintLine, .int K_hintPlace]) (rest := []) (cw := [(aA, .inr (0, [.ref aA_row, .int A_length])), (aA_row, eI cI 16 A_row)]) (cw' := [(aA, .inr (0, [.ref aA_row, .int o66.1])), (aA_row, eI cI 16 o66.2)]) (wr := [(aB, .inr (5, [.ref aL, .ref aM, .ref aA, .ref aK, .ref aB_inputs, .int B_manyInputs, .int B_hintsDone, .ref aC1, .ref aC2, .ref aC3])), (aK, .inr (3, [.ref aL, .ref aM, .ref aA, .ref aK_ranks, .ref aK_clashes, .int K_keptPlaces, .int K_changes, .int K_hintChange, .int K_hintLine, .int K_hintPlace])), (aL, .inr (1, [.ref aL_kinds, .ref aL_vs, .ref aL_ws, .ref aL_roles, .ref aL_mates, .int L_many])), (aL_mates, eI cI 16 L_mates)]) (ws2 := [(aB, .inr (5, [.ref aL, .ref aM, .ref aA, .ref aK, .ref aB_inputs, .int B_manyInputs, .int B_hintsDone, .ref aC1, .ref aC2, .ref aC3])), (aK, .inr (3, [.ref aL, .ref aM, .ref aA, .ref aK_ranks, .ref aK_clashes, .int K_keptPlaces, .int K_changes, .int K_hintChange, .int K_hintLine, .int K_hintPlace])), (aL, .inr (1, [.ref aL_kinds, .ref aL_vs, .ref aL_ws, .ref aL_roles, .ref aL_mates, .int L_many])), (aL_mates, eI cI 16 L_mates), (aA, .inr (0, [.ref aA_row, .int o66.1])), (aA_row, eI cI 16 o66.2)]) ⟨hx, hb, hml, hown, hts⟩ (tX0_insert l D cI cJ cG aA aA_row H.size K_hintLine K_hintPlace A_length A_row o66 e66) (cwV 2 hts gX5_doHint_X0_insert rfl rfl rfl (by decide +kernel) ⟨Nat.le_of_ble_eq_true rfl, Nat.le_of_ble_eq_true rfl⟩) (va_recv (ci := 0) (q0 := 4) hK.1 hP rfl rfl) hK hP hD hS hA [4, 5] [0, 1, 2, 3] [0, 1, 2, 3, 4, 5] rfl rfl rfl (by decide) (by decide) (by decide) (by decide) rfl hl.1 rfl (lv_room (Nat.le_of_ble_eq_true rfl)) dX5_doHint_66 ⟨Nat.le_of_ble_eq_true rfl, Nat.le_of_ble_eq_true rfl⟩ (fun H locs hP hD hS => ?_)
      refine lv_goto (tgt := 125) hx hb dX5_doHint_69 (by decide) ?_
      rw [hQQ]
      exact W.vret hx hb hr (fun t ht hW => by rw [← Option.some.inj hf]; rw [← hAe] at hD hS; exact ⟨⟨(), rfl, trivial, by rw [ht]; exact hP, hD⟩, hS.F ht⟩) hS.2.2 dX5_doHint_125
    · have hf := ifn hf c23_1
      by_cases c23_2 : K_hintChange = (2 : Int32)
      · have hf := ifp hf c23_2
        refine lv_tableIn (off := 49) (tgt := 72) hx hb dX5_doHint_23 (by rw [c23_2]; decide) (by rw [c23_2]; decide) (by rw [c23_2]; decide) (by decide) ?_
        refine lv_aload_n hx hb dX5_doHint_72 rfl (lv_at hl 2 rfl) ?_
        refine va_get (D := D) (ci := 5) (v := .ref aA) (C := RX5) (T := TX5) (N := 10) hx hb hts iX5 hown hK.1 hP 0 rfl rfl 2 (by decide) k26 (fun _ h9 => h9) rfl dX5_doHint_73 ?_
        refine lv_aload_n hx hb dX5_doHint_76 rfl (lv_at hl 2 rfl) ?_
        refine va_get (D := D) (ci := 5) (v := .ref aA) (C := RX5) (T := TX5) (N := 10) hx hb hts iX5 hown hK.1 hP 0 rfl rfl 2 (by decide) k26 (fun _ h9 => h9) rfl dX5_doHint_77 ?_
        refine lv_iload_n hx hb dX5_doHint_80 rfl (lv_at hl 1 rfl) ?_
        refine bnd hf (fun o81 e81 hf => ?_)
        refine rdVi (As := [.int K_hintLine]) (rest := [.ref aA]) ⟨hx, hb, hml, hown, hts⟩ (tX0_placeOf l D cI cJ cG aA aA_row H K_hintLine A_length A_row o81 e81) (cwV 1 hts gX5_doHint_X0_placeOf rfl rfl rfl (by decide +kernel) ⟨Nat.le_of_ble_eq_true rfl, Nat.le_of_ble_eq_true rfl⟩) (va_recv (ci := 0) (q0 := 4) hK.1 hP rfl rfl) hK (hP.sub (ws' := [(aA, .inr (0, [.ref aA_row, .int A_length])), (aA_row, eI cI 16 A_row)]) [4, 5] rfl) rfl hl.1 rfl (lv_room (Nat.le_of_ble_eq_true rfl)) dX5_doHint_81 ⟨Nat.le_of_ble_eq_true rfl, Nat.le_of_ble_eq_true rfl⟩ hS (fun locs hS => ?_)
        refine bnd hf (fun o84 e84 hf => ?_)
        refine wrVi (As := [.int o81]) (rest := []) (cw := [(aA, .inr (0, [.ref aA_row, .int A_length])), (aA_row, eI cI 16 A_row)]) (cw' := [(aA, .inr (0, [.ref aA_row, .int o84.2.1])), (aA_row, eI cI 16 o84.2.2)]) (wr := [(aB, .inr (5, [.ref aL, .ref aM, .ref aA, .ref aK, .ref aB_inputs, .int B_manyInputs, .int B_hintsDone, .ref aC1, .ref aC2, .ref aC3])), (aK, .inr (3, [.ref aL, .ref aM, .ref aA, .ref aK_ranks, .ref aK_clashes, .int K_keptPlaces, .int K_changes, .int K_hintChange, .int K_hintLine, .int K_hintPlace])), (aL, .inr (1, [.ref aL_kinds, .ref aL_vs, .ref aL_ws, .ref aL_roles, .ref aL_mates, .int L_many])), (aL_mates, eI cI 16 L_mates)]) (ws2 := [(aB, .inr (5, [.ref aL, .ref aM, .ref aA, .ref aK, .ref aB_inputs, .int B_manyInputs, .int B_hintsDone, .ref aC1, .ref aC2, .ref aC3])), (aK, .inr (3, [.ref aL, .ref aM, .ref aA, .ref aK_ranks, .ref aK_clashes, .int K_keptPlaces, .int K_changes, .int K_hintChange, .int K_hintLine, .int K_hintPlace])), (aL, .inr (1, [.ref aL_kinds, .ref aL_vs, .ref aL_ws, .ref aL_roles, .ref aL_mates, .int L_many])), (aL_mates, eI cI 16 L_mates), (aA, .inr (0, [.ref aA_row, .int o84.2.1])), (aA_row, eI cI 16 o84.2.2)]) ⟨hx, hb, hml, hown, hts⟩ (tX0_remove l D cI cJ cG aA aA_row H.size o81 A_length A_row o84 e84) (cwV 1 hts gX5_doHint_X0_remove rfl rfl rfl (by decide +kernel) ⟨Nat.le_of_ble_eq_true rfl, Nat.le_of_ble_eq_true rfl⟩) (va_recv (ci := 0) (q0 := 4) hK.1 hP rfl rfl) hK hP hD hS hA [4, 5] [0, 1, 2, 3] [0, 1, 2, 3, 4, 5] rfl rfl rfl (by decide) (by decide) (by decide) (by decide) rfl hl.1 rfl (lv_room (Nat.le_of_ble_eq_true rfl)) dX5_doHint_84 ⟨Nat.le_of_ble_eq_true rfl, Nat.le_of_ble_eq_true rfl⟩ (fun H locs hP hD hS => ?_)
        refine lv_pop hx hb dX5_doHint_87 rfl ?_
        refine lv_aload_n hx hb dX5_doHint_88 rfl (lv_at hl 2 rfl) ?_
        refine va_get (D := D) (ci := 5) (v := .ref aA) (C := RX5) (T := TX5) (N := 10) hx hb hts iX5 hown hK.1 hP 0 rfl rfl 2 (by decide) k26 (fun _ h9 => h9) rfl dX5_doHint_89 ?_
        refine lv_iload_n hx hb dX5_doHint_92 rfl (lv_at hl 1 rfl) ?_
        refine lv_iload_n hx hb dX5_doHint_93 rfl (lv_at hl 0 rfl) ?_
        refine bnd hf (fun o94 e94 hf => ?_)
        refine wrVv (As := [.int K_hintLine, .int K_hintPlace]) (rest := []) (cw := [(aA, .inr (0, [.ref aA_row, .int o84.2.1])), (aA_row, eI cI 16 o84.2.2)]) (cw' := [(aA, .inr (0, [.ref aA_row, .int o94.1])), (aA_row, eI cI 16 o94.2)]) (wr := [(aB, .inr (5, [.ref aL, .ref aM, .ref aA, .ref aK, .ref aB_inputs, .int B_manyInputs, .int B_hintsDone, .ref aC1, .ref aC2, .ref aC3])), (aK, .inr (3, [.ref aL, .ref aM, .ref aA, .ref aK_ranks, .ref aK_clashes, .int K_keptPlaces, .int K_changes, .int K_hintChange, .int K_hintLine, .int K_hintPlace])), (aL, .inr (1, [.ref aL_kinds, .ref aL_vs, .ref aL_ws, .ref aL_roles, .ref aL_mates, .int L_many])), (aL_mates, eI cI 16 L_mates)]) (ws2 := [(aB, .inr (5, [.ref aL, .ref aM, .ref aA, .ref aK, .ref aB_inputs, .int B_manyInputs, .int B_hintsDone, .ref aC1, .ref aC2, .ref aC3])), (aK, .inr (3, [.ref aL, .ref aM, .ref aA, .ref aK_ranks, .ref aK_clashes, .int K_keptPlaces, .int K_changes, .int K_hintChange, .int K_hintLine, .int K_hintPlace])), (aL, .inr (1, [.ref aL_kinds, .ref aL_vs, .ref aL_ws, .ref aL_roles, .ref aL_mates, .int L_many])), (aL_mates, eI cI 16 L_mates), (aA, .inr (0, [.ref aA_row, .int o94.1])), (aA_row, eI cI 16 o94.2)]) ⟨hx, hb, hml, hown, hts⟩ (tX0_insert l D cI cJ cG aA aA_row H.size K_hintLine K_hintPlace o84.2.1 o84.2.2 o94 e94) (cwV 2 hts gX5_doHint_X0_insert rfl rfl rfl (by decide +kernel) ⟨Nat.le_of_ble_eq_true rfl, Nat.le_of_ble_eq_true rfl⟩) (va_recv (ci := 0) (q0 := 4) hK.1 hP rfl rfl) hK hP hD hS hA [4, 5] [0, 1, 2, 3] [0, 1, 2, 3, 4, 5] rfl rfl rfl (by decide) (by decide) (by decide) (by decide) rfl hl.1 rfl (lv_room (Nat.le_of_ble_eq_true rfl)) dX5_doHint_94 ⟨Nat.le_of_ble_eq_true rfl, Nat.le_of_ble_eq_true rfl⟩ (fun H locs hP hD hS => ?_)
        refine lv_goto (tgt := 125) hx hb dX5_doHint_97 (by decide) ?_
        rw [hQQ]
        exact W.vret hx hb hr (fun t ht hW => by rw [← Option.some.inj hf]; rw [← hAe] at hD hS; exact ⟨⟨(), rfl, trivial, by rw [ht]; exact hP, hD⟩, hS.F ht⟩) hS.2.2 dX5_doHint_125
      · have hf := ifn hf c23_2
        have u23_0 := lv_neT c23_0 (a := 0) rfl
        have u23_1 := lv_neT c23_1 (a := 1) rfl
        have u23_2 := lv_neT c23_2 (a := 2) rfl
        refine lv_tableOut (tgt := 100) hx hb dX5_doHint_23 (by omega) (by decide) ?_
        refine lv_aload_n hx hb dX5_doHint_100 rfl (lv_at hl 2 rfl) ?_
        refine va_get (D := D) (ci := 5) (v := .ref aA) (C := RX5) (T := TX5) (N := 10) hx hb hts iX5 hown hK.1 hP 0 rfl rfl 2 (by decide) k26 (fun _ h9 => h9) rfl dX5_doHint_101 ?_
        refine lv_iload_n hx hb dX5_doHint_104 rfl (lv_at hl 0 rfl) ?_
        refine bnd hf (fun o105 e105 hf => ?_)
        refine wrVi (As := [.int K_hintPlace]) (rest := []) (cw := [(aA, .inr (0, [.ref aA_row, .int A_length])), (aA_row, eI cI 16 A_row)]) (cw' := [(aA, .inr (0, [.ref aA_row, .int o105.2.1])), (aA_row, eI cI 16 o105.2.2)]) (wr := [(aB, .inr (5, [.ref aL, .ref aM, .ref aA, .ref aK, .ref aB_inputs, .int B_manyInputs, .int B_hintsDone, .ref aC1, .ref aC2, .ref aC3])), (aK, .inr (3, [.ref aL, .ref aM, .ref aA, .ref aK_ranks, .ref aK_clashes, .int K_keptPlaces, .int K_changes, .int K_hintChange, .int K_hintLine, .int K_hintPlace])), (aL, .inr (1, [.ref aL_kinds, .ref aL_vs, .ref aL_ws, .ref aL_roles, .ref aL_mates, .int L_many])), (aL_mates, eI cI 16 L_mates)]) (ws2 := [(aB, .inr (5, [.ref aL, .ref aM, .ref aA, .ref aK, .ref aB_inputs, .int B_manyInputs, .int B_hintsDone, .ref aC1, .ref aC2, .ref aC3])), (aK, .inr (3, [.ref aL, .ref aM, .ref aA, .ref aK_ranks, .ref aK_clashes, .int K_keptPlaces, .int K_changes, .int K_hintChange, .int K_hintLine, .int K_hintPlace])), (aL, .inr (1, [.ref aL_kinds, .ref aL_vs, .ref aL_ws, .ref aL_roles, .ref aL_mates, .int L_many])), (aL_mates, eI cI 16 L_mates), (aA, .inr (0, [.ref aA_row, .int o105.2.1])), (aA_row, eI cI 16 o105.2.2)]) ⟨hx, hb, hml, hown, hts⟩ (tX0_remove l D cI cJ cG aA aA_row H.size K_hintPlace A_length A_row o105 e105) (cwV 1 hts gX5_doHint_X0_remove rfl rfl rfl (by decide +kernel) ⟨Nat.le_of_ble_eq_true rfl, Nat.le_of_ble_eq_true rfl⟩) (va_recv (ci := 0) (q0 := 4) hK.1 hP rfl rfl) hK hP hD hS hA [4, 5] [0, 1, 2, 3] [0, 1, 2, 3, 4, 5] rfl rfl rfl (by decide) (by decide) (by decide) (by decide) rfl hl.1 rfl (lv_room (Nat.le_of_ble_eq_true rfl)) dX5_doHint_105 ⟨Nat.le_of_ble_eq_true rfl, Nat.le_of_ble_eq_true rfl⟩ (fun H locs hP hD hS => ?_)
        refine lv_pop hx hb dX5_doHint_108 rfl ?_
        refine lv_aload_n hx hb dX5_doHint_109 rfl (lv_at hl 2 rfl) ?_
        refine va_get (D := D) (ci := 5) (v := .ref aA) (C := RX5) (T := TX5) (N := 10) hx hb hts iX5 hown hK.1 hP 0 rfl rfl 2 (by decide) k26 (fun _ h9 => h9) rfl dX5_doHint_110 ?_
        refine lv_aload_n hx hb dX5_doHint_113 rfl (lv_at hl 2 rfl) ?_
        refine va_get (D := D) (ci := 5) (v := .ref aL) (C := RX5) (T := TX5) (N := 10) hx hb hts iX5 hown hK.1 hP 0 rfl rfl 0 (by decide) k10 (fun _ h9 => h9) rfl dX5_doHint_114 ?_
        refine lv_iload_n hx hb dX5_doHint_117 rfl (lv_at hl 1 rfl) ?_
        refine bnd hf (fun o118 e118 hf => ?_)
        refine rdVi (As := [.int K_hintLine]) (rest := [.ref aA]) ⟨hx, hb, hml, hown, hts⟩ (tX1_mateOf l D cI cJ cG aL aL_kinds aL_vs aL_ws aL_roles aL_mates H K_hintLine L_many L_mates o118 e118) (cwV 1 hts gX5_doHint_X1_mateOf rfl rfl rfl (by decide +kernel) ⟨Nat.le_of_ble_eq_true rfl, Nat.le_of_ble_eq_true rfl⟩) (va_recv (ci := 1) (q0 := 2) hK.1 hP rfl rfl) hK (hP.sub (ws' := [(aL, .inr (1, [.ref aL_kinds, .ref aL_vs, .ref aL_ws, .ref aL_roles, .ref aL_mates, .int L_many])), (aL_mates, eI cI 16 L_mates)]) [2, 3] rfl) rfl hl.1 rfl (lv_room (Nat.le_of_ble_eq_true rfl)) dX5_doHint_118 ⟨Nat.le_of_ble_eq_true rfl, Nat.le_of_ble_eq_true rfl⟩ hS (fun locs hS => ?_)
        refine lv_iload_n hx hb dX5_doHint_121 rfl (lv_at hl 0 rfl) ?_
        refine bnd hf (fun o122 e122 hf => ?_)
        refine wrVv (As := [.int o118, .int K_hintPlace]) (rest := []) (cw := [(aA, .inr (0, [.ref aA_row, .int o105.2.1])), (aA_row, eI cI 16 o105.2.2)]) (cw' := [(aA, .inr (0, [.ref aA_row, .int o122.1])), (aA_row, eI cI 16 o122.2)]) (wr := [(aB, .inr (5, [.ref aL, .ref aM, .ref aA, .ref aK, .ref aB_inputs, .int B_manyInputs, .int B_hintsDone, .ref aC1, .ref aC2, .ref aC3])), (aK, .inr (3, [.ref aL, .ref aM, .ref aA, .ref aK_ranks, .ref aK_clashes, .int K_keptPlaces, .int K_changes, .int K_hintChange, .int K_hintLine, .int K_hintPlace])), (aL, .inr (1, [.ref aL_kinds, .ref aL_vs, .ref aL_ws, .ref aL_roles, .ref aL_mates, .int L_many])), (aL_mates, eI cI 16 L_mates)]) (ws2 := [(aB, .inr (5, [.ref aL, .ref aM, .ref aA, .ref aK, .ref aB_inputs, .int B_manyInputs, .int B_hintsDone, .ref aC1, .ref aC2, .ref aC3])), (aK, .inr (3, [.ref aL, .ref aM, .ref aA, .ref aK_ranks, .ref aK_clashes, .int K_keptPlaces, .int K_changes, .int K_hintChange, .int K_hintLine, .int K_hintPlace])), (aL, .inr (1, [.ref aL_kinds, .ref aL_vs, .ref aL_ws, .ref aL_roles, .ref aL_mates, .int L_many])), (aL_mates, eI cI 16 L_mates), (aA, .inr (0, [.ref aA_row, .int o122.1])), (aA_row, eI cI 16 o122.2)]) ⟨hx, hb, hml, hown, hts⟩ (tX0_insert l D cI cJ cG aA aA_row H.size o118 K_hintPlace o105.2.1 o105.2.2 o122 e122) (cwV 2 hts gX5_doHint_X0_insert rfl rfl rfl (by decide +kernel) ⟨Nat.le_of_ble_eq_true rfl, Nat.le_of_ble_eq_true rfl⟩) (va_recv (ci := 0) (q0 := 4) hK.1 hP rfl rfl) hK hP hD hS hA [4, 5] [0, 1, 2, 3] [0, 1, 2, 3, 4, 5] rfl rfl rfl (by decide) (by decide) (by decide) (by decide) rfl hl.1 rfl (lv_room (Nat.le_of_ble_eq_true rfl)) dX5_doHint_122 ⟨Nat.le_of_ble_eq_true rfl, Nat.le_of_ble_eq_true rfl⟩ (fun H locs hP hD hS => ?_)
        rw [hQQ]
        exact W.vret hx hb hr (fun t ht hW => by rw [← Option.some.inj hf]; rw [← hAe] at hD hS; exact ⟨⟨(), rfl, trivial, by rw [ht]; exact hP, hD⟩, hS.F ht⟩) hS.2.2 dX5_doHint_125

set_option maxHeartbeats 4000000 in
set_option maxRecDepth 100000 in
theorem tX5_follow (l : Launch) (D : va_G) (cI cJ cG : ClassId) (aB aL aM aA aK aB_inputs aC1 aC2 aC3 aK_ranks aK_clashes aL_kinds aL_vs aL_ws aL_roles aL_mates aM_numbers aM_ranks aM_ahead aM_ways aA_row : Nat) (sz : Nat)  (B_manyInputs : Int32) (B_hintsDone : Int32) (K_keptPlaces : Int32) (K_changes : Int32) (K_hintChange : Int32) (K_hintLine : Int32) (K_hintPlace : Int32) (K_ranks : (Nat → Int32)) (K_clashes : (Nat → Int32)) (L_many : Int32) (L_roles : (Nat → Int32)) (L_mates : (Nat → Int32)) (M_length : Int32) (M_waysCounted : Int32) (M_numbers : (Nat → Int32)) (M_ranks : (Nat → Int32)) (M_ahead : (Nat → Int32)) (A_length : Int32) (A_row : (Nat → Int32)) (out : Int32 × Int32 × Int32 × Int32 × Int32 × Int32 × Int32 × (Nat → Int32) × (Nat → Int32) × Int32 × (Nat → Int32)) (hf : fX5_follow B_hintsDone K_keptPlaces K_changes K_hintChange K_hintLine K_hintPlace K_ranks K_clashes L_many L_roles L_mates M_length M_numbers M_ranks M_ahead A_length A_row = some out) : Met l yX5_follow wsX5_follow ({ frames := 24, cells := 0, slots := 0, locals := 591 }) (va_Pc [.ref aB] (wP D (tyL cI cJ cG) [(aB, .inr (5, [.ref aL, .ref aM, .ref aA, .ref aK, .ref aB_inputs, .int B_manyInputs, .int B_hintsDone, .ref aC1, .ref aC2, .ref aC3])), (aK, .inr (3, [.ref aL, .ref aM, .ref aA, .ref aK_ranks, .ref aK_clashes, .int K_keptPlaces, .int K_changes, .int K_hintChange, .int K_hintLine, .int K_hintPlace])), (aK_ranks, eI cI 16 K_ranks), (aK_clashes, eI cI 16 K_clashes), (aL, .inr (1, [.ref aL_kinds, .ref aL_vs, .ref aL_ws, .ref aL_roles, .ref aL_mates, .int L_many])), (aL_roles, eI cI 16 L_roles), (aL_mates, eI cI 16 L_mates), (aM, .inr (4, [.ref aM_numbers, .ref aM_ranks, .ref aM_ahead, .int M_length, .ref aM_ways, .int M_waysCounted])), (aM_numbers, eI cI 12 M_numbers), (aM_ranks, eI cI 16 M_ranks), (aM_ahead, eI cI 12 M_ahead), (aA, .inr (0, [.ref aA_row, .int A_length])), (aA_row, eI cI 16 A_row)] sz)) (wQi D out.1 [(aB, .inr (5, [.ref aL, .ref aM, .ref aA, .ref aK, .ref aB_inputs, .int B_manyInputs, .int B_hintsDone, .ref aC1, .ref aC2, .ref aC3])), (aK, .inr (3, [.ref aL, .ref aM, .ref aA, .ref aK_ranks, .ref aK_clashes, .int K_keptPlaces, .int K_changes, .int K_hintChange, .int K_hintLine, .int K_hintPlace])), (aK_ranks, eI cI 16 K_ranks), (aK_clashes, eI cI 16 K_clashes), (aL, .inr (1, [.ref aL_kinds, .ref aL_vs, .ref aL_ws, .ref aL_roles, .ref aL_mates, .int L_many])), (aL_roles, eI cI 16 L_roles), (aL_mates, eI cI 16 L_mates), (aM, .inr (4, [.ref aM_numbers, .ref aM_ranks, .ref aM_ahead, .int M_length, .ref aM_ways, .int M_waysCounted])), (aM_numbers, eI cI 12 M_numbers), (aM_ranks, eI cI 16 M_ranks), (aM_ahead, eI cI 12 M_ahead), (aA, .inr (0, [.ref aA_row, .int A_length])), (aA_row, eI cI 16 A_row)] [(aB, .inr (5, [.ref aL, .ref aM, .ref aA, .ref aK, .ref aB_inputs, .int B_manyInputs, .int out.2.1, .ref aC1, .ref aC2, .ref aC3])), (aK, .inr (3, [.ref aL, .ref aM, .ref aA, .ref aK_ranks, .ref aK_clashes, .int out.2.2.1, .int out.2.2.2.1, .int out.2.2.2.2.1, .int out.2.2.2.2.2.1, .int out.2.2.2.2.2.2.1])), (aK_ranks, eI cI 16 out.2.2.2.2.2.2.2.1), (aK_clashes, eI cI 16 out.2.2.2.2.2.2.2.2.1), (aL, .inr (1, [.ref aL_kinds, .ref aL_vs, .ref aL_ws, .ref aL_roles, .ref aL_mates, .int L_many])), (aL_roles, eI cI 16 L_roles), (aL_mates, eI cI 16 L_mates), (aM, .inr (4, [.ref aM_numbers, .ref aM_ranks, .ref aM_ahead, .int M_length, .ref aM_ways, .int M_waysCounted])), (aM_numbers, eI cI 12 M_numbers), (aM_ranks, eI cI 16 M_ranks), (aM_ahead, eI cI 12 M_ahead), (aA, .inr (0, [.ref aA_row, .int out.2.2.2.2.2.2.2.2.2.1])), (aA_row, eI cI 16 out.2.2.2.2.2.2.2.2.2.2)] sz) 0 0 (va_A [(aB, .inr (5, [.ref aL, .ref aM, .ref aA, .ref aK, .ref aB_inputs, .int B_manyInputs, .int B_hintsDone, .ref aC1, .ref aC2, .ref aC3])), (aK, .inr (3, [.ref aL, .ref aM, .ref aA, .ref aK_ranks, .ref aK_clashes, .int K_keptPlaces, .int K_changes, .int K_hintChange, .int K_hintLine, .int K_hintPlace])), (aK_ranks, eI cI 16 K_ranks), (aK_clashes, eI cI 16 K_clashes), (aL, .inr (1, [.ref aL_kinds, .ref aL_vs, .ref aL_ws, .ref aL_roles, .ref aL_mates, .int L_many])), (aL_roles, eI cI 16 L_roles), (aL_mates, eI cI 16 L_mates), (aM, .inr (4, [.ref aM_numbers, .ref aM_ranks, .ref aM_ahead, .int M_length, .ref aM_ways, .int M_waysCounted])), (aM_numbers, eI cI 12 M_numbers), (aM_ranks, eI cI 16 M_ranks), (aM_ahead, eI cI 12 M_ahead), (aA, .inr (0, [.ref aA_row, .int A_length])), (aA_row, eI cI 16 A_row)] sz) := by
  refine Met.ofW (cc := cX5_follow) (maxL := 1) (ret := (some .int)) (by decide) rfl ?_
  intro p e s m args below meth c s₁ B hml hv
  obtain ⟨rfl, hsz, hP, hK, hD0⟩ := hv
  have hx := B.exec
  have hb := B.bytes
  have hr := B.returns
  have hts := atoms_spec (ws := wsX5_follow) B.pre
  have hown : s.vm.findClass RX5 = some m.cls := findClass_of_methodNamed B.named
  have hlocks := B.notSynchronized
  have iX3 : ∀ w ∈ wsX30, w ∈ wsX5_follow := by decide +kernel
  have iX5 : ∀ w ∈ wsX50, w ∈ wsX5_follow := by decide +kernel
  have k35 := hts (.fieldLink RX5 35 "BlockMarker" "marking" "LBlockMarker$Marking;") (by decide +kernel)
  have k173 := hts (.fieldLink RX5 173 "BlockMarker" "hintsDone" "I") (by decide +kernel)
  have n155 := va_Nw.use (A := ([.ref aB] : List Value).toArray) rfl (hK.2 (.fieldLinkNest "BlockMarker" 155 "BlockMarker$Marking" "changes" "I" "BlockMarker") (by decide +kernel))
  have n161 := va_Nw.use (A := ([.ref aB] : List Value).toArray) rfl (hK.2 (.fieldLinkNest "BlockMarker" 161 "BlockMarker$Marking" "hintChange" "I" "BlockMarker") (by decide +kernel))
  subst hsz
  have hD := hD0.self (sz := s.heap.size)
  generalize hAe : va_A [(aB, .inr (5, [.ref aL, .ref aM, .ref aA, .ref aK, .ref aB_inputs, .int B_manyInputs, .int B_hintsDone, .ref aC1, .ref aC2, .ref aC3])), (aK, .inr (3, [.ref aL, .ref aM, .ref aA, .ref aK_ranks, .ref aK_clashes, .int K_keptPlaces, .int K_changes, .int K_hintChange, .int K_hintLine, .int K_hintPlace])), (aK_ranks, eI cI 16 K_ranks), (aK_clashes, eI cI 16 K_clashes), (aL, .inr (1, [.ref aL_kinds, .ref aL_vs, .ref aL_ws, .ref aL_roles, .ref aL_mates, .int L_many])), (aL_roles, eI cI 16 L_roles), (aL_mates, eI cI 16 L_mates), (aM, .inr (4, [.ref aM_numbers, .ref aM_ranks, .ref aM_ahead, .int M_length, .ref aM_ways, .int M_waysCounted])), (aM_numbers, eI cI 12 M_numbers), (aM_ranks, eI cI 16 M_ranks), (aM_ahead, eI cI 12 M_ahead), (aA, .inr (0, [.ref aA_row, .int A_length])), (aA_row, eI cI 16 A_row)] s.heap.size = A at hD ⊢
  have hA : ∀ q : Nat, s.heap.size ≤ q → A q := fun q h => by rw [← hAe]; exact Or.inr h
  have hS : va_S A s.heap s.heap [] := va_S.rf
  have hl := lv_entry ([.ref aB]) (n := 1) (Nat.le_of_ble_eq_true rfl)
  rw [lg_entry_eq]
  generalize (lg_sl ([.ref aB]) ++ List.replicate (1 - (lg_sl ([.ref aB])).length) Slot.unset).toArray = ls at hl ⊢
  have hl : lv_has ls 1 [(0, .ref aB)] := hl
  generalize hQQ : MQ below _ _ s 0 0 _ = QQ
  replace hQQ := hQQ.symm
  generalize hHH : s.heap = H at hP ⊢
  have hS : va_S A s.heap H [] := by rw [← hHH]; exact va_S.rf
  generalize ([] : List Loc) = locs at hS ⊢
  unfold fX5_follow at hf
  refine lv_aload_n hx hb dX5_follow_0 rfl (lv_at hl 0 rfl) ?_
  refine va_get (D := D) (ci := 5) (v := .ref aK) (C := RX5) (T := TX5) (N := 10) hx hb hts iX5 hown hK.1 hP 0 rfl rfl 3 (by decide) k35 (fun _ h9 => h9) rfl dX5_follow_1 ?_
  refine bnd hf (fun o4 e4 hf => ?_)
  refine wrVv (As := []) (rest := []) (cw := [(aK, .inr (3, [.ref aL, .ref aM, .ref aA, .ref aK_ranks, .ref aK_clashes, .int K_keptPlaces, .int K_changes, .int K_hintChange, .int K_hintLine, .int K_hintPlace])), (aK_ranks, eI cI 16 K_ranks), (aK_clashes, eI cI 16 K_clashes), (aL, .inr (1, [.ref aL_kinds, .ref aL_vs, .ref aL_ws, .ref aL_roles, .ref aL_mates, .int L_many])), (aL_roles, eI cI 16 L_roles), (aL_mates, eI cI 16 L_mates), (aM, .inr (4, [.ref aM_numbers, .ref aM_ranks, .ref aM_ahead, .int M_length, .ref aM_ways, .int M_waysCounted])), (aM_numbers, eI cI 12 M_numbers), (aM_ranks, eI cI 16 M_ranks), (aM_ahead, eI cI 12 M_ahead), (aA, .inr (0, [.ref aA_row, .int A_length])), (aA_row, eI cI 16 A_row)]) (cw' := [(aK, .inr (3, [.ref aL, .ref aM, .ref aA, .ref aK_ranks, .ref aK_clashes, .int o4.1, .int o4.2.1, .int o4.2.2.1, .int o4.2.2.2.1, .int o4.2.2.2.2.1])), (aK_ranks, eI cI 16 o4.2.2.2.2.2.1), (aK_clashes, eI cI 16 o4.2.2.2.2.2.2), (aL, .inr (1, [.ref aL_kinds, .ref aL_vs, .ref aL_ws, .ref aL_roles, .ref aL_mates, .int L_many])), (aL_roles, eI cI 16 L_roles), (aL_mates, eI cI 16 L_mates), (aM, .inr (4, [.ref aM_numbers, .ref aM_ranks, .ref aM_ahead, .int M_length, .ref aM_ways, .int M_waysCounted])), (aM_numbers, eI cI 12 M_numbers), (aM_ranks, eI cI 16 M_ranks), (aM_ahead, eI cI 12 M_ahead), (aA, .inr (0, [.ref aA_row, .int A_length])), (aA_row, eI cI 16 A_row)]) (wr := [(aB, .inr (5, [.ref aL, .ref aM, .ref aA, .ref aK, .ref aB_inputs, .int B_manyInputs, .int B_hintsDone, .ref aC1, .ref aC2, .ref aC3]))]) (ws2 := [(aB, .inr (5, [.ref aL, .ref aM, .ref aA, .ref aK, .ref aB_inputs, .int B_manyInputs, .int B_hintsDone, .ref aC1, .ref aC2, .ref aC3])), (aK, .inr (3, [.ref aL, .ref aM, .ref aA, .ref aK_ranks, .ref aK_clashes, .int o4.1, .int o4.2.1, .int o4.2.2.1, .int o4.2.2.2.1, .int o4.2.2.2.2.1])), (aK_ranks, eI cI 16 o4.2.2.2.2.2.1), (aK_clashes, eI cI 16 o4.2.2.2.2.2.2), (aL, .inr (1, [.ref aL_kinds, .ref aL_vs, .ref aL_ws, .ref aL_roles, .ref aL_mates, .int L_many])), (aL_roles, eI cI 16 L_roles), (aL_mates, eI cI 16 L_mates), (aM, .inr (4, [.ref aM_numbers, .ref aM_ranks, .ref aM_ahead, .int M_length, .ref aM_ways, .int M_waysCounted])), (aM_numbers, eI cI 12 M_numbers), (aM_ranks, eI cI 16 M_ranks), (aM_ahead, eI cI 12 M_ahead), (aA, .inr (0, [.ref aA_row, .int A_length])), (aA_row, eI cI 16 A_row)]) ⟨hx, hb, hml, hown, hts⟩ (tX3_study l D cI cJ cG aK aL aM aA aK_ranks aK_clashes aL_kinds aL_vs aL_ws aL_roles aL_mates aM_numbers aM_ranks aM_ahead aM_ways aA_row H.size  K_keptPlaces K_changes K_hintChange K_hintLine K_hintPlace K_ranks K_clashes L_many L_roles L_mates M_length M_waysCounted M_numbers M_ranks M_ahead A_length A_row o4 e4) (cwV 0 hts gX5_follow_X3_study rfl rfl rfl (by decide +kernel) ⟨Nat.le_of_ble_eq_true rfl, Nat.le_of_ble_eq_true rfl⟩) (va_recv (ci := 3) (q0 := 1) hK.1 hP rfl rfl) hK hP hD hS hA [1, 2, 3, 4, 5, 6, 7, 8, 9, 10, 11, 12] [0] [0, 1, 2, 3, 4, 5, 6, 7, 8, 9, 10, 11, 12] rfl rfl rfl (by decide) (by decide) (by decide) (by decide) rfl hl.1 rfl (lv_room (Nat.le_of_ble_eq_true rfl)) dX5_follow_4 ⟨Nat.le_of_ble_eq_true rfl, Nat.le_of_ble_eq_true rfl⟩ (fun H locs hP hD hS => ?_)
  refine lv_aload_n hx hb dX5_follow_7 rfl (lv_at hl 0 rfl) ?_
  refine va_get (D := D) (ci := 5) (v := .ref aK) (C := RX5) (T := TX5) (N := 10) hx hb hts iX5 hown hK.1 hP 0 rfl rfl 3 (by decide) k35 (fun _ h9 => h9) rfl dX5_follow_8 ?_
  refine va_getN (D := D) (ci := 3) (v := .int o4.2.2.1) (C := RX3) (T := TX3) (N := 10) hx hb hts iX3 hown hK.1 hP 1 rfl rfl 7 (by decide) n161 (fun _ h9 => h9) rfl dX5_follow_11 ?_
  refine lv_iconst (v := (-1 : Int32)) hx hb dX5_follow_14 (by decide) ?_
  refine lv_icmp_ne (tgt := 20) hx hb dX5_follow_15 (by decide) (fun c15 => ?_) (fun c15 => ?_)
  · have hf := ifn hf c15
    refine lv_aload_n hx hb dX5_follow_20 rfl (lv_at hl 0 rfl) ?_
    refine bnd hf (fun o21 e21 hf => ?_)
    refine wrVv (As := []) (rest := []) (cw := [(aB, .inr (5, [.ref aL, .ref aM, .ref aA, .ref aK, .ref aB_inputs, .int B_manyInputs, .int B_hintsDone, .ref aC1, .ref aC2, .ref aC3])), (aK, .inr (3, [.ref aL, .ref aM, .ref aA, .ref aK_ranks, .ref aK_clashes, .int o4.1, .int o4.2.1, .int o4.2.2.1, .int o4.2.2.2.1, .int o4.2.2.2.2.1])), (aL, .inr (1, [.ref aL_kinds, .ref aL_vs, .ref aL_ws, .ref aL_roles, .ref aL_mates, .int L_many])), (aL_mates, eI cI 16 L_mates), (aA, .inr (0, [.ref aA_row, .int A_length])), (aA_row, eI cI 16 A_row)]) (cw' := [(aB, .inr (5, [.ref aL, .ref aM, .ref aA, .ref aK, .ref aB_inputs, .int B_manyInputs, .int B_hintsDone, .ref aC1, .ref aC2, .ref aC3])), (aK, .inr (3, [.ref aL, .ref aM, .ref aA, .ref aK_ranks, .ref aK_clashes, .int o4.1, .int o4.2.1, .int o4.2.2.1, .int o4.2.2.2.1, .int o4.2.2.2.2.1])), (aL, .inr (1, [.ref aL_kinds, .ref aL_vs, .ref aL_ws, .ref aL_roles, .ref aL_mates, .int L_many])), (aL_mates, eI cI 16 L_mates), (aA, .inr (0, [.ref aA_row, .int o21.1])), (aA_row, eI cI 16 o21.2)]) (wr := [(aK_ranks, eI cI 16 o4.2.2.2.2.2.1), (aK_clashes, eI cI 16 o4.2.2.2.2.2.2), (aL_roles, eI cI 16 L_roles), (aM, .inr (4, [.ref aM_numbers, .ref aM_ranks, .ref aM_ahead, .int M_length, .ref aM_ways, .int M_waysCounted])), (aM_numbers, eI cI 12 M_numbers), (aM_ranks, eI cI 16 M_ranks), (aM_ahead, eI cI 12 M_ahead)]) (ws2 := [(aB, .inr (5, [.ref aL, .ref aM, .ref aA, .ref aK, .ref aB_inputs, .int B_manyInputs, .int B_hintsDone, .ref aC1, .ref aC2, .ref aC3])), (aK, .inr (3, [.ref aL, .ref aM, .ref aA, .ref aK_ranks, .ref aK_clashes, .int o4.1, .int o4.2.1, .int o4.2.2.1, .int o4.2.2.2.1, .int o4.2.2.2.2.1])), (aK_ranks, eI cI 16 o4.2.2.2.2.2.1), (aK_clashes, eI cI 16 o4.2.2.2.2.2.2), (aL, .inr (1, [.ref aL_kinds, .ref aL_vs, .ref aL_ws, .ref aL_roles, .ref aL_mates, .int L_many])), (aL_roles, eI cI 16 L_roles), (aL_mates, eI cI 16 L_mates), (aM, .inr (4, [.ref aM_numbers, .ref aM_ranks, .ref aM_ahead, .int M_length, .ref aM_ways, .int M_waysCounted])), (aM_numbers, eI cI 12 M_numbers), (aM_ranks, eI cI 16 M_ranks), (aM_ahead, eI cI 12 M_ahead), (aA, .inr (0, [.ref aA_row, .int o21.1])), (aA_row, eI cI 16 o21.2)]) ⟨hx, hb, hml, hown, hts⟩ (tX5_doHint l D cI cJ cG aB aL aM aA aK aB_inputs aC1 aC2 aC3 aK_ranks aK_clashes aL_kinds aL_vs aL_ws aL_roles aL_mates aA_row H.size  B_manyInputs B_hintsDone o4.1 o4.2.1 o4.2.2.1 o4.2.2.2.1 o4.2.2.2.2.1 L_many L_mates A_length A_row o21 e21) (cwV 0 hts gX5_follow_X5_doHint rfl rfl rfl (by decide +kernel) ⟨Nat.le_of_ble_eq_true rfl, Nat.le_of_ble_eq_true rfl⟩) (va_recv (ci := 5) (q0 := 0) hK.1 hP rfl rfl) hK hP hD hS hA [0, 1, 4, 6, 11, 12] [2, 3, 5, 7, 8, 9, 10] [7, 8, 0, 1, 9, 2, 10, 3, 4, 5, 6, 11, 12] rfl rfl rfl (by decide) (by decide) (by decide) (by decide) rfl hl.1 rfl (lv_room (Nat.le_of_ble_eq_true rfl)) dX5_follow_21 ⟨Nat.le_of_ble_eq_true rfl, Nat.le_of_ble_eq_true rfl⟩ (fun H locs hP hD hS => ?_)
    refine lv_aload_n hx hb dX5_follow_24 rfl (lv_at hl 0 rfl) ?_
    refine lv_dup hx hb dX5_follow_25 rfl ?_
    refine va_get (D := D) (ci := 5) (v := .int B_hintsDone) (C := RX5) (T := TX5) (N := 10) hx hb hts iX5 hown hK.1 hP 0 rfl rfl 6 (by decide) k173 (fun _ h9 => h9) rfl dX5_follow_26 ?_
    refine lv_iconst (v := (1 : Int32)) hx hb dX5_follow_29 (by decide) ?_
    refine lv_iadd hx hb dX5_follow_30 ?_
    refine va_put (D := D) (ci := 5) (v := .int (B_hintsDone + (1 : Int32))) (ty := .int) (C := RX5) (T := TX5) (N := 10) hx hb hts iX5 tyX5 tyX5_ok nmX5 hown hK.1 hP hD hS 0 rfl rfl 6 (by decide) k173 (fun _ h9 => h9) rfl (by decide +kernel) rfl rfl (Nat.le_of_ble_eq_true rfl) dX5_follow_31 (fun H locs hP hD hS => ?_)
    have hP : va_P D vwCl [(aB, .inr (5, [.ref aL, .ref aM, .ref aA, .ref aK, .ref aB_inputs, .int B_manyInputs, .int (B_hintsDone + (1 : Int32)), .ref aC1, .ref aC2, .ref aC3])), (aK, .inr (3, [.ref aL, .ref aM, .ref aA, .ref aK_ranks, .ref aK_clashes, .int o4.1, .int o4.2.1, .int o4.2.2.1, .int o4.2.2.2.1, .int o4.2.2.2.2.1])), (aK_ranks, eI cI 16 o4.2.2.2.2.2.1), (aK_clashes, eI cI 16 o4.2.2.2.2.2.2), (aL, .inr (1, [.ref aL_kinds, .ref aL_vs, .ref aL_ws, .ref aL_roles, .ref aL_mates, .int L_many])), (aL_roles, eI cI 16 L_roles), (aL_mates, eI cI 16 L_mates), (aM, .inr (4, [.ref aM_numbers, .ref aM_ranks, .ref aM_ahead, .int M_length, .ref aM_ways, .int M_waysCounted])), (aM_numbers, eI cI 12 M_numbers), (aM_ranks, eI cI 16 M_ranks), (aM_ahead, eI cI 12 M_ahead), (aA, .inr (0, [.ref aA_row, .int o21.1])), (aA_row, eI cI 16 o21.2)] H := hP
    have hD : va_D A [(aB, .inr (5, [.ref aL, .ref aM, .ref aA, .ref aK, .ref aB_inputs, .int B_manyInputs, .int (B_hintsDone + (1 : Int32)), .ref aC1, .ref aC2, .ref aC3])), (aK, .inr (3, [.ref aL, .ref aM, .ref aA, .ref aK_ranks, .ref aK_clashes, .int o4.1, .int o4.2.1, .int o4.2.2.1, .int o4.2.2.2.1, .int o4.2.2.2.2.1])), (aK_ranks, eI cI 16 o4.2.2.2.2.2.1), (aK_clashes, eI cI 16 o4.2.2.2.2.2.2), (aL, .inr (1, [.ref aL_kinds, .ref aL_vs, .ref aL_ws, .ref aL_roles, .ref aL_mates, .int L_many])), (aL_roles, eI cI 16 L_roles), (aL_mates, eI cI 16 L_mates), (aM, .inr (4, [.ref aM_numbers, .ref aM_ranks, .ref aM_ahead, .int M_length, .ref aM_ways, .int M_waysCounted])), (aM_numbers, eI cI 12 M_numbers), (aM_ranks, eI cI 16 M_ranks), (aM_ahead, eI cI 12 M_ahead), (aA, .inr (0, [.ref aA_row, .int o21.1])), (aA_row, eI cI 16 o21.2)] := hD
    refine lv_aload_n hx hb dX5_follow_34 rfl (lv_at hl 0 rfl) ?_
    refine va_get (D := D) (ci := 5) (v := .ref aK) (C := RX5) (T := TX5) (N := 10) hx hb hts iX5 hown hK.1 hP 0 rfl rfl 3 (by decide) k35 (fun _ h9 => h9) rfl dX5_follow_35 ?_
    refine bnd hf (fun o38 e38 hf => ?_)
    refine wrVv (As := []) (rest := []) (cw := [(aK, .inr (3, [.ref aL, .ref aM, .ref aA, .ref aK_ranks, .ref aK_clashes, .int o4.1, .int o4.2.1, .int o4.2.2.1, .int o4.2.2.2.1, .int o4.2.2.2.2.1])), (aK_ranks, eI cI 16 o4.2.2.2.2.2.1), (aK_clashes, eI cI 16 o4.2.2.2.2.2.2), (aL, .inr (1, [.ref aL_kinds, .ref aL_vs, .ref aL_ws, .ref aL_roles, .ref aL_mates, .int L_many])), (aL_roles, eI cI 16 L_roles), (aL_mates, eI cI 16 L_mates), (aM, .inr (4, [.ref aM_numbers, .ref aM_ranks, .ref aM_ahead, .int M_length, .ref aM_ways, .int M_waysCounted])), (aM_numbers, eI cI 12 M_numbers), (aM_ranks, eI cI 16 M_ranks), (aM_ahead, eI cI 12 M_ahead), (aA, .inr (0, [.ref aA_row, .int o21.1])), (aA_row, eI cI 16 o21.2)]) (cw' := [(aK, .inr (3, [.ref aL, .ref aM, .ref aA, .ref aK_ranks, .ref aK_clashes, .int o38.1, .int o38.2.1, .int o38.2.2.1, .int o38.2.2.2.1, .int o38.2.2.2.2.1])), (aK_ranks, eI cI 16 o38.2.2.2.2.2.1), (aK_clashes, eI cI 16 o38.2.2.2.2.2.2), (aL, .inr (1, [.ref aL_kinds, .ref aL_vs, .ref aL_ws, .ref aL_roles, .ref aL_mates, .int L_many])), (aL_roles, eI cI 16 L_roles), (aL_mates, eI cI 16 L_mates), (aM, .inr (4, [.ref aM_numbers, .ref aM_ranks, .ref aM_ahead, .int M_length, .ref aM_ways, .int M_waysCounted])), (aM_numbers, eI cI 12 M_numbers), (aM_ranks, eI cI 16 M_ranks), (aM_ahead, eI cI 12 M_ahead), (aA, .inr (0, [.ref aA_row, .int o21.1])), (aA_row, eI cI 16 o21.2)]) (wr := [(aB, .inr (5, [.ref aL, .ref aM, .ref aA, .ref aK, .ref aB_inputs, .int B_manyInputs, .int (B_hintsDone + (1 : Int32)), .ref aC1, .ref aC2, .ref aC3]))]) (ws2 := [(aB, .inr (5, [.ref aL, .ref aM, .ref aA, .ref aK, .ref aB_inputs, .int B_manyInputs, .int (B_hintsDone + (1 : Int32)), .ref aC1, .ref aC2, .ref aC3])), (aK, .inr (3, [.ref aL, .ref aM, .ref aA, .ref aK_ranks, .ref aK_clashes, .int o38.1, .int o38.2.1, .int o38.2.2.1, .int o38.2.2.2.1, .int o38.2.2.2.2.1])), (aK_ranks, eI cI 16 o38.2.2.2.2.2.1), (aK_clashes, eI cI 16 o38.2.2.2.2.2.2), (aL, .inr (1, [.ref aL_kinds, .ref aL_vs, .ref aL_ws, .ref aL_roles, .ref aL_mates, .int L_many])), (aL_roles, eI cI 16 L_roles), (aL_mates, eI cI 16 L_mates), (aM, .inr (4, [.ref aM_numbers, .ref aM_ranks, .ref aM_ahead, .int M_length, .ref aM_ways, .int M_waysCounted])), (aM_numbers, eI cI 12 M_numbers), (aM_ranks, eI cI 16 M_ranks), (aM_ahead, eI cI 12 M_ahead), (aA, .inr (0, [.ref aA_row, .int o21.1])), (aA_row, eI cI 16 o21.2)]) ⟨hx, hb, hml, hown, hts⟩ (tX3_study l D cI cJ cG aK aL aM aA aK_ranks aK_clashes aL_kinds aL_vs aL_ws aL_roles aL_mates aM_numbers aM_ranks aM_ahead aM_ways aA_row H.size  o4.1 o4.2.1 o4.2.2.1 o4.2.2.2.1 o4.2.2.2.2.1 o4.2.2.2.2.2.1 o4.2.2.2.2.2.2 L_many L_roles L_mates M_length M_waysCounted M_numbers M_ranks M_ahead o21.1 o21.2 o38 e38) (cwV 0 hts gX5_follow_X3_study rfl rfl rfl (by decide +kernel) ⟨Nat.le_of_ble_eq_true rfl, Nat.le_of_ble_eq_true rfl⟩) (va_recv (ci := 3) (q0 := 1) hK.1 hP rfl rfl) hK hP hD hS hA [1, 2, 3, 4, 5, 6, 7, 8, 9, 10, 11, 12] [0] [0, 1, 2, 3, 4, 5, 6, 7, 8, 9, 10, 11, 12] rfl rfl rfl (by decide) (by decide) (by decide) (by decide) rfl hl.1 rfl (lv_room (Nat.le_of_ble_eq_true rfl)) dX5_follow_38 ⟨Nat.le_of_ble_eq_true rfl, Nat.le_of_ble_eq_true rfl⟩ (fun H locs hP hD hS => ?_)
    refine lv_aload_n hx hb dX5_follow_41 rfl (lv_at hl 0 rfl) ?_
    refine va_get (D := D) (ci := 5) (v := .ref aK) (C := RX5) (T := TX5) (N := 10) hx hb hts iX5 hown hK.1 hP 0 rfl rfl 3 (by decide) k35 (fun _ h9 => h9) rfl dX5_follow_42 ?_
    refine va_getN (D := D) (ci := 3) (v := .int o38.2.1) (C := RX3) (T := TX3) (N := 10) hx hb hts iX3 hown hK.1 hP 1 rfl rfl 6 (by decide) n155 (fun _ h9 => h9) rfl dX5_follow_45 ?_
    rw [hQQ]
    exact W.iret (v := o38.2.1) hx hb hr (fun t ht hW => by rw [← Option.some.inj hf]; rw [← hAe] at hD hS; exact ⟨⟨o38.2.1, (), rfl, rfl, by rw [ht]; exact hP, hD⟩, hS.F ht⟩) hS.2.2 dX5_follow_48
  · have hf := ifp hf c15
    refine lv_iconst (v := (-1 : Int32)) hx hb dX5_follow_18 (by decide) ?_
    rw [hQQ]
    exact W.iret (v := (-1 : Int32)) hx hb hr (fun t ht hW => by rw [← Option.some.inj hf]; rw [← hAe] at hD hS; exact ⟨⟨(-1 : Int32), (), rfl, rfl, by rw [ht]; exact hP, hD⟩, hS.F ht⟩) hS.2.2 dX5_follow_19

set_option maxHeartbeats 4000000 in
set_option maxRecDepth 100000 in
theorem tX5_count (l : Launch) (D : va_G) (cI cJ cG : ClassId) (aB aL aM aA aK aB_inputs aC1 aC2 aC3 aL_kinds aL_vs aL_ws aL_roles aL_mates aM_numbers aM_ranks aM_ahead aM_ways : Nat) (Hs : Heap) (y1 : Int32) (B_manyInputs : Int32) (B_hintsDone : Int32) (L_many : Int32) (L_roles : (Nat → Int32)) (M_length : Int32) (M_waysCounted : Int32) (M_ahead : (Nat → Int32)) (out : Int32) (hf : fX5_count y1 B_manyInputs B_hintsDone L_many L_roles M_length M_ahead = some out) : Met l yX5_count wsX5_count ({ frames := 2, cells := 0, slots := 0, locals := 42 }) (va_Pc [.ref aB, .int y1] (rP D (tyL cI cJ cG) [(aB, .inr (5, [.ref aL, .ref aM, .ref aA, .ref aK, .ref aB_inputs, .int B_manyInputs, .int B_hintsDone, .ref aC1, .ref aC2, .ref aC3])), (aL, .inr (1, [.ref aL_kinds, .ref aL_vs, .ref aL_ws, .ref aL_roles, .ref aL_mates, .int L_many])), (aL_roles, eI cI 16 L_roles), (aM, .inr (4, [.ref aM_numbers, .ref aM_ranks, .ref aM_ahead, .int M_length, .ref aM_ways, .int M_waysCounted])), (aM_ahead, eI cI 12 M_ahead)] Hs)) (rQi out Hs) 0 0 (fun _ => False) := by
  refine Met.ofW (cc := cX5_count) (maxL := 2) (ret := (some .int)) (by decide) rfl ?_
  intro p e s m args below meth c s₁ B hml hv
  obtain ⟨rfl, rfl, hP, hK⟩ := hv
  have hx := B.exec
  have hb := B.bytes
  have hr := B.returns
  have hts := atoms_spec (ws := wsX5_count) B.pre
  have hown : s.vm.findClass RX5 = some m.cls := findClass_of_methodNamed B.named
  have hlocks := B.notSynchronized
  have iX1 : ∀ w ∈ wsX10, w ∈ wsX5_count := by decide +kernel
  have iX4 : ∀ w ∈ wsX40, w ∈ wsX5_count := by decide +kernel
  have iX5 : ∀ w ∈ wsX50, w ∈ wsX5_count := by decide +kernel
  have k10 := hts (.fieldLink RX5 10 "BlockMarker" "lines" "LBlockMarker$Lines;") (by decide +kernel)
  have k19 := hts (.fieldLink RX5 19 "BlockMarker" "model" "LBlockMarker$Model;") (by decide +kernel)
  have k88 := hts (.fieldLink RX5 88 "BlockMarker" "manyInputs" "I") (by decide +kernel)
  have k173 := hts (.fieldLink RX5 173 "BlockMarker" "hintsDone" "I") (by decide +kernel)
  have n57 := va_Nw.use (A := ([.ref aB, .int y1] : List Value).toArray) rfl (hK.2 (.fieldLinkNest "BlockMarker" 57 "BlockMarker$Lines" "many" "I" "BlockMarker") (by decide +kernel))
  have n61 := va_Nw.use (A := ([.ref aB, .int y1] : List Value).toArray) rfl (hK.2 (.fieldLinkNest "BlockMarker" 61 "BlockMarker$Model" "length" "I" "BlockMarker") (by decide +kernel))
  have hS : va_S (fun _ => False) s.heap s.heap [] := va_S.rf
  have hl := lv_entry ([.ref aB, .int y1]) (n := 2) (Nat.le_of_ble_eq_true rfl)
  rw [lg_entry_eq]
  generalize (lg_sl ([.ref aB, .int y1]) ++ List.replicate (2 - (lg_sl ([.ref aB, .int y1])).length) Slot.unset).toArray = ls at hl ⊢
  have hl : lv_has ls 2 [(0, .ref aB), (1, .int y1)] := hl
  generalize hQQ : MQ below _ _ s 0 0 _ = QQ
  replace hQQ := hQQ.symm
  unfold fX5_count at hf
  refine lv_iload_n hx hb dX5_count_0 rfl (lv_at hl 1 rfl) ?_
  by_cases c1_0 : y1 = (0 : Int32)
  · have hf := ifp hf c1_0
    refine lv_tableIn (off := 43) (tgt := 44) hx hb dX5_count_1 (by rw [c1_0]; decide) (by rw [c1_0]; decide) (by rw [c1_0]; decide) (by decide) ?_
    refine lv_aload_n hx hb dX5_count_44 rfl (lv_at hl 0 rfl) ?_
    refine va_get (D := D) (ci := 5) (v := .ref aL) (C := RX5) (T := TX5) (N := 10) hx hb hts iX5 hown hK.1 hP 0 rfl rfl 0 (by decide) k10 (fun _ h9 => h9) rfl dX5_count_45 ?_
    refine va_getN (D := D) (ci := 1) (v := .int L_many) (C := RX1) (T := TX1) (N := 6) hx hb hts iX1 hown hK.1 hP 1 rfl rfl 5 (by decide) n57 (fun _ h9 => h9) rfl dX5_count_48 ?_
    rw [hQQ]
    exact W.iret (v := L_many) hx hb hr (fun t ht hW => ⟨⟨L_many, (), rfl, Option.some.inj hf, ht⟩, rF ht⟩) hS.2.2 dX5_count_51
  · have hf := ifn hf c1_0
    by_cases c1_1 : y1 = (1 : Int32)
    · have hf := ifp hf c1_1
      refine lv_tableIn (off := 51) (tgt := 52) hx hb dX5_count_1 (by rw [c1_1]; decide) (by rw [c1_1]; decide) (by rw [c1_1]; decide) (by decide) ?_
      refine lv_aload_n hx hb dX5_count_52 rfl (lv_at hl 0 rfl) ?_
      refine va_get (D := D) (ci := 5) (v := .ref aM) (C := RX5) (T := TX5) (N := 10) hx hb hts iX5 hown hK.1 hP 0 rfl rfl 1 (by decide) k19 (fun _ h9 => h9) rfl dX5_count_53 ?_
      refine va_getN (D := D) (ci := 4) (v := .int M_length) (C := RX4) (T := TX4) (N := 6) hx hb hts iX4 hown hK.1 hP 3 rfl rfl 3 (by decide) n61 (fun _ h9 => h9) rfl dX5_count_56 ?_
      rw [hQQ]
      exact W.iret (v := M_length) hx hb hr (fun t ht hW => ⟨⟨M_length, (), rfl, Option.some.inj hf, ht⟩, rF ht⟩) hS.2.2 dX5_count_59
    · have hf := ifn hf c1_1
      by_cases c1_2 : y1 = (2 : Int32)
      · have hf := ifp hf c1_2
        refine lv_tableIn (off := 59) (tgt := 60) hx hb dX5_count_1 (by rw [c1_2]; decide) (by rw [c1_2]; decide) (by rw [c1_2]; decide) (by decide) ?_
        refine lv_aload_n hx hb dX5_count_60 rfl (lv_at hl 0 rfl) ?_
        refine va_get (D := D) (ci := 5) (v := .ref aL) (C := RX5) (T := TX5) (N := 10) hx hb hts iX5 hown hK.1 hP 0 rfl rfl 0 (by decide) k10 (fun _ h9 => h9) rfl dX5_count_61 ?_
        refine lv_iconst (v := (1 : Int32)) hx hb dX5_count_64 (by decide) ?_
        refine bnd hf (fun o65 e65 hf => ?_)
        refine rdVi (As := [.int (1 : Int32)]) (rest := []) ⟨hx, hb, hml, hown, hts⟩ (tX1_manyOf l D cI cJ cG aL aL_kinds aL_vs aL_ws aL_roles aL_mates s.heap (1 : Int32) L_many L_roles o65 e65) (cwV 1 hts gX5_count_X1_manyOf rfl rfl rfl (by decide +kernel) ⟨Nat.le_of_ble_eq_true rfl, Nat.le_of_ble_eq_true rfl⟩) (va_recv (ci := 1) (q0 := 1) hK.1 hP rfl rfl) hK (hP.sub (ws' := [(aL, .inr (1, [.ref aL_kinds, .ref aL_vs, .ref aL_ws, .ref aL_roles, .ref aL_mates, .int L_many])), (aL_roles, eI cI 16 L_roles)]) [1, 2] rfl) rfl hl.1 rfl (lv_room (Nat.le_of_ble_eq_true rfl)) dX5_count_65 ⟨Nat.le_of_ble_eq_true rfl, Nat.le_of_ble_eq_true rfl⟩ hS (fun locs hS => ?_)
        rw [hQQ]
        exact W.iret (v := o65) hx hb hr (fun t ht hW => ⟨⟨o65, (), rfl, Option.some.inj hf, ht⟩, rF ht⟩) hS.2.2 dX5_count_68
      · have hf := ifn hf c1_2
        by_cases c1_3 : y1 = (3 : Int32)
        · have hf := ifp hf c1_3
          refine lv_tableIn (off := 68) (tgt := 69) hx hb dX5_count_1 (by rw [c1_3]; decide) (by rw [c1_3]; decide) (by rw [c1_3]; decide) (by decide) ?_
          refine lv_aload_n hx hb dX5_count_69 rfl (lv_at hl 0 rfl) ?_
          refine va_get (D := D) (ci := 5) (v := .ref aL) (C := RX5) (T := TX5) (N := 10) hx hb hts iX5 hown hK.1 hP 0 rfl rfl 0 (by decide) k10 (fun _ h9 => h9) rfl dX5_count_70 ?_
          refine lv_iconst (v := (2 : Int32)) hx hb dX5_count_73 (by decide) ?_
          refine bnd hf (fun o74 e74 hf => ?_)
          refine rdVi (As := [.int (2 : Int32)]) (rest := []) ⟨hx, hb, hml, hown, hts⟩ (tX1_manyOf l D cI cJ cG aL aL_kinds aL_vs aL_ws aL_roles aL_mates s.heap (2 : Int32) L_many L_roles o74 e74) (cwV 1 hts gX5_count_X1_manyOf rfl rfl rfl (by decide +kernel) ⟨Nat.le_of_ble_eq_true rfl, Nat.le_of_ble_eq_true rfl⟩) (va_recv (ci := 1) (q0 := 1) hK.1 hP rfl rfl) hK (hP.sub (ws' := [(aL, .inr (1, [.ref aL_kinds, .ref aL_vs, .ref aL_ws, .ref aL_roles, .ref aL_mates, .int L_many])), (aL_roles, eI cI 16 L_roles)]) [1, 2] rfl) rfl hl.1 rfl (lv_room (Nat.le_of_ble_eq_true rfl)) dX5_count_74 ⟨Nat.le_of_ble_eq_true rfl, Nat.le_of_ble_eq_true rfl⟩ hS (fun locs hS => ?_)
          rw [hQQ]
          exact W.iret (v := o74) hx hb hr (fun t ht hW => ⟨⟨o74, (), rfl, Option.some.inj hf, ht⟩, rF ht⟩) hS.2.2 dX5_count_77
        · have hf := ifn hf c1_3
          by_cases c1_4 : y1 = (4 : Int32)
          · have hf := ifp hf c1_4
            refine lv_tableIn (off := 77) (tgt := 78) hx hb dX5_count_1 (by rw [c1_4]; decide) (by rw [c1_4]; decide) (by rw [c1_4]; decide) (by decide) ?_
            refine lv_aload_n hx hb dX5_count_78 rfl (lv_at hl 0 rfl) ?_
            refine va_get (D := D) (ci := 5) (v := .int B_manyInputs) (C := RX5) (T := TX5) (N := 10) hx hb hts iX5 hown hK.1 hP 0 rfl rfl 5 (by decide) k88 (fun _ h9 => h9) rfl dX5_count_79 ?_
            rw [hQQ]
            exact W.iret (v := B_manyInputs) hx hb hr (fun t ht hW => ⟨⟨B_manyInputs, (), rfl, Option.some.inj hf, ht⟩, rF ht⟩) hS.2.2 dX5_count_82
          · have hf := ifn hf c1_4
            by_cases c1_5 : y1 = (5 : Int32)
            · have hf := ifp hf c1_5
              refine lv_tableIn (off := 82) (tgt := 83) hx hb dX5_count_1 (by rw [c1_5]; decide) (by rw [c1_5]; decide) (by rw [c1_5]; decide) (by decide) ?_
              refine lv_aload_n hx hb dX5_count_83 rfl (lv_at hl 0 rfl) ?_
              refine va_get (D := D) (ci := 5) (v := .ref aM) (C := RX5) (T := TX5) (N := 10) hx hb hts iX5 hown hK.1 hP 0 rfl rfl 1 (by decide) k19 (fun _ h9 => h9) rfl dX5_count_84 ?_
              refine bnd hf (fun o87 e87 hf => ?_)
              refine rdVi (As := []) (rest := []) ⟨hx, hb, hml, hown, hts⟩ (tX4_manyPairs l D cI cJ cG aM aM_numbers aM_ranks aM_ahead aM_ways s.heap  M_length M_waysCounted M_ahead o87 e87) (cwV 0 hts gX5_count_X4_manyPairs rfl rfl rfl (by decide +kernel) ⟨Nat.le_of_ble_eq_true rfl, Nat.le_of_ble_eq_true rfl⟩) (va_recv (ci := 4) (q0 := 3) hK.1 hP rfl rfl) hK (hP.sub (ws' := [(aM, .inr (4, [.ref aM_numbers, .ref aM_ranks, .ref aM_ahead, .int M_length, .ref aM_ways, .int M_waysCounted])), (aM_ahead, eI cI 12 M_ahead)]) [3, 4] rfl) rfl hl.1 rfl (lv_room (Nat.le_of_ble_eq_true rfl)) dX5_count_87 ⟨Nat.le_of_ble_eq_true rfl, Nat.le_of_ble_eq_true rfl⟩ hS (fun locs hS => ?_)
              rw [hQQ]
              exact W.iret (v := o87) hx hb hr (fun t ht hW => ⟨⟨o87, (), rfl, Option.some.inj hf, ht⟩, rF ht⟩) hS.2.2 dX5_count_90
            · have hf := ifn hf c1_5
              by_cases c1_6 : y1 = (6 : Int32)
              · have hf := ifp hf c1_6
                refine lv_tableIn (off := 90) (tgt := 91) hx hb dX5_count_1 (by rw [c1_6]; decide) (by rw [c1_6]; decide) (by rw [c1_6]; decide) (by decide) ?_
                refine lv_aload_n hx hb dX5_count_91 rfl (lv_at hl 0 rfl) ?_
                refine va_get (D := D) (ci := 5) (v := .int B_hintsDone) (C := RX5) (T := TX5) (N := 10) hx hb hts iX5 hown hK.1 hP 0 rfl rfl 6 (by decide) k173 (fun _ h9 => h9) rfl dX5_count_92 ?_
                rw [hQQ]
                exact W.iret (v := B_hintsDone) hx hb hr (fun t ht hW => ⟨⟨B_hintsDone, (), rfl, Option.some.inj hf, ht⟩, rF ht⟩) hS.2.2 dX5_count_95
              · have hf := ifn hf c1_6
                have u1_0 := lv_neT c1_0 (a := 0) rfl
                have u1_1 := lv_neT c1_1 (a := 1) rfl
                have u1_2 := lv_neT c1_2 (a := 2) rfl
                have u1_3 := lv_neT c1_3 (a := 3) rfl
                have u1_4 := lv_neT c1_4 (a := 4) rfl
                have u1_5 := lv_neT c1_5 (a := 5) rfl
                have u1_6 := lv_neT c1_6 (a := 6) rfl
                refine lv_tableOut (tgt := 96) hx hb dX5_count_1 (by omega) (by decide) ?_
                refine lv_bipush (v := (-102 : Int32)) hx hb dX5_count_96 (by decide) ?_
                rw [hQQ]
                exact W.iret (v := (-102 : Int32)) hx hb hr (fun t ht hW => ⟨⟨(-102 : Int32), (), rfl, Option.some.inj hf, ht⟩, rF ht⟩) hS.2.2 dX5_count_98

set_option maxHeartbeats 4000000 in
set_option maxRecDepth 100000 in
theorem tX5_digest (l : Launch) (D : va_G) (cI cJ cG : ClassId) (aB aL aM aA aK aB_inputs aC1 aC2 aC3 aB_r0 aB_r1 aB_r2 aB_r3 aB_r4 aB_r5 aB_r6 aB_r7 aL_kinds aL_vs aL_ws aL_roles aL_mates aA_row : Nat) (Hs : Heap)  (B_manyInputs : Int32) (B_hintsDone : Int32) (B_inp : (Nat → Nat → Int32)) (L_many : Int32) (L_kinds : (Nat → Int32)) (L_vs : (Nat → Int32)) (L_ws : (Nat → Int32)) (L_roles : (Nat → Int32)) (L_mates : (Nat → Int32)) (A_length : Int32) (A_row : (Nat → Int32)) (out : Int64) (hf : fX5_digest B_manyInputs B_hintsDone B_inp L_many L_kinds L_vs L_ws L_roles L_mates A_length A_row = some out) : Met l yX5_digest wsX5_digest ({ frames := 2, cells := 0, slots := 0, locals := 43 }) (va_Pc [.ref aB] (rP D (tyL cI cJ cG) [(aB, .inr (5, [.ref aL, .ref aM, .ref aA, .ref aK, .ref aB_inputs, .int B_manyInputs, .int B_hintsDone, .ref aC1, .ref aC2, .ref aC3])), (aB_inputs, eG cG aB_r0 aB_r1 aB_r2 aB_r3 aB_r4 aB_r5 aB_r6 aB_r7), (aB_r0, eI cI 6 (B_inp 0)), (aB_r1, eI cI 6 (B_inp 1)), (aB_r2, eI cI 6 (B_inp 2)), (aB_r3, eI cI 6 (B_inp 3)), (aB_r4, eI cI 6 (B_inp 4)), (aB_r5, eI cI 6 (B_inp 5)), (aB_r6, eI cI 6 (B_inp 6)), (aB_r7, eI cI 6 (B_inp 7)), (aL, .inr (1, [.ref aL_kinds, .ref aL_vs, .ref aL_ws, .ref aL_roles, .ref aL_mates, .int L_many])), (aL_kinds, eI cI 16 L_kinds), (aL_vs, eI cI 16 L_vs), (aL_ws, eI cI 16 L_ws), (aL_roles, eI cI 16 L_roles), (aL_mates, eI cI 16 L_mates), (aA, .inr (0, [.ref aA_row, .int A_length])), (aA_row, eI cI 16 A_row)] Hs)) (rQl out Hs) 0 0 (fun _ => False) := by
  refine Met.ofW (cc := cX5_digest) (maxL := 5) (ret := (some .long)) (by decide) rfl ?_
  intro p e s m args below meth c s₁ B hml hv
  obtain ⟨rfl, rfl, hP, hK⟩ := hv
  have hx := B.exec
  have hb := B.bytes
  have hr := B.returns
  have hts := atoms_spec (ws := wsX5_digest) B.pre
  have hown : s.vm.findClass RX5 = some m.cls := findClass_of_methodNamed B.named
  have hlocks := B.notSynchronized
  have iX0 : ∀ w ∈ wsX00, w ∈ wsX5_digest := by decide +kernel
  have iX1 : ∀ w ∈ wsX10, w ∈ wsX5_digest := by decide +kernel
  have iX5 : ∀ w ∈ wsX50, w ∈ wsX5_digest := by decide +kernel
  have k10 := hts (.fieldLink RX5 10 "BlockMarker" "lines" "LBlockMarker$Lines;") (by decide +kernel)
  have k26 := hts (.fieldLink RX5 26 "BlockMarker" "answer" "LBlockMarker$Answer;") (by decide +kernel)
  have k41 := hts (.fieldLink RX5 41 "BlockMarker" "inputs" "[[I") (by decide +kernel)
  have k88 := hts (.fieldLink RX5 88 "BlockMarker" "manyInputs" "I") (by decide +kernel)
  have k173 := hts (.fieldLink RX5 173 "BlockMarker" "hintsDone" "I") (by decide +kernel)
  have n57 := va_Nw.use (A := ([.ref aB] : List Value).toArray) rfl (hK.2 (.fieldLinkNest "BlockMarker" 57 "BlockMarker$Lines" "many" "I" "BlockMarker") (by decide +kernel))
  have n87 := va_Nw.use (A := ([.ref aB] : List Value).toArray) rfl (hK.2 (.fieldLinkNest "BlockMarker" 87 "BlockMarker$Answer" "length" "I" "BlockMarker") (by decide +kernel))
  have q183 := hts (.constantLong RX5 183 101) (by decide +kernel)
  have q185 := hts (.constantLong RX5 185 31) (by decide +kernel)
  have hS : va_S (fun _ => False) s.heap s.heap [] := va_S.rf
  have hl := lv_entry ([.ref aB]) (n := 5) (Nat.le_of_ble_eq_true rfl)
  rw [lg_entry_eq]
  generalize (lg_sl ([.ref aB]) ++ List.replicate (5 - (lg_sl ([.ref aB])).length) Slot.unset).toArray = ls at hl ⊢
  have hl : lv_has ls 5 [(0, .ref aB)] := hl
  generalize hQQ : MQ below _ _ s 0 0 _ = QQ
  replace hQQ := hQQ.symm
  have b_107 : ∀ (n : Nat), ∀ (x1 : Int64) (x3 : Int32), fX5_digest_h107  n x1 x3 B_manyInputs B_hintsDone B_inp L_many L_kinds L_vs L_ws L_roles L_mates A_length A_row = some out → ∀ (locs : List Loc) (ls : Array Slot), va_S (fun _ => False) s.heap s.heap locs → lv_has ls 5 [(0, .ref aB), (1, .long x1), (3, .int x3)] → W p l e (headSpec wsX5_digest { frames := 2, cells := 0, slots := 0, locals := 43 }).room s m ([.ref aB] : List Value).toArray below meth c s.heap locs 0 0 QQ (F0 m 107 ls []) := by
    intro  n
    induction n with
    | zero => intro x1 x3 hf; exact nomatch (show (none : Option (Int64)) = some out from hf)
    | succ n ih =>
      intro x1 x3 hf locs ls hS hl
      replace hf : uX5_digest_h107  (fX5_digest_h107  n) x1 x3 B_manyInputs B_hintsDone B_inp L_many L_kinds L_vs L_ws L_roles L_mates A_length A_row = some out := hf
      unfold uX5_digest_h107 at hf
      refine lv_iload_n hx hb dX5_digest_107 rfl (lv_at hl 2 rfl) ?_
      refine lv_aload_n hx hb dX5_digest_108 rfl (lv_at hl 0 rfl) ?_
      refine va_get (D := D) (ci := 5) (v := .ref aA) (C := RX5) (T := TX5) (N := 10) hx hb hts iX5 hown hK.1 hP 0 rfl rfl 2 (by decide) k26 (fun _ h9 => h9) rfl dX5_digest_109 ?_
      refine va_getN (D := D) (ci := 0) (v := .int A_length) (C := RX0) (T := TX0) (N := 2) hx hb hts iX0 hown hK.1 hP 16 rfl rfl 1 (by decide) n87 (fun _ h9 => h9) rfl dX5_digest_112 ?_
      refine lv_icmp_ge (tgt := 140) hx hb dX5_digest_115 (by decide) (fun c115 => ?_) (fun c115 => ?_)
      · have hf := ifp hf c115
        refine lv_ldc2 (v := 31) hx hb hown q185 dX5_digest_140 ?_
        refine lv_lload_n hx hb dX5_digest_143 rfl (lv_at hl 1 rfl) ?_
        refine lv_lmul hx hb dX5_digest_144 ?_
        refine lv_aload_n hx hb dX5_digest_145 rfl (lv_at hl 0 rfl) ?_
        refine va_get (D := D) (ci := 5) (v := .int B_hintsDone) (C := RX5) (T := TX5) (N := 10) hx hb hts iX5 hown hK.1 hP 0 rfl rfl 6 (by decide) k173 (fun _ h9 => h9) rfl dX5_digest_146 ?_
        refine lv_i2l hx hb dX5_digest_149 rfl ?_
        refine lv_ladd hx hb dX5_digest_150 ?_
        rw [hQQ]
        exact W.lret (v := (((31 : Int64) * x1) + (B_hintsDone).toInt64)) hx hb hr (fun t ht hW => ⟨⟨(((31 : Int64) * x1) + (B_hintsDone).toInt64), (), rfl, Option.some.inj hf, ht⟩, rF ht⟩) hS.2.2 dX5_digest_151
      · have hf := ifn hf c115
        refine lv_ldc2 (v := 31) hx hb hown q185 dX5_digest_118 ?_
        refine lv_lload_n hx hb dX5_digest_121 rfl (lv_at hl 1 rfl) ?_
        refine lv_lmul hx hb dX5_digest_122 ?_
        refine lv_aload_n hx hb dX5_digest_123 rfl (lv_at hl 0 rfl) ?_
        refine va_get (D := D) (ci := 5) (v := .ref aA) (C := RX5) (T := TX5) (N := 10) hx hb hts iX5 hown hK.1 hP 0 rfl rfl 2 (by decide) k26 (fun _ h9 => h9) rfl dX5_digest_124 ?_
        refine lv_iload_n hx hb dX5_digest_127 rfl (lv_at hl 2 rfl) ?_
        refine bnd hf (fun o128 e128 hf => ?_)
        refine rdVi (As := [.int x3]) (rest := [.long ((31 : Int64) * x1)]) ⟨hx, hb, hml, hown, hts⟩ (tX0_lineAt l D cI cJ cG aA aA_row s.heap x3 A_length A_row o128 e128) (cwV 1 hts gX5_digest_X0_lineAt rfl rfl rfl (by decide +kernel) ⟨Nat.le_of_ble_eq_true rfl, Nat.le_of_ble_eq_true rfl⟩) (va_recv (ci := 0) (q0 := 16) hK.1 hP rfl rfl) hK (hP.sub (ws' := [(aA, .inr (0, [.ref aA_row, .int A_length])), (aA_row, eI cI 16 A_row)]) [16, 17] rfl) rfl hl.1 rfl (lv_room (Nat.le_of_ble_eq_true rfl)) dX5_digest_128 ⟨Nat.le_of_ble_eq_true rfl, Nat.le_of_ble_eq_true rfl⟩ hS (fun locs hS => ?_)
        refine lv_i2l hx hb dX5_digest_131 rfl ?_
        refine lv_ladd hx hb dX5_digest_132 ?_
        refine lv_lstore_n (lv' := [(1, .long (((31 : Int64) * x1) + (o128).toInt64)), (0, .ref aB), (3, .int x3)]) hx hb dX5_digest_133 rfl hl (by decide) rfl (fun ls hl => ?_)
        refine lv_iinc (v := (x3 + (1 : Int32))) (lv' := [(3, .int (x3 + (1 : Int32))), (1, .long (((31 : Int64) * x1) + (o128).toInt64)), (0, .ref aB)]) hx hb dX5_digest_134 hl (k := 2) rfl rfl (by decide) rfl (fun ls hl => ?_)
        refine lv_goto (tgt := 107) hx hb dX5_digest_137 (by decide) ?_
        exact ih (((31 : Int64) * x1) + (o128).toInt64) (x3 + (1 : Int32)) hf _ _ hS (lv_sub hl [2, 1, 0] rfl)
  have b_69 : ∀ (k58 : Int64 → Int32 → Int32 → Int32 → (Nat → Nat → Int32) → Int32 → (Nat → Int32) → (Nat → Int32) → (Nat → Int32) → (Nat → Int32) → (Nat → Int32) → Int32 → (Nat → Int32) → Option (Int64)) (hk58 : ∀ (x1 : Int64) (x3 : Int32), k58 x1 x3 B_manyInputs B_hintsDone B_inp L_many L_kinds L_vs L_ws L_roles L_mates A_length A_row = some out → ∀ (locs : List Loc) (ls : Array Slot), va_S (fun _ => False) s.heap s.heap locs → lv_has ls 5 [(0, .ref aB), (1, .long x1), (3, .int x3)] → W p l e (headSpec wsX5_digest { frames := 2, cells := 0, slots := 0, locals := 43 }).room s m ([.ref aB] : List Value).toArray below meth c s.heap locs 0 0 QQ (F0 m 58 ls [])) (n : Nat), ∀ (x1 : Int64) (x3 : Int32) (x4 : Int32), fX5_digest_h69 k58 n x1 x3 x4 B_manyInputs B_hintsDone B_inp L_many L_kinds L_vs L_ws L_roles L_mates A_length A_row = some out → ∀ (locs : List Loc) (ls : Array Slot), va_S (fun _ => False) s.heap s.heap locs → lv_has ls 5 [(0, .ref aB), (1, .long x1), (3, .int x3), (4, .int x4)] → W p l e (headSpec wsX5_digest { frames := 2, cells := 0, slots := 0, locals := 43 }).room s m ([.ref aB] : List Value).toArray below meth c s.heap locs 0 0 QQ (F0 m 69 ls []) := by
    intro k58 hk58 n
    induction n with
    | zero => intro x1 x3 x4 hf; exact nomatch (show (none : Option (Int64)) = some out from hf)
    | succ n ih =>
      intro x1 x3 x4 hf locs ls hS hl
      replace hf : uX5_digest_h69 k58 (fX5_digest_h69 k58 n) x1 x3 x4 B_manyInputs B_hintsDone B_inp L_many L_kinds L_vs L_ws L_roles L_mates A_length A_row = some out := hf
      unfold uX5_digest_h69 at hf
      refine lv_iload hx hb dX5_digest_69 (lv_at hl 3 rfl) ?_
      refine lv_bipush (v := (6 : Int32)) hx hb dX5_digest_71 (by decide) ?_
      refine lv_icmp_ge (tgt := 99) hx hb dX5_digest_73 (by decide) (fun c73 => ?_) (fun c73 => ?_)
      · have hf := ifp hf c73
        refine lv_iinc (v := (x3 + (1 : Int32))) (lv' := [(3, .int (x3 + (1 : Int32))), (0, .ref aB), (1, .long x1), (4, .int x4)]) hx hb dX5_digest_99 hl (k := 2) rfl rfl (by decide) rfl (fun ls hl => ?_)
        refine lv_goto (tgt := 58) hx hb dX5_digest_102 (by decide) ?_
        exact hk58 x1 (x3 + (1 : Int32)) hf _ _ hS (lv_sub hl [1, 2, 0] rfl)
      · have hf := ifn hf c73
        refine lv_ldc2 (v := 31) hx hb hown q185 dX5_digest_76 ?_
        refine lv_lload_n hx hb dX5_digest_79 rfl (lv_at hl 1 rfl) ?_
        refine lv_lmul hx hb dX5_digest_80 ?_
        refine lv_aload_n hx hb dX5_digest_81 rfl (lv_at hl 0 rfl) ?_
        refine va_get (D := D) (ci := 5) (v := .ref aB_inputs) (C := RX5) (T := TX5) (N := 10) hx hb hts iX5 hown hK.1 hP 0 rfl rfl 4 (by decide) k41 (fun _ h9 => h9) rfl dX5_digest_82 ?_
        refine lv_iload_n hx hb dX5_digest_85 rfl (lv_at hl 2 rfl) ?_
        refine ckE hf (fun h86 hf => ?_)
        obtain ⟨k86, hk86, ek86⟩ := vp_in_of (inB_in h86) (by decide)
        have e86 : (x3).toNatClampNeg = k86 := by rw [ek86]; exact nI_clamp (by omega)
        rw [e86] at hf
        refine aldA hx hb hK.1 hP 1 2 rfl rfl (inB_in h86) dX5_digest_86 ?_
        rw [e86]
        rcases (show k86 = 0 ∨ k86 = 1 ∨ k86 = 2 ∨ k86 = 3 ∨ k86 = 4 ∨ k86 = 5 ∨ k86 = 6 ∨ k86 = 7 by omega) with rfl | rfl | rfl | rfl | rfl | rfl | rfl | rfl
        · refine W.eq (g2 := F0 m 87 ls [.ref aB_r0, .long ((31 : Int64) * x1)]) rfl ?_
          refine lv_iload hx hb dX5_digest_87 (lv_at hl 3 rfl) ?_
          refine ckE hf (fun h89 hf => ?_)
          refine va_iald hx hb hK.1 hP 2 0 rfl rfl (inB_in h89) dX5_digest_89 ?_
          refine lv_i2l hx hb dX5_digest_90 rfl ?_
          refine lv_ladd hx hb dX5_digest_91 ?_
          refine lv_lstore_n (lv' := [(1, .long (((31 : Int64) * x1) + (((B_inp 0) (x4).toNatClampNeg)).toInt64)), (0, .ref aB), (3, .int x3), (4, .int x4)]) hx hb dX5_digest_92 rfl hl (by decide) rfl (fun ls hl => ?_)
          refine lv_iinc (v := (x4 + (1 : Int32))) (lv' := [(4, .int (x4 + (1 : Int32))), (1, .long (((31 : Int64) * x1) + (((B_inp 0) (x4).toNatClampNeg)).toInt64)), (0, .ref aB), (3, .int x3)]) hx hb dX5_digest_93 hl (k := 3) rfl rfl (by decide) rfl (fun ls hl => ?_)
          refine lv_goto (tgt := 69) hx hb dX5_digest_96 (by decide) ?_
          exact ih (((31 : Int64) * x1) + (((B_inp 0) (x4).toNatClampNeg)).toInt64) x3 (x4 + (1 : Int32)) hf _ _ hS (lv_sub hl [2, 1, 3, 0] rfl)
        · refine W.eq (g2 := F0 m 87 ls [.ref aB_r1, .long ((31 : Int64) * x1)]) rfl ?_
          refine lv_iload hx hb dX5_digest_87 (lv_at hl 3 rfl) ?_
          refine ckE hf (fun h89 hf => ?_)
          refine va_iald hx hb hK.1 hP 3 0 rfl rfl (inB_in h89) dX5_digest_89 ?_
          refine lv_i2l hx hb dX5_digest_90 rfl ?_
          refine lv_ladd hx hb dX5_digest_91 ?_
          refine lv_lstore_n (lv' := [(1, .long (((31 : Int64) * x1) + (((B_inp 1) (x4).toNatClampNeg)).toInt64)), (0, .ref aB), (3, .int x3), (4, .int x4)]) hx hb dX5_digest_92 rfl hl (by decide) rfl (fun ls hl => ?_)
          refine lv_iinc (v := (x4 + (1 : Int32))) (lv' := [(4, .int (x4 + (1 : Int32))), (1, .long (((31 : Int64) * x1) + (((B_inp 1) (x4).toNatClampNeg)).toInt64)), (0, .ref aB), (3, .int x3)]) hx hb dX5_digest_93 hl (k := 3) rfl rfl (by decide) rfl (fun ls hl => ?_)
          refine lv_goto (tgt := 69) hx hb dX5_digest_96 (by decide) ?_
          exact ih (((31 : Int64) * x1) + (((B_inp 1) (x4).toNatClampNeg)).toInt64) x3 (x4 + (1 : Int32)) hf _ _ hS (lv_sub hl [2, 1, 3, 0] rfl)
        · refine W.eq (g2 := F0 m 87 ls [.ref aB_r2, .long ((31 : Int64) * x1)]) rfl ?_
          refine lv_iload hx hb dX5_digest_87 (lv_at hl 3 rfl) ?_
          refine ckE hf (fun h89 hf => ?_)
          refine va_iald hx hb hK.1 hP 4 0 rfl rfl (inB_in h89) dX5_digest_89 ?_
          refine lv_i2l hx hb dX5_digest_90 rfl ?_
          refine lv_ladd hx hb dX5_digest_91 ?_
          refine lv_lstore_n (lv' := [(1, .long (((31 : Int64) * x1) + (((B_inp 2) (x4).toNatClampNeg)).toInt64)), (0, .ref aB), (3, .int x3), (4, .int x4)]) hx hb dX5_digest_92 rfl hl (by decide) rfl (fun ls hl => ?_)
          refine lv_iinc (v := (x4 + (1 : Int32))) (lv' := [(4, .int (x4 + (1 : Int32))), (1, .long (((31 : Int64) * x1) + (((B_inp 2) (x4).toNatClampNeg)).toInt64)), (0, .ref aB), (3, .int x3)]) hx hb dX5_digest_93 hl (k := 3) rfl rfl (by decide) rfl (fun ls hl => ?_)
          refine lv_goto (tgt := 69) hx hb dX5_digest_96 (by decide) ?_
          exact ih (((31 : Int64) * x1) + (((B_inp 2) (x4).toNatClampNeg)).toInt64) x3 (x4 + (1 : Int32)) hf _ _ hS (lv_sub hl [2, 1, 3, 0] rfl)
        · refine W.eq (g2 := F0 m 87 ls [.ref aB_r3, .long ((31 : Int64) * x1)]) rfl ?_
          refine lv_iload hx hb dX5_digest_87 (lv_at hl 3 rfl) ?_
          refine ckE hf (fun h89 hf => ?_)
          refine va_iald hx hb hK.1 hP 5 0 rfl rfl (inB_in h89) dX5_digest_89 ?_
          refine lv_i2l hx hb dX5_digest_90 rfl ?_
          refine lv_ladd hx hb dX5_digest_91 ?_
          refine lv_lstore_n (lv' := [(1, .long (((31 : Int64) * x1) + (((B_inp 3) (x4).toNatClampNeg)).toInt64)), (0, .ref aB), (3, .int x3), (4, .int x4)]) hx hb dX5_digest_92 rfl hl (by decide) rfl (fun ls hl => ?_)
          refine lv_iinc (v := (x4 + (1 : Int32))) (lv' := [(4, .int (x4 + (1 : Int32))), (1, .long (((31 : Int64) * x1) + (((B_inp 3) (x4).toNatClampNeg)).toInt64)), (0, .ref aB), (3, .int x3)]) hx hb dX5_digest_93 hl (k := 3) rfl rfl (by decide) rfl (fun ls hl => ?_)
          refine lv_goto (tgt := 69) hx hb dX5_digest_96 (by decide) ?_
          exact ih (((31 : Int64) * x1) + (((B_inp 3) (x4).toNatClampNeg)).toInt64) x3 (x4 + (1 : Int32)) hf _ _ hS (lv_sub hl [2, 1, 3, 0] rfl)
        · refine W.eq (g2 := F0 m 87 ls [.ref aB_r4, .long ((31 : Int64) * x1)]) rfl ?_
          refine lv_iload hx hb dX5_digest_87 (lv_at hl 3 rfl) ?_
          refine ckE hf (fun h89 hf => ?_)
          refine va_iald hx hb hK.1 hP 6 0 rfl rfl (inB_in h89) dX5_digest_89 ?_
          refine lv_i2l hx hb dX5_digest_90 rfl ?_
          refine lv_ladd hx hb dX5_digest_91 ?_
          refine lv_lstore_n (lv' := [(1, .long (((31 : Int64) * x1) + (((B_inp 4) (x4).toNatClampNeg)).toInt64)), (0, .ref aB), (3, .int x3), (4, .int x4)]) hx hb dX5_digest_92 rfl hl (by decide) rfl (fun ls hl => ?_)
          refine lv_iinc (v := (x4 + (1 : Int32))) (lv' := [(4, .int (x4 + (1 : Int32))), (1, .long (((31 : Int64) * x1) + (((B_inp 4) (x4).toNatClampNeg)).toInt64)), (0, .ref aB), (3, .int x3)]) hx hb dX5_digest_93 hl (k := 3) rfl rfl (by decide) rfl (fun ls hl => ?_)
          refine lv_goto (tgt := 69) hx hb dX5_digest_96 (by decide) ?_
          exact ih (((31 : Int64) * x1) + (((B_inp 4) (x4).toNatClampNeg)).toInt64) x3 (x4 + (1 : Int32)) hf _ _ hS (lv_sub hl [2, 1, 3, 0] rfl)
        · refine W.eq (g2 := F0 m 87 ls [.ref aB_r5, .long ((31 : Int64) * x1)]) rfl ?_
          refine lv_iload hx hb dX5_digest_87 (lv_at hl 3 rfl) ?_
          refine ckE hf (fun h89 hf => ?_)
          refine va_iald hx hb hK.1 hP 7 0 rfl rfl (inB_in h89) dX5_digest_89 ?_
          refine lv_i2l hx hb dX5_digest_90 rfl ?_
          refine lv_ladd hx hb dX5_digest_91 ?_
          refine lv_lstore_n (lv' := [(1, .long (((31 : Int64) * x1) + (((B_inp 5) (x4).toNatClampNeg)).toInt64)), (0, .ref aB), (3, .int x3), (4, .int x4)]) hx hb dX5_digest_92 rfl hl (by decide) rfl (fun ls hl => ?_)
          refine lv_iinc (v := (x4 + (1 : Int32))) (lv' := [(4, .int (x4 + (1 : Int32))), (1, .long (((31 : Int64) * x1) + (((B_inp 5) (x4).toNatClampNeg)).toInt64)), (0, .ref aB), (3, .int x3)]) hx hb dX5_digest_93 hl (k := 3) rfl rfl (by decide) rfl (fun ls hl => ?_)
          refine lv_goto (tgt := 69) hx hb dX5_digest_96 (by decide) ?_
          exact ih (((31 : Int64) * x1) + (((B_inp 5) (x4).toNatClampNeg)).toInt64) x3 (x4 + (1 : Int32)) hf _ _ hS (lv_sub hl [2, 1, 3, 0] rfl)
        · refine W.eq (g2 := F0 m 87 ls [.ref aB_r6, .long ((31 : Int64) * x1)]) rfl ?_
          refine lv_iload hx hb dX5_digest_87 (lv_at hl 3 rfl) ?_
          refine ckE hf (fun h89 hf => ?_)
          refine va_iald hx hb hK.1 hP 8 0 rfl rfl (inB_in h89) dX5_digest_89 ?_
          refine lv_i2l hx hb dX5_digest_90 rfl ?_
          refine lv_ladd hx hb dX5_digest_91 ?_
          refine lv_lstore_n (lv' := [(1, .long (((31 : Int64) * x1) + (((B_inp 6) (x4).toNatClampNeg)).toInt64)), (0, .ref aB), (3, .int x3), (4, .int x4)]) hx hb dX5_digest_92 rfl hl (by decide) rfl (fun ls hl => ?_)
          refine lv_iinc (v := (x4 + (1 : Int32))) (lv' := [(4, .int (x4 + (1 : Int32))), (1, .long (((31 : Int64) * x1) + (((B_inp 6) (x4).toNatClampNeg)).toInt64)), (0, .ref aB), (3, .int x3)]) hx hb dX5_digest_93 hl (k := 3) rfl rfl (by decide) rfl (fun ls hl => ?_)
          refine lv_goto (tgt := 69) hx hb dX5_digest_96 (by decide) ?_
          exact ih (((31 : Int64) * x1) + (((B_inp 6) (x4).toNatClampNeg)).toInt64) x3 (x4 + (1 : Int32)) hf _ _ hS (lv_sub hl [2, 1, 3, 0] rfl)
        · refine W.eq (g2 := F0 m 87 ls [.ref aB_r7, .long ((31 : Int64) * x1)]) rfl ?_
          refine lv_iload hx hb dX5_digest_87 (lv_at hl 3 rfl) ?_
          refine ckE hf (fun h89 hf => ?_)
          refine va_iald hx hb hK.1 hP 9 0 rfl rfl (inB_in h89) dX5_digest_89 ?_
          refine lv_i2l hx hb dX5_digest_90 rfl ?_
          refine lv_ladd hx hb dX5_digest_91 ?_
          refine lv_lstore_n (lv' := [(1, .long (((31 : Int64) * x1) + (((B_inp 7) (x4).toNatClampNeg)).toInt64)), (0, .ref aB), (3, .int x3), (4, .int x4)]) hx hb dX5_digest_92 rfl hl (by decide) rfl (fun ls hl => ?_)
          refine lv_iinc (v := (x4 + (1 : Int32))) (lv' := [(4, .int (x4 + (1 : Int32))), (1, .long (((31 : Int64) * x1) + (((B_inp 7) (x4).toNatClampNeg)).toInt64)), (0, .ref aB), (3, .int x3)]) hx hb dX5_digest_93 hl (k := 3) rfl rfl (by decide) rfl (fun ls hl => ?_)
          refine lv_goto (tgt := 69) hx hb dX5_digest_96 (by decide) ?_
          exact ih (((31 : Int64) * x1) + (((B_inp 7) (x4).toNatClampNeg)).toInt64) x3 (x4 + (1 : Int32)) hf _ _ hS (lv_sub hl [2, 1, 3, 0] rfl)
  have b_58 : ∀ (n : Nat), ∀ (x1 : Int64) (x3 : Int32), fX5_digest_h58  n x1 x3 B_manyInputs B_hintsDone B_inp L_many L_kinds L_vs L_ws L_roles L_mates A_length A_row = some out → ∀ (locs : List Loc) (ls : Array Slot), va_S (fun _ => False) s.heap s.heap locs → lv_has ls 5 [(0, .ref aB), (1, .long x1), (3, .int x3)] → W p l e (headSpec wsX5_digest { frames := 2, cells := 0, slots := 0, locals := 43 }).room s m ([.ref aB] : List Value).toArray below meth c s.heap locs 0 0 QQ (F0 m 58 ls []) := by
    intro  n
    induction n with
    | zero => intro x1 x3 hf; exact nomatch (show (none : Option (Int64)) = some out from hf)
    | succ n ih =>
      intro x1 x3 hf locs ls hS hl
      replace hf : uX5_digest_h58  (fX5_digest_h58  n) x1 x3 B_manyInputs B_hintsDone B_inp L_many L_kinds L_vs L_ws L_roles L_mates A_length A_row = some out := hf
      unfold uX5_digest_h58 at hf
      refine lv_iload_n hx hb dX5_digest_58 rfl (lv_at hl 2 rfl) ?_
      refine lv_aload_n hx hb dX5_digest_59 rfl (lv_at hl 0 rfl) ?_
      refine va_get (D := D) (ci := 5) (v := .int B_manyInputs) (C := RX5) (T := TX5) (N := 10) hx hb hts iX5 hown hK.1 hP 0 rfl rfl 5 (by decide) k88 (fun _ h9 => h9) rfl dX5_digest_60 ?_
      refine lv_icmp_ge (tgt := 105) hx hb dX5_digest_63 (by decide) (fun c63 => ?_) (fun c63 => ?_)
      · have hf := ifp hf c63
        refine lv_iconst (v := (0 : Int32)) hx hb dX5_digest_105 (by decide) ?_
        refine lv_istore_n (lv' := [(3, .int (0 : Int32)), (0, .ref aB), (1, .long x1)]) hx hb dX5_digest_106 rfl hl (by decide) rfl (fun ls hl => ?_)
        exact b_107 FU x1 (0 : Int32) hf _ _ hS (lv_sub hl [1, 2, 0] rfl)
      · have hf := ifn hf c63
        refine lv_iconst (v := (0 : Int32)) hx hb dX5_digest_66 (by decide) ?_
        refine lv_istore (lv' := [(4, .int (0 : Int32)), (0, .ref aB), (1, .long x1), (3, .int x3)]) hx hb dX5_digest_67 hl (by decide) rfl (fun ls hl => ?_)
        exact b_69 (fX5_digest_h58  n) ih FU x1 x3 (0 : Int32) hf _ _ hS (lv_sub hl [1, 2, 3, 0] rfl)
  have b_20 : ∀ (k6 : Int64 → Int32 → Int32 → Int32 → (Nat → Nat → Int32) → Int32 → (Nat → Int32) → (Nat → Int32) → (Nat → Int32) → (Nat → Int32) → (Nat → Int32) → Int32 → (Nat → Int32) → Option (Int64)) (hk6 : ∀ (x1 : Int64) (x3 : Int32), k6 x1 x3 B_manyInputs B_hintsDone B_inp L_many L_kinds L_vs L_ws L_roles L_mates A_length A_row = some out → ∀ (locs : List Loc) (ls : Array Slot), va_S (fun _ => False) s.heap s.heap locs → lv_has ls 5 [(0, .ref aB), (1, .long x1), (3, .int x3)] → W p l e (headSpec wsX5_digest { frames := 2, cells := 0, slots := 0, locals := 43 }).room s m ([.ref aB] : List Value).toArray below meth c s.heap locs 0 0 QQ (F0 m 6 ls [])) (n : Nat), ∀ (x1 : Int64) (x3 : Int32) (x4 : Int32), fX5_digest_h20 k6 n x1 x3 x4 B_manyInputs B_hintsDone B_inp L_many L_kinds L_vs L_ws L_roles L_mates A_length A_row = some out → ∀ (locs : List Loc) (ls : Array Slot), va_S (fun _ => False) s.heap s.heap locs → lv_has ls 5 [(0, .ref aB), (1, .long x1), (3, .int x3), (4, .int x4)] → W p l e (headSpec wsX5_digest { frames := 2, cells := 0, slots := 0, locals := 43 }).room s m ([.ref aB] : List Value).toArray below meth c s.heap locs 0 0 QQ (F0 m 20 ls []) := by
    intro k6 hk6 n
    induction n with
    | zero => intro x1 x3 x4 hf; exact nomatch (show (none : Option (Int64)) = some out from hf)
    | succ n ih =>
      intro x1 x3 x4 hf locs ls hS hl
      replace hf : uX5_digest_h20 k6 (fX5_digest_h20 k6 n) x1 x3 x4 B_manyInputs B_hintsDone B_inp L_many L_kinds L_vs L_ws L_roles L_mates A_length A_row = some out := hf
      unfold uX5_digest_h20 at hf
      refine lv_iload hx hb dX5_digest_20 (lv_at hl 3 rfl) ?_
      refine lv_iconst (v := (5 : Int32)) hx hb dX5_digest_22 (by decide) ?_
      refine lv_icmp_ge (tgt := 50) hx hb dX5_digest_23 (by decide) (fun c23 => ?_) (fun c23 => ?_)
      · have hf := ifp hf c23
        refine lv_iinc (v := (x3 + (1 : Int32))) (lv' := [(3, .int (x3 + (1 : Int32))), (0, .ref aB), (1, .long x1), (4, .int x4)]) hx hb dX5_digest_50 hl (k := 2) rfl rfl (by decide) rfl (fun ls hl => ?_)
        refine lv_goto (tgt := 6) hx hb dX5_digest_53 (by decide) ?_
        exact hk6 x1 (x3 + (1 : Int32)) hf _ _ hS (lv_sub hl [1, 2, 0] rfl)
      · have hf := ifn hf c23
        refine lv_ldc2 (v := 31) hx hb hown q185 dX5_digest_26 ?_
        refine lv_lload_n hx hb dX5_digest_29 rfl (lv_at hl 1 rfl) ?_
        refine lv_lmul hx hb dX5_digest_30 ?_
        refine lv_aload_n hx hb dX5_digest_31 rfl (lv_at hl 0 rfl) ?_
        refine va_get (D := D) (ci := 5) (v := .ref aL) (C := RX5) (T := TX5) (N := 10) hx hb hts iX5 hown hK.1 hP 0 rfl rfl 0 (by decide) k10 (fun _ h9 => h9) rfl dX5_digest_32 ?_
        refine lv_iload_n hx hb dX5_digest_35 rfl (lv_at hl 2 rfl) ?_
        refine lv_iload hx hb dX5_digest_36 (lv_at hl 3 rfl) ?_
        refine bnd hf (fun o38 e38 hf => ?_)
        refine rdVi (As := [.int x3, .int x4]) (rest := [.long ((31 : Int64) * x1)]) ⟨hx, hb, hml, hown, hts⟩ (tX1_tell l D cI cJ cG aL aL_kinds aL_vs aL_ws aL_roles aL_mates s.heap x3 x4 L_many L_kinds L_vs L_ws L_roles L_mates o38 e38) (cwV 2 hts gX5_digest_X1_tell rfl rfl rfl (by decide +kernel) ⟨Nat.le_of_ble_eq_true rfl, Nat.le_of_ble_eq_true rfl⟩) (va_recv (ci := 1) (q0 := 10) hK.1 hP rfl rfl) hK (hP.sub (ws' := [(aL, .inr (1, [.ref aL_kinds, .ref aL_vs, .ref aL_ws, .ref aL_roles, .ref aL_mates, .int L_many])), (aL_kinds, eI cI 16 L_kinds), (aL_vs, eI cI 16 L_vs), (aL_ws, eI cI 16 L_ws), (aL_roles, eI cI 16 L_roles), (aL_mates, eI cI 16 L_mates)]) [10, 11, 12, 13, 14, 15] rfl) rfl hl.1 rfl (lv_room (Nat.le_of_ble_eq_true rfl)) dX5_digest_38 ⟨Nat.le_of_ble_eq_true rfl, Nat.le_of_ble_eq_true rfl⟩ hS (fun locs hS => ?_)
        refine lv_i2l hx hb dX5_digest_41 rfl ?_
        refine lv_ladd hx hb dX5_digest_42 ?_
        refine lv_lstore_n (lv' := [(1, .long (((31 : Int64) * x1) + (o38).toInt64)), (0, .ref aB), (3, .int x3), (4, .int x4)]) hx hb dX5_digest_43 rfl hl (by decide) rfl (fun ls hl => ?_)
        refine lv_iinc (v := (x4 + (1 : Int32))) (lv' := [(4, .int (x4 + (1 : Int32))), (1, .long (((31 : Int64) * x1) + (o38).toInt64)), (0, .ref aB), (3, .int x3)]) hx hb dX5_digest_44 hl (k := 3) rfl rfl (by decide) rfl (fun ls hl => ?_)
        refine lv_goto (tgt := 20) hx hb dX5_digest_47 (by decide) ?_
        exact ih (((31 : Int64) * x1) + (o38).toInt64) x3 (x4 + (1 : Int32)) hf _ _ hS (lv_sub hl [2, 1, 3, 0] rfl)
  have b_6 : ∀ (n : Nat), ∀ (x1 : Int64) (x3 : Int32), fX5_digest_h6  n x1 x3 B_manyInputs B_hintsDone B_inp L_many L_kinds L_vs L_ws L_roles L_mates A_length A_row = some out → ∀ (locs : List Loc) (ls : Array Slot), va_S (fun _ => False) s.heap s.heap locs → lv_has ls 5 [(0, .ref aB), (1, .long x1), (3, .int x3)] → W p l e (headSpec wsX5_digest { frames := 2, cells := 0, slots := 0, locals := 43 }).room s m ([.ref aB] : List Value).toArray below meth c s.heap locs 0 0 QQ (F0 m 6 ls []) := by
    intro  n
    induction n with
    | zero => intro x1 x3 hf; exact nomatch (show (none : Option (Int64)) = some out from hf)
    | succ n ih =>
      intro x1 x3 hf locs ls hS hl
      replace hf : uX5_digest_h6  (fX5_digest_h6  n) x1 x3 B_manyInputs B_hintsDone B_inp L_many L_kinds L_vs L_ws L_roles L_mates A_length A_row = some out := hf
      unfold uX5_digest_h6 at hf
      refine lv_iload_n hx hb dX5_digest_6 rfl (lv_at hl 2 rfl) ?_
      refine lv_aload_n hx hb dX5_digest_7 rfl (lv_at hl 0 rfl) ?_
      refine va_get (D := D) (ci := 5) (v := .ref aL) (C := RX5) (T := TX5) (N := 10) hx hb hts iX5 hown hK.1 hP 0 rfl rfl 0 (by decide) k10 (fun _ h9 => h9) rfl dX5_digest_8 ?_
      refine va_getN (D := D) (ci := 1) (v := .int L_many) (C := RX1) (T := TX1) (N := 6) hx hb hts iX1 hown hK.1 hP 10 rfl rfl 5 (by decide) n57 (fun _ h9 => h9) rfl dX5_digest_11 ?_
      refine lv_icmp_ge (tgt := 56) hx hb dX5_digest_14 (by decide) (fun c14 => ?_) (fun c14 => ?_)
      · have hf := ifp hf c14
        refine lv_iconst (v := (0 : Int32)) hx hb dX5_digest_56 (by decide) ?_
        refine lv_istore_n (lv' := [(3, .int (0 : Int32)), (0, .ref aB), (1, .long x1)]) hx hb dX5_digest_57 rfl hl (by decide) rfl (fun ls hl => ?_)
        exact b_58 FU x1 (0 : Int32) hf _ _ hS (lv_sub hl [1, 2, 0] rfl)
      · have hf := ifn hf c14
        refine lv_iconst (v := (0 : Int32)) hx hb dX5_digest_17 (by decide) ?_
        refine lv_istore (lv' := [(4, .int (0 : Int32)), (0, .ref aB), (1, .long x1), (3, .int x3)]) hx hb dX5_digest_18 hl (by decide) rfl (fun ls hl => ?_)
        exact b_20 (fX5_digest_h6  n) ih FU x1 x3 (0 : Int32) hf _ _ hS (lv_sub hl [1, 2, 3, 0] rfl)
  unfold fX5_digest at hf
  refine lv_ldc2 (v := 101) hx hb hown q183 dX5_digest_0 ?_
  refine lv_lstore_n (lv' := [(1, .long (101 : Int64)), (0, .ref aB)]) hx hb dX5_digest_3 rfl hl (by decide) rfl (fun ls hl => ?_)
  refine lv_iconst (v := (0 : Int32)) hx hb dX5_digest_4 (by decide) ?_
  refine lv_istore_n (lv' := [(3, .int (0 : Int32)), (1, .long (101 : Int64)), (0, .ref aB)]) hx hb dX5_digest_5 rfl hl (by decide) rfl (fun ls hl => ?_)
  exact b_6 FU (101 : Int64) (0 : Int32) hf _ _ hS (lv_sub hl [2, 1, 0] rfl)

