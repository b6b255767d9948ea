set_option maxHeartbeats 4000000 in
set_option maxRecDepth 100000 in
theorem tX3_findRanks (l : Launch) (D : va_G) (cI cJ cG : ClassId) (aK aL aM aA aK_ranks aK_clashes aL_kinds aL_vs aL_ws aL_roles aL_mates aM_numbers aM_ranks aM_ahead aM_ways aA_row : Nat) (sz : Nat)  (K_keptPlaces : Int32) (K_changes : Int32) (K_hintChange : Int32) (K_hintLine : Int32) (K_hintPlace : Int32) (K_ranks : (Nat → Int32)) (L_many : Int32) (L_roles : (Nat → Int32)) (L_mates : (Nat → Int32)) (M_length : Int32) (M_waysCounted : Int32) (M_ranks : (Nat → Int32)) (A_length : Int32) (A_row : (Nat → Int32)) (out : (Nat → Int32)) (hf : fX3_findRanks K_ranks L_many L_roles L_mates M_ranks A_length A_row = some out) : Met l yX3_findRanks wsX3_findRanks ({ frames := 2, cells := 0, slots := 0, locals := 43 }) (va_Pc [.ref aK] (wP D (tyL cI cJ cG) [(aK, .inr (3, [.ref aL, .ref aM, .ref aA, .ref aK_ranks, .ref aK_clashes, .int K_keptPlaces, .int K_changes, .int K_hintChange, .int K_hintLine, .int K_hintPlace])), (aK_ranks, eI cI 16 K_ranks), (aL, .inr (1, [.ref aL_kinds, .ref aL_vs, .ref aL_ws, .ref aL_roles, .ref aL_mates, .int L_many])), (aL_roles, eI cI 16 L_roles), (aL_mates, eI cI 16 L_mates), (aM, .inr (4, [.ref aM_numbers, .ref aM_ranks, .ref aM_ahead, .int M_length, .ref aM_ways, .int M_waysCounted])), (aM_ranks, eI cI 16 M_ranks), (aA, .inr (0, [.ref aA_row, .int A_length])), (aA_row, eI cI 16 A_row)] sz)) (wQv D  [(aK, .inr (3, [.ref aL, .ref aM, .ref aA, .ref aK_ranks, .ref aK_clashes, .int K_keptPlaces, .int K_changes, .int K_hintChange, .int K_hintLine, .int K_hintPlace])), (aK_ranks, eI cI 16 K_ranks), (aL, .inr (1, [.ref aL_kinds, .ref aL_vs, .ref aL_ws, .ref aL_roles, .ref aL_mates, .int L_many])), (aL_roles, eI cI 16 L_roles), (aL_mates, eI cI 16 L_mates), (aM, .inr (4, [.ref aM_numbers, .ref aM_ranks, .ref aM_ahead, .int M_length, .ref aM_ways, .int M_waysCounted])), (aM_ranks, eI cI 16 M_ranks), (aA, .inr (0, [.ref aA_row, .int A_length])), (aA_row, eI cI 16 A_row)] [(aK, .inr (3, [.ref aL, .ref aM, .ref aA, .ref aK_ranks, .ref aK_clashes, .int K_keptPlaces, .int K_changes, .int K_hintChange, .int K_hintLine, .int K_hintPlace])), (aK_ranks, eI cI 16 out), (aL, .inr (1, [.ref aL_kinds, .ref aL_vs, .ref aL_ws, .ref aL_roles, .ref aL_mates, .int L_many])), (aL_roles, eI cI 16 L_roles), (aL_mates, eI cI 16 L_mates), (aM, .inr (4, [.ref aM_numbers, .ref aM_ranks, .ref aM_ahead, .int M_length, .ref aM_ways, .int M_waysCounted])), (aM_ranks, eI cI 16 M_ranks), (aA, .inr (0, [.ref aA_row, .int A_length])), (aA_row, eI cI 16 A_row)] sz) 0 0 (va_A [(aK, .inr (3, [.ref aL, .ref aM, .ref aA, .ref aK_ranks, .ref aK_clashes, .int K_keptPlaces, .int K_changes, .int K_hintChange, .int K_hintLine, .int K_hintPlace])), (aK_ranks, eI cI 16 K_ranks), (aL, .inr (1, [.ref aL_kinds, .ref aL_vs, .ref aL_ws, .ref aL_roles, .ref aL_mates, .int L_many])), (aL_roles, eI cI 16 L_roles), (aL_mates, eI cI 16 L_mates), (aM, .inr (4, [.ref aM_numbers, .ref aM_ranks, .ref aM_ahead, .int M_length, .ref aM_ways, .int M_waysCounted])), (aM_ranks, eI cI 16 M_ranks), (aA, .inr (0, [.ref aA_row, .int A_length])), (aA_row, eI cI 16 A_row)] sz) := by
  refine Met.ofW (cc := cX3_findRanks) (maxL := 5) (ret := none) (by decide) rfl ?_
  intro p e s m args below meth c s₁ B hml hv
  obtain ⟨rfl, hsz, hP, hK, hD0⟩ := hv
  have hx := B.exec
  have hb := B.bytes
  have hr := B.returns
  have hts := atoms_spec (ws := wsX3_findRanks) B.pre
  have hown : s.vm.findClass RX3 = some m.cls := findClass_of_methodNamed B.named
  have hlocks := B.notSynchronized
  have iX0 : ∀ w ∈ wsX00, w ∈ wsX3_findRanks := by decide +kernel
  have iX3 : ∀ w ∈ wsX30, w ∈ wsX3_findRanks := by decide +kernel
  have k9 := hts (.fieldLink RX3 9 "BlockMarker$Marking" "ranks" "[I") (by decide +kernel)
  have k18 := hts (.fieldLink RX3 18 "BlockMarker$Marking" "lines" "LBlockMarker$Lines;") (by decide +kernel)
  have k22 := hts (.fieldLink RX3 22 "BlockMarker$Marking" "model" "LBlockMarker$Model;") (by decide +kernel)
  have k26 := hts (.fieldLink RX3 26 "BlockMarker$Marking" "answer" "LBlockMarker$Answer;") (by decide +kernel)
  have n69 := va_Nw.use (A := ([.ref aK] : List Value).toArray) rfl (hK.2 (.fieldLinkNest "BlockMarker$Marking" 69 "BlockMarker$Answer" "length" "I" "BlockMarker") (by decide +kernel))
  subst hsz
  have hD := hD0.self (sz := s.heap.size)
  generalize hAe : va_A [(aK, .inr (3, [.ref aL, .ref aM, .ref aA, .ref aK_ranks, .ref aK_clashes, .int K_keptPlaces, .int K_changes, .int K_hintChange, .int K_hintLine, .int K_hintPlace])), (aK_ranks, eI cI 16 K_ranks), (aL, .inr (1, [.ref aL_kinds, .ref aL_vs, .ref aL_ws, .ref aL_roles, .ref aL_mates, .int L_many])), (aL_roles, eI cI 16 L_roles), (aL_mates, eI cI 16 L_mates), (aM, .inr (4, [.ref aM_numbers, .ref aM_ranks, .ref aM_ahead, .int M_length, .ref aM_ways, .int M_waysCounted])), (aM_ranks, eI cI 16 M_ranks), (aA, .inr (0, [.ref aA_row, .int A_length])), (aA_row, eI cI 16 A_row)] s.heap.size = A at hD ⊢
  have hA : ∀ q : Nat, s.heap.size ≤ q → A q := fun q h => by rw [← hAe]; exact Or.inr h
  have hS : va_S A s.heap s.heap [] := va_S.rf
  have hl := lv_entry ([.ref aK]) (n := 5) (Nat.le_of_ble_eq_true rfl)
  rw [lg_entry_eq]
  generalize (lg_sl ([.ref aK]) ++ List.replicate (5 - (lg_sl ([.ref aK])).length) Slot.unset).toArray = ls at hl ⊢
  have hl : lv_has ls 5 [(0, .ref aK)] := hl
  generalize hQQ : MQ below _ _ s 0 0 _ = QQ
  replace hQQ := hQQ.symm
  have b_59 : ∀ (k2 : Int32 → (Nat → Int32) → Int32 → (Nat → Int32) → (Nat → Int32) → (Nat → Int32) → Int32 → (Nat → Int32) → Option ((Nat → Int32))) (hk2 : ∀ (x1 : Int32) (K_ranks : (Nat → Int32)), k2 x1 K_ranks L_many L_roles L_mates M_ranks A_length A_row = some out → ∀ (H : Heap) (locs : List Loc) (ls : Array Slot), va_P D vwCl [(aK, .inr (3, [.ref aL, .ref aM, .ref aA, .ref aK_ranks, .ref aK_clashes, .int K_keptPlaces, .int K_changes, .int K_hintChange, .int K_hintLine, .int K_hintPlace])), (aK_ranks, eI cI 16 K_ranks), (aL, .inr (1, [.ref aL_kinds, .ref aL_vs, .ref aL_ws, .ref aL_roles, .ref aL_mates, .int L_many])), (aL_roles, eI cI 16 L_roles), (aL_mates, eI cI 16 L_mates), (aM, .inr (4, [.ref aM_numbers, .ref aM_ranks, .ref aM_ahead, .int M_length, .ref aM_ways, .int M_waysCounted])), (aM_ranks, eI cI 16 M_ranks), (aA, .inr (0, [.ref aA_row, .int A_length])), (aA_row, eI cI 16 A_row)] H → va_D A [(aK, .inr (3, [.ref aL, .ref aM, .ref aA, .ref aK_ranks, .ref aK_clashes, .int K_keptPlaces, .int K_changes, .int K_hintChange, .int K_hintLine, .int K_hintPlace])), (aK_ranks, eI cI 16 K_ranks), (aL, .inr (1, [.ref aL_kinds, .ref aL_vs, .ref aL_ws, .ref aL_roles, .ref aL_mates, .int L_many])), (aL_roles, eI cI 16 L_roles), (aL_mates, eI cI 16 L_mates), (aM, .inr (4, [.ref aM_numbers, .ref aM_ranks, .ref aM_ahead, .int M_length, .ref aM_ways, .int M_waysCounted])), (aM_ranks, eI cI 16 M_ranks), (aA, .inr (0, [.ref aA_row, .int A_length])), (aA_row, eI cI 16 A_row)] → va_S A s.heap H locs → lv_has ls 5 [(0, .ref aK), (1, .int x1)] → W p l e (headSpec wsX3_findRanks { frames := 2, cells := 0, slots := 0, locals := 43 }).room s m ([.ref aK] : List Value).toArray below meth c H locs 0 0 QQ (F0 m 2 ls [])), ∀ (x1 : Int32) (x2 : Int32) (x3 : Int32) (t0 : Int32) (K_ranks : (Nat → Int32)), fX3_findRanks_b59 k2 x1 x2 x3 t0 K_ranks L_many L_roles L_mates M_ranks A_length A_row = some out → ∀ (H : Heap) (locs : List Loc) (ls : Array Slot), va_P D vwCl [(aK, .inr (3, [.ref aL, .ref aM, .ref aA, .ref aK_ranks, .ref aK_clashes, .int K_keptPlaces, .int K_changes, .int K_hintChange, .int K_hintLine, .int K_hintPlace])), (aK_ranks, eI cI 16 K_ranks), (aL, .inr (1, [.ref aL_kinds, .ref aL_vs, .ref aL_ws, .ref aL_roles, .ref aL_mates, .int L_many])), (aL_roles, eI cI 16 L_roles), (aL_mates, eI cI 16 L_mates), (aM, .inr (4, [.ref aM_numbers, .ref aM_ranks, .ref aM_ahead, .int M_length, .ref aM_ways, .int M_waysCounted])), (aM_ranks, eI cI 16 M_ranks), (aA, .inr (0, [.ref aA_row, .int A_length])), (aA_row, eI cI 16 A_row)] H → va_D A [(aK, .inr (3, [.ref aL, .ref aM, .ref aA, .ref aK_ranks, .ref aK_clashes, .int K_keptPlaces, .int K_changes, .int K_hintChange, .int K_hintLine, .int K_hintPlace])), (aK_ranks, eI cI 16 K_ranks), (aL, .inr (1, [.ref aL_kinds, .ref aL_vs, .ref aL_ws, .ref aL_roles, .ref aL_mates, .int L_many])), (aL_roles, eI cI 16 L_roles), (aL_mates, eI cI 16 L_mates), (aM, .inr (4, [.ref aM_numbers, .ref aM_ranks, .ref aM_ahead, .int M_length, .ref aM_ways, .int M_waysCounted])), (aM_ranks, eI cI 16 M_ranks), (aA, .inr (0, [.ref aA_row, .int A_length])), (aA_row, eI cI 16 A_row)] → va_S A s.heap H locs → lv_has ls 5 [(0, .ref aK), (1, .int x1), (2, .int x2), (3, .int x3)] → W p l e (headSpec wsX3_findRanks { frames := 2, cells := 0, slots := 0, locals := 43 }).room s m ([.ref aK] : List Value).toArray below meth c H locs 0 0 QQ (F0 m 59 ls [.int t0]) := by
    intro k2 hk2 x1 x2 x3 t0 K_ranks hf H locs ls hP hD hS hl
    unfold fX3_findRanks_b59 at hf
    refine lv_istore (lv' := [(4, .int t0), (0, .ref aK), (1, .int x1), (2, .int x2), (3, .int x3)]) hx hb dX3_findRanks_59 hl (by decide) rfl (fun ls hl => ?_)
    refine lv_aload_n hx hb dX3_findRanks_61 rfl (lv_at hl 1 rfl) ?_
    refine va_get (D := D) (ci := 3) (v := .ref aK_ranks) (C := RX3) (T := TX3) (N := 10) hx hb hts iX3 hown hK.1 hP 0 rfl rfl 3 (by decide) k9 (fun _ h9 => h9) rfl dX3_findRanks_62 ?_
    refine lv_iload_n hx hb dX3_findRanks_65 rfl (lv_at hl 2 rfl) ?_
    refine lv_aload_n hx hb dX3_findRanks_66 rfl (lv_at hl 1 rfl) ?_
    refine va_get (D := D) (ci := 3) (v := .ref aM) (C := RX3) (T := TX3) (N := 10) hx hb hts iX3 hown hK.1 hP 0 rfl rfl 1 (by decide) k22 (fun _ h9 => h9) rfl dX3_findRanks_67 ?_
    refine lv_iload hx hb dX3_findRanks_70 (lv_at hl 0 rfl) ?_
    refine lv_if_eq (tgt := 79) hx hb dX3_findRanks_72 (by decide) (fun c72 => ?_) (fun c72 => ?_)
    · have hf := ifp hf c72
      refine lv_iload_n hx hb dX3_findRanks_79 rfl (lv_at hl 3 rfl) ?_
      refine bnd hf (fun o80 e80 hf => ?_)
      refine rdVi (As := [.int x2]) (rest := [.int x1, .ref aK_ranks]) ⟨hx, hb, hml, hown, hts⟩ (tX4_rankOf l D cI cJ cG aM aM_numbers aM_ranks aM_ahead aM_ways H x2 M_length M_waysCounted M_ranks o80 e80) (cwV 1 hts gX3_findRanks_X4_rankOf rfl rfl rfl (by decide +kernel) ⟨Nat.le_of_ble_eq_true rfl, Nat.le_of_ble_eq_true rfl⟩) (va_recv (ci := 4) (q0 := 5) hK.1 hP rfl rfl) hK (hP.sub (ws' := [(aM, .inr (4, [.ref aM_numbers, .ref aM_ranks, .ref aM_ahead, .int M_length, .ref aM_ways, .int M_waysCounted])), (aM_ranks, eI cI 16 M_ranks)]) [5, 6] rfl) rfl hl.1 rfl (lv_room (Nat.le_of_ble_eq_true rfl)) dX3_findRanks_80 ⟨Nat.le_of_ble_eq_true rfl, Nat.le_of_ble_eq_true rfl⟩ hS (fun locs hS => ?_)
      refine ckE hf (fun h83 hf => ?_)
      refine va_iast hx hb hK.1 hP hD hS 1 0 rfl rfl (inB_in h83) dX3_findRanks_83 (fun H locs hP hD hS => ?_)
      have hP : va_P D vwCl [(aK, .inr (3, [.ref aL, .ref aM, .ref aA, .ref aK_ranks, .ref aK_clashes, .int K_keptPlaces, .int K_changes, .int K_hintChange, .int K_hintLine, .int K_hintPlace])), (aK_ranks, eI cI 16 (upd K_ranks (x1).toNatClampNeg o80)), (aL, .inr (1, [.ref aL_kinds, .ref aL_vs, .ref aL_ws, .ref aL_roles, .ref aL_mates, .int L_many])), (aL_roles, eI cI 16 L_roles), (aL_mates, eI cI 16 L_mates), (aM, .inr (4, [.ref aM_numbers, .ref aM_ranks, .ref aM_ahead, .int M_length, .ref aM_ways, .int M_waysCounted])), (aM_ranks, eI cI 16 M_ranks), (aA, .inr (0, [.ref aA_row, .int A_length])), (aA_row, eI cI 16 A_row)] H := hP
      have hD : va_D A [(aK, .inr (3, [.ref aL, .ref aM, .ref aA, .ref aK_ranks, .ref aK_clashes, .int K_keptPlaces, .int K_changes, .int K_hintChange, .int K_hintLine, .int K_hintPlace])), (aK_ranks, eI cI 16 (upd K_ranks (x1).toNatClampNeg o80)), (aL, .inr (1, [.ref aL_kinds, .ref aL_vs, .ref aL_ws, .ref aL_roles, .ref aL_mates, .int L_many])), (aL_roles, eI cI 16 L_roles), (aL_mates, eI cI 16 L_mates), (aM, .inr (4, [.ref aM_numbers, .ref aM_ranks, .ref aM_ahead, .int M_length, .ref aM_ways, .int M_waysCounted])), (aM_ranks, eI cI 16 M_ranks), (aA, .inr (0, [.ref aA_row, .int A_length])), (aA_row, eI cI 16 A_row)] := hD
      refine lv_iinc (v := (x1 + (1 : Int32))) (lv' := [(1, .int (x1 + (1 : Int32))), (4, .int t0), (0, .ref aK), (2, .int x2), (3, .int x3)]) hx hb dX3_findRanks_84 hl (k := 2) rfl rfl (by decide) rfl (fun ls hl => ?_)
      refine lv_goto (tgt := 2) hx hb dX3_findRanks_87 (by decide) ?_
      exact hk2 (x1 + (1 : Int32)) (upd K_ranks (x1).toNatClampNeg o80) hf _ _ _ hP hD hS (lv_sub hl [2, 0] rfl)
    · have hf := ifn hf c72
      refine lv_iload_n hx hb dX3_findRanks_75 rfl (lv_at hl 4 rfl) ?_
      refine lv_goto (tgt := 80) hx hb dX3_findRanks_76 (by decide) ?_
      refine bnd hf (fun o80 e80 hf => ?_)
      refine rdVi (As := [.int x3]) (rest := [.int x1, .ref aK_ranks]) ⟨hx, hb, hml, hown, hts⟩ (tX4_rankOf l D cI cJ cG aM aM_numbers aM_ranks aM_ahead aM_ways H x3 M_length M_waysCounted M_ranks o80 e80) (cwV 1 hts gX3_findRanks_X4_rankOf rfl rfl rfl (by decide +kernel) ⟨Nat.le_of_ble_eq_true rfl, Nat.le_of_ble_eq_true rfl⟩) (va_recv (ci := 4) (q0 := 5) hK.1 hP rfl rfl) hK (hP.sub (ws' := [(aM, .inr (4, [.ref aM_numbers, .ref aM_ranks, .ref aM_ahead, .int M_length, .ref aM_ways, .int M_waysCounted])), (aM_ranks, eI cI 16 M_ranks)]) [5, 6] rfl) rfl hl.1 rfl (lv_room (Nat.le_of_ble_eq_true rfl)) dX3_findRanks_80 ⟨Nat.le_of_ble_eq_true rfl, Nat.le_of_ble_eq_true rfl⟩ hS (fun locs hS => ?_)
      refine ckE hf (fun h83 hf => ?_)
      refine va_iast hx hb hK.1 hP hD hS 1 0 rfl rfl (inB_in h83) dX3_findRanks_83 (fun H locs hP hD hS => ?_)
      have hP : va_P D vwCl [(aK, .inr (3, [.ref aL, .ref aM, .ref aA, .ref aK_ranks, .ref aK_clashes, .int K_keptPlaces, .int K_changes, .int K_hintChange, .int K_hintLine, .int K_hintPlace])), (aK_ranks, eI cI 16 (upd K_ranks (x1).toNatClampNeg o80)), (aL, .inr (1, [.ref aL_kinds, .ref aL_vs, .ref aL_ws, .ref aL_roles, .ref aL_mates, .int L_many])), (aL_roles, eI cI 16 L_roles), (aL_mates, eI cI 16 L_mates), (aM, .inr (4, [.ref aM_numbers, .ref aM_ranks, .ref aM_ahead, .int M_length, .ref aM_ways, .int M_waysCounted])), (aM_ranks, eI cI 16 M_ranks), (aA, .inr (0, [.ref aA_row, .int A_length])), (aA_row, eI cI 16 A_row)] H := hP
      have hD : va_D A [(aK, .inr (3, [.ref aL, .ref aM, .ref aA, .ref aK_ranks, .ref aK_clashes, .int K_keptPlaces, .int K_changes, .int K_hintChange, .int K_hintLine, .int K_hintPlace])), (aK_ranks, eI cI 16 (upd K_ranks (x1).toNatClampNeg o80)), (aL, .inr (1, [.ref aL_kinds, .ref aL_vs, .ref aL_ws, .ref aL_roles, .ref aL_mates, .int L_many])), (aL_roles, eI cI 16 L_roles), (aL_mates, eI cI 16 L_mates), (aM, .inr (4, [.ref aM_numbers, .ref aM_ranks, .ref aM_ahead, .int M_length, .ref aM_ways, .int M_waysCounted])), (aM_ranks, eI cI 16 M_ranks), (aA, .inr (0, [.ref aA_row, .int A_length])), (aA_row, eI cI 16 A_row)] := hD
      refine lv_iinc (v := (x1 + (1 : Int32))) (lv' := [(1, .int (x1 + (1 : Int32))), (4, .int t0), (0, .ref aK), (2, .int x2), (3, .int x3)]) hx hb dX3_findRanks_84 hl (k := 2) rfl rfl (by decide) rfl (fun ls hl => ?_)
      refine lv_goto (tgt := 2) hx hb dX3_findRanks_87 (by decide) ?_
      exact hk2 (x1 + (1 : Int32)) (upd K_ranks (x1).toNatClampNeg o80) hf _ _ _ hP hD hS (lv_sub hl [2, 0] rfl)
  have b_2 : ∀ (n : Nat), ∀ (x1 : Int32) (K_ranks : (Nat → Int32)), fX3_findRanks_h2  n x1 K_ranks L_many L_roles L_mates M_ranks A_length A_row = some out → ∀ (H : Heap) (locs : List Loc) (ls : Array Slot), va_P D vwCl [(aK, .inr (3, [.ref aL, .ref aM, .ref aA, .ref aK_ranks, .ref aK_clashes, .int K_keptPlaces, .int K_changes, .int K_hintChange, .int K_hintLine, .int K_hintPlace])), (aK_ranks, eI cI 16 K_ranks), (aL, .inr (1, [.ref aL_kinds, .ref aL_vs, .ref aL_ws, .ref aL_roles, .ref aL_mates, .int L_many])), (aL_roles, eI cI 16 L_roles), (aL_mates, eI cI 16 L_mates), (aM, .inr (4, [.ref aM_numbers, .ref aM_ranks, .ref aM_ahead, .int M_length, .ref aM_ways, .int M_waysCounted])), (aM_ranks, eI cI 16 M_ranks), (aA, .inr (0, [.ref aA_row, .int A_length])), (aA_row, eI cI 16 A_row)] H → va_D A [(aK, .inr (3, [.ref aL, .ref aM, .ref aA, .ref aK_ranks, .ref aK_clashes, .int K_keptPlaces, .int K_changes, .int K_hintChange, .int K_hintLine, .int K_hintPlace])), (aK_ranks, eI cI 16 K_ranks), (aL, .inr (1, [.ref aL_kinds, .ref aL_vs, .ref aL_ws, .ref aL_roles, .ref aL_mates, .int L_many])), (aL_roles, eI cI 16 L_roles), (aL_mates, eI cI 16 L_mates), (aM, .inr (4, [.ref aM_numbers, .ref aM_ranks, .ref aM_ahead, .int M_length, .ref aM_ways, .int M_waysCounted])), (aM_ranks, eI cI 16 M_ranks), (aA, .inr (0, [.ref aA_row, .int A_length])), (aA_row, eI cI 16 A_row)] → va_S A s.heap H locs → lv_has ls 5 [(0, .ref aK), (1, .int x1)] → W p l e (headSpec wsX3_findRanks { frames := 2, cells := 0, slots := 0, locals := 43 }).room s m ([.ref aK] : List Value).toArray below meth c H locs 0 0 QQ (F0 m 2 ls []) := by
    intro  n
    induction n with
    | zero => intro x1 K_ranks hf; exact nomatch (show (none : Option ((Nat → Int32))) = some out from hf)
    | succ n ih =>
      intro x1 K_ranks hf H locs ls hP hD hS hl
      replace hf : uX3_findRanks_h2  (fX3_findRanks_h2  n) x1 K_ranks L_many L_roles L_mates M_ranks A_length A_row = some out := hf
      unfold uX3_findRanks_h2 at hf
      refine lv_iload_n hx hb dX3_findRanks_2 rfl (lv_at hl 1 rfl) ?_
      refine lv_aload_n hx hb dX3_findRanks_3 rfl (lv_at hl 0 rfl) ?_
      refine va_get (D := D) (ci := 3) (v := .ref aA) (C := RX3) (T := TX3) (N := 10) hx hb hts iX3 hown hK.1 hP 0 rfl rfl 2 (by decide) k26 (fun _ h9 => h9) rfl dX3_findRanks_4 ?_
      refine va_getN (D := D) (ci := 0) (v := .int A_length) (C := RX0) (T := TX0) (N := 2) hx hb hts iX0 hown hK.1 hP 7 rfl rfl 1 (by decide) n69 (fun _ h9 => h9) rfl dX3_findRanks_7 ?_
      refine lv_icmp_ge (tgt := 90) hx hb dX3_findRanks_10 (by decide) (fun c10 => ?_) (fun c10 => ?_)
      · have hf := ifp hf c10
        rw [hQQ]
        exact W.vret hx hb hr (fun t ht hW => by rw [← Option.some.inj hf]; rw [← hAe] at hD hS; exact ⟨⟨(), rfl, trivial, by rw [ht]; exact hP, hD⟩, hS.F ht⟩) hS.2.2 dX3_findRanks_90
      · have hf := ifn hf c10
        refine lv_aload_n hx hb dX3_findRanks_13 rfl (lv_at hl 0 rfl) ?_
        refine va_get (D := D) (ci := 3) (v := .ref aA) (C := RX3) (T := TX3) (N := 10) hx hb hts iX3 hown hK.1 hP 0 rfl rfl 2 (by decide) k26 (fun _ h9 => h9) rfl dX3_findRanks_14 ?_
        refine lv_iload_n hx hb dX3_findRanks_17 rfl (lv_at hl 1 rfl) ?_
        refine bnd hf (fun o18 e18 hf => ?_)
        refine rdVi (As := [.int x1]) (rest := []) ⟨hx, hb, hml, hown, hts⟩ (tX0_lineAt l D cI cJ cG aA aA_row H x1 A_length A_row o18 e18) (cwV 1 hts gX3_findRanks_X0_lineAt rfl rfl rfl (by decide +kernel) ⟨Nat.le_of_ble_eq_true rfl, Nat.le_of_ble_eq_true rfl⟩) (va_recv (ci := 0) (q0 := 7) hK.1 hP rfl rfl) hK (hP.sub (ws' := [(aA, .inr (0, [.ref aA_row, .int A_length])), (aA_row, eI cI 16 A_row)]) [7, 8] rfl) rfl hl.1 rfl (lv_room (Nat.le_of_ble_eq_true rfl)) dX3_findRanks_18 ⟨Nat.le_of_ble_eq_true rfl, Nat.le_of_ble_eq_true rfl⟩ hS (fun locs hS => ?_)
        refine lv_istore_n (lv' := [(2, .int o18), (0, .ref aK), (1, .int x1)]) hx hb dX3_findRanks_21 rfl hl (by decide) rfl (fun ls hl => ?_)
        refine lv_aload_n hx hb dX3_findRanks_22 rfl (lv_at hl 1 rfl) ?_
        refine va_get (D := D) (ci := 3) (v := .ref aL) (C := RX3) (T := TX3) (N := 10) hx hb hts iX3 hown hK.1 hP 0 rfl rfl 0 (by decide) k18 (fun _ h9 => h9) rfl dX3_findRanks_23 ?_
        refine lv_iload_n hx hb dX3_findRanks_26 rfl (lv_at hl 0 rfl) ?_
        refine bnd hf (fun o27 e27 hf => ?_)
        refine rdVi (As := [.int o18]) (rest := []) ⟨hx, hb, hml, hown, hts⟩ (tX1_mateOf l D cI cJ cG aL aL_kinds aL_vs aL_ws aL_roles aL_mates H o18 L_many L_mates o27 e27) (cwV 1 hts gX3_findRanks_X1_mateOf rfl rfl rfl (by decide +kernel) ⟨Nat.le_of_ble_eq_true rfl, Nat.le_of_ble_eq_true rfl⟩) (va_recv (ci := 1) (q0 := 2) hK.1 hP rfl rfl) hK (hP.sub (ws' := [(aL, .inr (1, [.ref aL_kinds, .ref aL_vs, .ref aL_ws, .ref aL_roles, .ref aL_mates, .int L_many])), (aL_mates, eI cI 16 L_mates)]) [2, 4] rfl) rfl hl.1 rfl (lv_room (Nat.le_of_ble_eq_true rfl)) dX3_findRanks_27 ⟨Nat.le_of_ble_eq_true rfl, Nat.le_of_ble_eq_true rfl⟩ hS (fun locs hS => ?_)
        refine lv_istore_n (lv' := [(3, .int o27), (2, .int o18), (0, .ref aK), (1, .int x1)]) hx hb dX3_findRanks_30 rfl hl (by decide) rfl (fun ls hl => ?_)
        refine lv_aload_n hx hb dX3_findRanks_31 rfl (lv_at hl 2 rfl) ?_
        refine va_get (D := D) (ci := 3) (v := .ref aL) (C := RX3) (T := TX3) (N := 10) hx hb hts iX3 hown hK.1 hP 0 rfl rfl 0 (by decide) k18 (fun _ h9 => h9) rfl dX3_findRanks_32 ?_
        refine lv_iload_n hx hb dX3_findRanks_35 rfl (lv_at hl 1 rfl) ?_
        refine bnd hf (fun o36 e36 hf => ?_)
        refine rdVi (As := [.int o18]) (rest := []) ⟨hx, hb, hml, hown, hts⟩ (tX1_roleOf l D cI cJ cG aL aL_kinds aL_vs aL_ws aL_roles aL_mates H o18 L_many L_roles o36 e36) (cwV 1 hts gX3_findRanks_X1_roleOf rfl rfl rfl (by decide +kernel) ⟨Nat.le_of_ble_eq_true rfl, Nat.le_of_ble_eq_true rfl⟩) (va_recv (ci := 1) (q0 := 2) hK.1 hP rfl rfl) hK (hP.sub (ws' := [(aL, .inr (1, [.ref aL_kinds, .ref aL_vs, .ref aL_ws, .ref aL_roles, .ref aL_mates, .int L_many])), (aL_roles, eI cI 16 L_roles)]) [2, 3] rfl) rfl hl.1 rfl (lv_room (Nat.le_of_ble_eq_true rfl)) dX3_findRanks_36 ⟨Nat.le_of_ble_eq_true rfl, Nat.le_of_ble_eq_true rfl⟩ hS (fun locs hS => ?_)
        refine lv_iconst (v := (2 : Int32)) hx hb dX3_findRanks_39 (by decide) ?_
        refine lv_icmp_ne (tgt := 58) hx hb dX3_findRanks_40 (by decide) (fun c40 => ?_) (fun c40 => ?_)
        · have hf := ifn hf c40
          refine lv_iconst (v := (0 : Int32)) hx hb dX3_findRanks_58 (by decide) ?_
          exact b_59 (fX3_findRanks_h2  n) ih x1 o18 o27 (0 : Int32) K_ranks hf _ _ _ hP hD hS (lv_sub hl [2, 3, 1, 0] rfl)
        · have hf := ifp hf c40
          refine lv_aload_n hx hb dX3_findRanks_43 rfl (lv_at hl 2 rfl) ?_
          refine va_get (D := D) (ci := 3) (v := .ref aA) (C := RX3) (T := TX3) (N := 10) hx hb hts iX3 hown hK.1 hP 0 rfl rfl 2 (by decide) k26 (fun _ h9 => h9) rfl dX3_findRanks_44 ?_
          refine lv_iload_n hx hb dX3_findRanks_47 rfl (lv_at hl 0 rfl) ?_
          refine bnd hf (fun o48 e48 hf => ?_)
          refine rdVi (As := [.int o27]) (rest := []) ⟨hx, hb, hml, hown, hts⟩ (tX0_holds l D cI cJ cG aA aA_row H o27 A_length A_row o48 e48) (cwV 1 hts gX3_findRanks_X0_holds rfl rfl rfl (by decide +kernel) ⟨Nat.le_of_ble_eq_true rfl, Nat.le_of_ble_eq_true rfl⟩) (va_recv (ci := 0) (q0 := 7) hK.1 hP rfl rfl) hK (hP.sub (ws' := [(aA, .inr (0, [.ref aA_row, .int A_length])), (aA_row, eI cI 16 A_row)]) [7, 8] rfl) rfl hl.1 rfl (lv_room (Nat.le_of_ble_eq_true rfl)) dX3_findRanks_48 ⟨Nat.le_of_ble_eq_true rfl, Nat.le_of_ble_eq_true rfl⟩ hS (fun locs hS => ?_)
          refine lv_if_ne (tgt := 58) hx hb dX3_findRanks_51 (by decide) (fun c51 => ?_) (fun c51 => ?_)
          · have hf := ifn hf c51
            refine lv_iconst (v := (0 : Int32)) hx hb dX3_findRanks_58 (by decide) ?_
            exact b_59 (fX3_findRanks_h2  n) ih x1 o18 o27 (0 : Int32) K_ranks hf _ _ _ hP hD hS (lv_sub hl [2, 3, 1, 0] rfl)
          · have hf := ifp hf c51
            refine lv_iconst (v := (1 : Int32)) hx hb dX3_findRanks_54 (by decide) ?_
            refine lv_goto (tgt := 59) hx hb dX3_findRanks_55 (by decide) ?_
            exact b_59 (fX3_findRanks_h2  n) ih x1 o18 o27 (1 : Int32) K_ranks hf _ _ _ hP hD hS (lv_sub hl [2, 3, 1, 0] rfl)
  generalize hHH : s.heap = H at hP ⊢
  have hS : va_S A s.heap H [] := by rw [← hHH]; exact va_S.rf
  generalize ([] : List Loc) = locs at hS ⊢
  unfold fX3_findRanks at hf
  refine lv_iconst (v := (0 : Int32)) hx hb dX3_findRanks_0 (by decide) ?_
  refine lv_istore_n (lv' := [(1, .int (0 : Int32)), (0, .ref aK)]) hx hb dX3_findRanks_1 rfl hl (by decide) rfl (fun ls hl => ?_)
  exact b_2 FU (0 : Int32) K_ranks hf _ _ _ hP hD hS (lv_sub hl [1, 0] rfl)

set_option maxHeartbeats 4000000 in
set_option maxRecDepth 100000 in
theorem tX3_findClashes (l : Launch) (D : va_G) (cI cJ cG : ClassId) (aK aL aM aA aK_ranks aK_clashes aM_numbers aM_ranks aM_ahead aM_ways aA_row : Nat) (sz : Nat)  (K_keptPlaces : Int32) (K_changes : Int32) (K_hintChange : Int32) (K_hintLine : Int32) (K_hintPlace : Int32) (K_ranks : (Nat → Int32)) (K_clashes : (Nat → Int32)) (M_length : Int32) (M_waysCounted : Int32) (M_ahead : (Nat → Int32)) (A_length : Int32) (out : (Nat → Int32)) (hf : fX3_findClashes K_ranks K_clashes M_length M_ahead A_length = some out) : Met l yX3_findClashes wsX3_findClashes ({ frames := 1, cells := 0, slots := 0, locals := 22 }) (va_Pc [.ref aK] (wP D (tyL cI cJ cG) [(aK, .inr (3, [.ref aL, .ref aM, .ref aA, .ref aK_ranks, .ref aK_clashes, .int K_keptPlaces, .int K_changes, .int K_hintChange, .int K_hintLine, .int K_hintPlace])), (aK_ranks, eI cI 16 K_ranks), (aK_clashes, eI cI 16 K_clashes), (aM, .inr (4, [.ref aM_numbers, .ref aM_ranks, .ref aM_ahead, .int M_length, .ref aM_ways, .int M_waysCounted])), (aM_ahead, eI cI 12 M_ahead), (aA, .inr (0, [.ref aA_row, .int A_length]))] sz)) (wQv D  [(aK, .inr (3, [.ref aL, .ref aM, .ref aA, .ref aK_ranks, .ref aK_clashes, .int K_keptPlaces, .int K_changes, .int K_hintChange, .int K_hintLine, .int K_hintPlace])), (aK_ranks, eI cI 16 K_ranks), (aK_clashes, eI cI 16 K_clashes), (aM, .inr (4, [.ref aM_numbers, .ref aM_ranks, .ref aM_ahead, .int M_length, .ref aM_ways, .int M_waysCounted])), (aM_ahead, eI cI 12 M_ahead), (aA, .inr (0, [.ref aA_row, .int A_length]))] [(aK, .inr (3, [.ref aL, .ref aM, .ref aA, .ref aK_ranks, .ref aK_clashes, .int K_keptPlaces, .int K_changes, .int K_hintChange, .int K_hintLine, .int K_hintPlace])), (aK_ranks, eI cI 16 K_ranks), (aK_clashes, eI cI 16 out), (aM, .inr (4, [.ref aM_numbers, .ref aM_ranks, .ref aM_ahead, .int M_length, .ref aM_ways, .int M_waysCounted])), (aM_ahead, eI cI 12 M_ahead), (aA, .inr (0, [.ref aA_row, .int A_length]))] sz) 0 0 (va_A [(aK, .inr (3, [.ref aL, .ref aM, .ref aA, .ref aK_ranks, .ref aK_clashes, .int K_keptPlaces, .int K_changes, .int K_hintChange, .int K_hintLine, .int K_hintPlace])), (aK_ranks, eI cI 16 K_ranks), (aK_clashes, eI cI 16 K_clashes), (aM, .inr (4, [.ref aM_numbers, .ref aM_ranks, .ref aM_ahead, .int M_length, .ref aM_ways, .int M_waysCounted])), (aM_ahead, eI cI 12 M_ahead), (aA, .inr (0, [.ref aA_row, .int A_length]))] sz) := by
  refine Met.ofW (cc := cX3_findClashes) (maxL := 4) (ret := none) (by decide) rfl ?_
  intro p e s m args below meth c s₁ B hml hv
  obtain ⟨rfl, hsz, hP, hK, hD0⟩ := hv
  have hx := B.exec
  have hb := B.bytes
  have hr := B.returns
  have hts := atoms_spec (ws := wsX3_findClashes) B.pre
  have hown : s.vm.findClass RX3 = some m.cls := findClass_of_methodNamed B.named
  have hlocks := B.notSynchronized
  have iX0 : ∀ w ∈ wsX00, w ∈ wsX3_findClashes := by decide +kernel
  have iX3 : ∀ w ∈ wsX30, w ∈ wsX3_findClashes := by decide +kernel
  have k9 := hts (.fieldLink RX3 9 "BlockMarker$Marking" "ranks" "[I") (by decide +kernel)
  have k15 := hts (.fieldLink RX3 15 "BlockMarker$Marking" "clashes" "[I") (by decide +kernel)
  have k22 := hts (.fieldLink RX3 22 "BlockMarker$Marking" "model" "LBlockMarker$Model;") (by decide +kernel)
  have k26 := hts (.fieldLink RX3 26 "BlockMarker$Marking" "answer" "LBlockMarker$Answer;") (by decide +kernel)
  have n69 := va_Nw.use (A := ([.ref aK] : List Value).toArray) rfl (hK.2 (.fieldLinkNest "BlockMarker$Marking" 69 "BlockMarker$Answer" "length" "I" "BlockMarker") (by decide +kernel))
  subst hsz
  have hD := hD0.self (sz := s.heap.size)
  generalize hAe : va_A [(aK, .inr (3, [.ref aL, .ref aM, .ref aA, .ref aK_ranks, .ref aK_clashes, .int K_keptPlaces, .int K_changes, .int K_hintChange, .int K_hintLine, .int K_hintPlace])), (aK_ranks, eI cI 16 K_ranks), (aK_clashes, eI cI 16 K_clashes), (aM, .inr (4, [.ref aM_numbers, .ref aM_ranks, .ref aM_ahead, .int M_length, .ref aM_ways, .int M_waysCounted])), (aM_ahead, eI cI 12 M_ahead), (aA, .inr (0, [.ref aA_row, .int A_length]))] s.heap.size = A at hD ⊢
  have hA : ∀ q : Nat, s.heap.size ≤ q → A q := fun q h => by rw [← hAe]; exact Or.inr h
  have hS : va_S A s.heap s.heap [] := va_S.rf
  have hl := lv_entry ([.ref aK]) (n := 4) (Nat.le_of_ble_eq_true rfl)
  rw [lg_entry_eq]
  generalize (lg_sl ([.ref aK]) ++ List.replicate (4 - (lg_sl ([.ref aK])).length) Slot.unset).toArray = ls at hl ⊢
  have hl : lv_has ls 4 [(0, .ref aK)] := hl
  generalize hQQ : MQ below _ _ s 0 0 _ = QQ
  replace hQQ := hQQ.symm
  have b_19 : ∀ (k2 : Int32 → (Nat → Int32) → (Nat → Int32) → Int32 → (Nat → Int32) → Int32 → Option ((Nat → Int32))) (hk2 : ∀ (x1 : Int32) (K_clashes : (Nat → Int32)), k2 x1 K_ranks K_clashes M_length M_ahead A_length = some out → ∀ (H : Heap) (locs : List Loc) (ls : Array Slot), va_P D vwCl [(aK, .inr (3, [.ref aL, .ref aM, .ref aA, .ref aK_ranks, .ref aK_clashes, .int K_keptPlaces, .int K_changes, .int K_hintChange, .int K_hintLine, .int K_hintPlace])), (aK_ranks, eI cI 16 K_ranks), (aK_clashes, eI cI 16 K_clashes), (aM, .inr (4, [.ref aM_numbers, .ref aM_ranks, .ref aM_ahead, .int M_length, .ref aM_ways, .int M_waysCounted])), (aM_ahead, eI cI 12 M_ahead), (aA, .inr (0, [.ref aA_row, .int A_length]))] H → va_D A [(aK, .inr (3, [.ref aL, .ref aM, .ref aA, .ref aK_ranks, .ref aK_clashes, .int K_keptPlaces, .int K_changes, .int K_hintChange, .int K_hintLine, .int K_hintPlace])), (aK_ranks, eI cI 16 K_ranks), (aK_clashes, eI cI 16 K_clashes), (aM, .inr (4, [.ref aM_numbers, .ref aM_ranks, .ref aM_ahead, .int M_length, .ref aM_ways, .int M_waysCounted])), (aM_ahead, eI cI 12 M_ahead), (aA, .inr (0, [.ref aA_row, .int A_length]))] → va_S A s.heap H locs → lv_has ls 4 [(0, .ref aK), (1, .int x1)] → W p l e (headSpec wsX3_findClashes { frames := 1, cells := 0, slots := 0, locals := 22 }).room s m ([.ref aK] : List Value).toArray below meth c H locs 0 0 QQ (F0 m 2 ls [])) (n : Nat), ∀ (x1 : Int32) (x2 : Int32) (x3 : Int32) (K_clashes : (Nat → Int32)), fX3_findClashes_h19 k2 n x1 x2 x3 K_ranks K_clashes M_length M_ahead A_length = some out → ∀ (H : Heap) (locs : List Loc) (ls : Array Slot), va_P D vwCl [(aK, .inr (3, [.ref aL, .ref aM, .ref aA, .ref aK_ranks, .ref aK_clashes, .int K_keptPlaces, .int K_changes, .int K_hintChange, .int K_hintLine, .int K_hintPlace])), (aK_ranks, eI cI 16 K_ranks), (aK_clashes, eI cI 16 K_clashes), (aM, .inr (4, [.ref aM_numbers, .ref aM_ranks, .ref aM_ahead, .int M_length, .ref aM_ways, .int M_waysCounted])), (aM_ahead, eI cI 12 M_ahead), (aA, .inr (0, [.ref aA_row, .int A_length]))] H → va_D A [(aK, .inr (3, [.ref aL, .ref aM, .ref aA, .ref aK_ranks, .ref aK_clashes, .int K_keptPlaces, .int K_changes, .int K_hintChange, .int K_hintLine, .int K_hintPlace])), (aK_ranks, eI cI 16 K_ranks), (aK_clashes, eI cI 16 K_clashes), (aM, .inr (4, [.ref aM_numbers, .ref aM_ranks, .ref aM_ahead, .int M_length, .ref aM_ways, .int M_waysCounted])), (aM_ahead, eI cI 12 M_ahead), (aA, .inr (0, [.ref aA_row, .int A_length]))] → va_S A s.heap H locs → lv_has ls 4 [(0, .ref aK), (1, .int x1), (2, .int x2), (3, .int x3)] → W p l e (headSpec wsX3_findClashes { frames := 1, cells := 0, slots := 0, locals := 22 }).room s m ([.ref aK] : List Value).toArray below meth c H locs 0 0 QQ (F0 m 19 ls []) := by
    intro k2 hk2 n
    induction n with
    | zero => intro x1 x2 x3 K_clashes hf; exact nomatch (show (none : Option ((Nat → Int32))) = some out from hf)
    | succ n ih =>
      intro x1 x2 x3 K_clashes hf H locs ls hP hD hS hl
      replace hf : uX3_findClashes_h19 k2 (fX3_findClashes_h19 k2 n) x1 x2 x3 K_ranks K_clashes M_length M_ahead A_length = some out := hf
      unfold uX3_findClashes_h19 at hf
      refine lv_iload_n hx hb dX3_findClashes_19 rfl (lv_at hl 3 rfl) ?_
      refine lv_aload_n hx hb dX3_findClashes_20 rfl (lv_at hl 0 rfl) ?_
      refine va_get (D := D) (ci := 3) (v := .ref aA) (C := RX3) (T := TX3) (N := 10) hx hb hts iX3 hown hK.1 hP 0 rfl rfl 2 (by decide) k26 (fun _ h9 => h9) rfl dX3_findClashes_21 ?_
      refine va_getN (D := D) (ci := 0) (v := .int A_length) (C := RX0) (T := TX0) (N := 2) hx hb hts iX0 hown hK.1 hP 5 rfl rfl 1 (by decide) n69 (fun _ h9 => h9) rfl dX3_findClashes_24 ?_
      refine lv_icmp_ge (tgt := 64) hx hb dX3_findClashes_27 (by decide) (fun c27 => ?_) (fun c27 => ?_)
      · have hf := ifp hf c27
        refine lv_aload_n hx hb dX3_findClashes_64 rfl (lv_at hl 0 rfl) ?_
        refine va_get (D := D) (ci := 3) (v := .ref aK_clashes) (C := RX3) (T := TX3) (N := 10) hx hb hts iX3 hown hK.1 hP 0 rfl rfl 4 (by decide) k15 (fun _ h9 => h9) rfl dX3_findClashes_65 ?_
        refine lv_iload_n hx hb dX3_findClashes_68 rfl (lv_at hl 1 rfl) ?_
        refine lv_iload_n hx hb dX3_findClashes_69 rfl (lv_at hl 2 rfl) ?_
        refine ckE hf (fun h70 hf => ?_)
        refine va_iast hx hb hK.1 hP hD hS 2 0 rfl rfl (inB_in h70) dX3_findClashes_70 (fun H locs hP hD hS => ?_)
        have hP : va_P D vwCl [(aK, .inr (3, [.ref aL, .ref aM, .ref aA, .ref aK_ranks, .ref aK_clashes, .int K_keptPlaces, .int K_changes, .int K_hintChange, .int K_hintLine, .int K_hintPlace])), (aK_ranks, eI cI 16 K_ranks), (aK_clashes, eI cI 16 (upd K_clashes (x1).toNatClampNeg x2)), (aM, .inr (4, [.ref aM_numbers, .ref aM_ranks, .ref aM_ahead, .int M_length, .ref aM_ways, .int M_waysCounted])), (aM_ahead, eI cI 12 M_ahead), (aA, .inr (0, [.ref aA_row, .int A_length]))] H := hP
        have hD : va_D A [(aK, .inr (3, [.ref aL, .ref aM, .ref aA, .ref aK_ranks, .ref aK_clashes, .int K_keptPlaces, .int K_changes, .int K_hintChange, .int K_hintLine, .int K_hintPlace])), (aK_ranks, eI cI 16 K_ranks), (aK_clashes, eI cI 16 (upd K_clashes (x1).toNatClampNeg x2)), (aM, .inr (4, [.ref aM_numbers, .ref aM_ranks, .ref aM_ahead, .int M_length, .ref aM_ways, .int M_waysCounted])), (aM_ahead, eI cI 12 M_ahead), (aA, .inr (0, [.ref aA_row, .int A_length]))] := hD
        refine lv_iinc (v := (x1 + (1 : Int32))) (lv' := [(1, .int (x1 + (1 : Int32))), (0, .ref aK), (2, .int x2), (3, .int x3)]) hx hb dX3_findClashes_71 hl (k := 1) rfl rfl (by decide) rfl (fun ls hl => ?_)
        refine lv_goto (tgt := 2) hx hb dX3_findClashes_74 (by decide) ?_
        exact hk2 (x1 + (1 : Int32)) (upd K_clashes (x1).toNatClampNeg x2) hf _ _ _ hP hD hS (lv_sub hl [1, 0] rfl)
      · have hf := ifn hf c27
        refine lv_aload_n hx hb dX3_findClashes_30 rfl (lv_at hl 0 rfl) ?_
        refine va_get (D := D) (ci := 3) (v := .ref aM) (C := RX3) (T := TX3) (N := 10) hx hb hts iX3 hown hK.1 hP 0 rfl rfl 1 (by decide) k22 (fun _ h9 => h9) rfl dX3_findClashes_31 ?_
        refine lv_aload_n hx hb dX3_findClashes_34 rfl (lv_at hl 0 rfl) ?_
        refine va_get (D := D) (ci := 3) (v := .ref aK_ranks) (C := RX3) (T := TX3) (N := 10) hx hb hts iX3 hown hK.1 hP 0 rfl rfl 3 (by decide) k9 (fun _ h9 => h9) rfl dX3_findClashes_35 ?_
        refine lv_iload_n hx hb dX3_findClashes_38 rfl (lv_at hl 3 rfl) ?_
        refine ckE hf (fun h39 hf => ?_)
        refine va_iald hx hb hK.1 hP 1 0 rfl rfl (inB_in h39) dX3_findClashes_39 ?_
        refine lv_aload_n hx hb dX3_findClashes_40 rfl (lv_at hl 0 rfl) ?_
        refine va_get (D := D) (ci := 3) (v := .ref aK_ranks) (C := RX3) (T := TX3) (N := 10) hx hb hts iX3 hown hK.1 hP 0 rfl rfl 3 (by decide) k9 (fun _ h9 => h9) rfl dX3_findClashes_41 ?_
        refine lv_iload_n hx hb dX3_findClashes_44 rfl (lv_at hl 1 rfl) ?_
        refine ckE hf (fun h45 hf => ?_)
        refine va_iald hx hb hK.1 hP 1 0 rfl rfl (inB_in h45) dX3_findClashes_45 ?_
        refine bnd hf (fun o46 e46 hf => ?_)
        refine rdVi (As := [.int (K_ranks (x3).toNatClampNeg), .int (K_ranks (x1).toNatClampNeg)]) (rest := []) ⟨hx, hb, hml, hown, hts⟩ (tX4_isAhead l D cI cJ cG aM aM_numbers aM_ranks aM_ahead aM_ways H (K_ranks (x3).toNatClampNeg) (K_ranks (x1).toNatClampNeg) M_length M_waysCounted M_ahead o46 e46) (cwV 2 hts gX3_findClashes_X4_isAhead rfl rfl rfl (by decide +kernel) ⟨Nat.le_of_ble_eq_true rfl, Nat.le_of_ble_eq_true rfl⟩) (va_recv (ci := 4) (q0 := 3) hK.1 hP rfl rfl) hK (hP.sub (ws' := [(aM, .inr (4, [.ref aM_numbers, .ref aM_ranks, .ref aM_ahead, .int M_length, .ref aM_ways, .int M_waysCounted])), (aM_ahead, eI cI 12 M_ahead)]) [3, 4] rfl) rfl hl.1 rfl (lv_room (Nat.le_of_ble_eq_true rfl)) dX3_findClashes_46 ⟨Nat.le_of_ble_eq_true rfl, Nat.le_of_ble_eq_true rfl⟩ hS (fun locs hS => ?_)
        refine lv_if_eq (tgt := 58) hx hb dX3_findClashes_49 (by decide) (fun c49 => ?_) (fun c49 => ?_)
        · have hf := ifp hf c49
          refine lv_iinc (v := (x3 + (1 : Int32))) (lv' := [(3, .int (x3 + (1 : Int32))), (0, .ref aK), (1, .int x1), (2, .int x2)]) hx hb dX3_findClashes_58 hl (k := 3) rfl rfl (by decide) rfl (fun ls hl => ?_)
          refine lv_goto (tgt := 19) hx hb dX3_findClashes_61 (by decide) ?_
          exact ih x1 x2 (x3 + (1 : Int32)) K_clashes hf _ _ _ hP hD hS (lv_sub hl [1, 2, 3, 0] rfl)
        · have hf := ifn hf c49
          refine lv_iload_n hx hb dX3_findClashes_52 rfl (lv_at hl 2 rfl) ?_
          refine lv_iconst (v := (1 : Int32)) hx hb dX3_findClashes_53 (by decide) ?_
          refine lv_iload_n hx hb dX3_findClashes_54 rfl (lv_at hl 3 rfl) ?_
          refine lv_ishl hx hb dX3_findClashes_55 ?_
          refine lv_ior hx hb dX3_findClashes_56 ?_
          refine lv_istore_n (lv' := [(2, .int (x2 ||| ((1 : Int32) <<< (x3 &&& 31)))), (0, .ref aK), (1, .int x1), (3, .int x3)]) hx hb dX3_findClashes_57 rfl hl (by decide) rfl (fun ls hl => ?_)
          refine lv_iinc (v := (x3 + (1 : Int32))) (lv' := [(3, .int (x3 + (1 : Int32))), (2, .int (x2 ||| ((1 : Int32) <<< (x3 &&& 31)))), (0, .ref aK), (1, .int x1)]) hx hb dX3_findClashes_58 hl (k := 3) rfl rfl (by decide) rfl (fun ls hl => ?_)
          refine lv_goto (tgt := 19) hx hb dX3_findClashes_61 (by decide) ?_
          exact ih x1 (x2 ||| ((1 : Int32) <<< (x3 &&& 31))) (x3 + (1 : Int32)) K_clashes hf _ _ _ hP hD hS (lv_sub hl [2, 3, 1, 0] rfl)
  have b_2 : ∀ (n : Nat), ∀ (x1 : Int32) (K_clashes : (Nat → Int32)), fX3_findClashes_h2  n x1 K_ranks K_clashes M_length M_ahead A_length = some out → ∀ (H : Heap) (locs : List Loc) (ls : Array Slot), va_P D vwCl [(aK, .inr (3, [.ref aL, .ref aM, .ref aA, .ref aK_ranks, .ref aK_clashes, .int K_keptPlaces, .int K_changes, .int K_hintChange, .int K_hintLine, .int K_hintPlace])), (aK_ranks, eI cI 16 K_ranks), (aK_clashes, eI cI 16 K_clashes), (aM, .inr (4, [.ref aM_numbers, .ref aM_ranks, .ref aM_ahead, .int M_length, .ref aM_ways, .int M_waysCounted])), (aM_ahead, eI cI 12 M_ahead), (aA, .inr (0, [.ref aA_row, .int A_length]))] H → va_D A [(aK, .inr (3, [.ref aL, .ref aM, .ref aA, .ref aK_ranks, .ref aK_clashes, .int K_keptPlaces, .int K_changes, .int K_hintChange, .int K_hintLine, .int K_hintPlace])), (aK_ranks, eI cI 16 K_ranks), (aK_clashes, eI cI 16 K_clashes), (aM, .inr (4, [.ref aM_numbers, .ref aM_ranks, .ref aM_ahead, .int M_length, .ref aM_ways, .int M_waysCounted])), (aM_ahead, eI cI 12 M_ahead), (aA, .inr (0, [.ref aA_row, .int A_length]))] → va_S A s.heap H locs → lv_has ls 4 [(0, .ref aK), (1, .int x1)] → W p l e (headSpec wsX3_findClashes { frames := 1, cells := 0, slots := 0, locals := 22 }).room s m ([.ref aK] : List Value).toArray below meth c H locs 0 0 QQ (F0 m 2 ls []) := by
    intro  n
    induction n with
    | zero => intro x1 K_clashes hf; exact nomatch (show (none : Option ((Nat → Int32))) = some out from hf)
    | succ n ih =>
      intro x1 K_clashes hf H locs ls hP hD hS hl
      replace hf : uX3_findClashes_h2  (fX3_findClashes_h2  n) x1 K_ranks K_clashes M_length M_ahead A_length = some out := hf
      unfold uX3_findClashes_h2 at hf
      refine lv_iload_n hx hb dX3_findClashes_2 rfl (lv_at hl 1 rfl) ?_
      refine lv_aload_n hx hb dX3_findClashes_3 rfl (lv_at hl 0 rfl) ?_
      refine va_get (D := D) (ci := 3) (v := .ref aA) (C := RX3) (T := TX3) (N := 10) hx hb hts iX3 hown hK.1 hP 0 rfl rfl 2 (by decide) k26 (fun _ h9 => h9) rfl dX3_findClashes_4 ?_
      refine va_getN (D := D) (ci := 0) (v := .int A_length) (C := RX0) (T := TX0) (N := 2) hx hb hts iX0 hown hK.1 hP 5 rfl rfl 1 (by decide) n69 (fun _ h9 => h9) rfl dX3_findClashes_7 ?_
      refine lv_icmp_ge (tgt := 77) hx hb dX3_findClashes_10 (by decide) (fun c10 => ?_) (fun c10 => ?_)
      · have hf := ifp hf c10
        rw [hQQ]
        exact W.vret hx hb hr (fun t ht hW => by rw [← Option.some.inj hf]; rw [← hAe] at hD hS; exact ⟨⟨(), rfl, trivial, by rw [ht]; exact hP, hD⟩, hS.F ht⟩) hS.2.2 dX3_findClashes_77
      · have hf := ifn hf c10
        refine lv_iconst (v := (0 : Int32)) hx hb dX3_findClashes_13 (by decide) ?_
        refine lv_istore_n (lv' := [(2, .int (0 : Int32)), (0, .ref aK), (1, .int x1)]) hx hb dX3_findClashes_14 rfl hl (by decide) rfl (fun ls hl => ?_)
        refine lv_iload_n hx hb dX3_findClashes_15 rfl (lv_at hl 2 rfl) ?_
        refine lv_iconst (v := (1 : Int32)) hx hb dX3_findClashes_16 (by decide) ?_
        refine lv_iadd hx hb dX3_findClashes_17 ?_
        refine lv_istore_n (lv' := [(3, .int (x1 + (1 : Int32))), (2, .int (0 : Int32)), (0, .ref aK), (1, .int x1)]) hx hb dX3_findClashes_18 rfl hl (by decide) rfl (fun ls hl => ?_)
        exact b_19 (fX3_findClashes_h2  n) ih FU x1 (0 : Int32) (x1 + (1 : Int32)) K_clashes hf _ _ _ hP hD hS (lv_sub hl [2, 3, 1, 0] rfl)
  generalize hHH : s.heap = H at hP ⊢
  have hS : va_S A s.heap H [] := by rw [← hHH]; exact va_S.rf
  generalize ([] : List Loc) = locs at hS ⊢
  unfold fX3_findClashes at hf
  refine lv_iconst (v := (0 : Int32)) hx hb dX3_findClashes_0 (by decide) ?_
  refine lv_istore_n (lv' := [(1, .int (0 : Int32)), (0, .ref aK)]) hx hb dX3_findClashes_1 rfl hl (by decide) rfl (fun ls hl => ?_)
  exact b_2 FU (0 : Int32) K_clashes hf _ _ _ hP hD hS (lv_sub hl [1, 0] rfl)

set_option maxHeartbeats 4000000 in
set_option maxRecDepth 100000 in
theorem tX3_mostKept (N : Nat) (l : Launch) (D : va_G) (cI cJ cG : ClassId) (aR : Nat) : ∀ (Hs : Heap) (y1 : Int32) (y2 : Int32) (R_ : (Nat → Int32)) (out : Int32), fX3_mostKept N y1 y2 R_ = some out → Met l yX3_mostKept wsX3_mostKept ({ frames := N + 1, cells := 0, slots := 0, locals := N * 25 + 21 }) (va_Pc [.ref aR, .int y1, .int y2] (rP D (tyL cI cJ cG) [(aR, eI cI 16 R_)] Hs)) (rQi out Hs) 0 0 (fun _ => False) := by
  induction N with
  | zero => intro _ _ _ _ out hf; exact nomatch (show (none : Option (Int32)) = some out from hf)
  | succ N ih =>
  intro Hs y1 y2 R_ out hf
  refine Met.ofW (cc := cX3_mostKept) (maxL := 6) (ret := (some .int)) (by decide) rfl ?_
  intro p e s m args below meth c s₁ B hml hv
  obtain ⟨rfl, rfl, hP, hK⟩ := hv
  have hx := B.exec
  have hb := B.bytes
  have hr := B.returns
  have hts := atoms_spec (ws := wsX3_mostKept) B.pre
  have hown : s.vm.findClass RX3 = some m.cls := findClass_of_methodNamed B.named
  have hlocks := B.notSynchronized
  have hS : va_S (fun _ => False) s.heap s.heap [] := va_S.rf
  have hl := lv_entry ([.ref aR, .int y1, .int y2]) (n := 6) (Nat.le_of_ble_eq_true rfl)
  rw [lg_entry_eq]
  generalize (lg_sl ([.ref aR, .int y1, .int y2]) ++ List.replicate (6 - (lg_sl ([.ref aR, .int y1, .int y2])).length) Slot.unset).toArray = ls at hl ⊢
  have hl : lv_has ls 6 [(0, .ref aR), (1, .int y1), (2, .int y2)] := hl
  generalize hQQ : MQ below _ _ s 0 0 _ = QQ
  replace hQQ := hQQ.symm
  replace hf : uX3_mostKept (fX3_mostKept N) y1 y2 R_ = some out := hf
  unfold uX3_mostKept at hf
  refine lv_iload_n hx hb dX3_mostKept_0 rfl (lv_at hl 2 rfl) ?_
  refine lv_if_eq (tgt := 10) hx hb dX3_mostKept_1 (by decide) (fun c1 => ?_) (fun c1 => ?_)
  · have hf := ifp hf c1
    refine lv_iconst (v := (0 : Int32)) hx hb dX3_mostKept_10 (by decide) ?_
    rw [hQQ]
    exact W.iret (v := (0 : Int32)) hx hb hr (fun t ht hW => ⟨⟨(0 : Int32), (), rfl, Option.some.inj hf, ht⟩, rF ht⟩) hS.2.2 dX3_mostKept_11
  · have hf := ifn hf c1
    refine lv_iload_n hx hb dX3_mostKept_4 rfl (lv_at hl 1 rfl) ?_
    refine lv_aload_n hx hb dX3_mostKept_5 rfl (lv_at hl 0 rfl) ?_
    refine va_alen (v := (16 : Int32)) hx hb hK.1 hP 0 0 rfl rfl rfl dX3_mostKept_6 ?_
    refine lv_icmp_lt (tgt := 12) hx hb dX3_mostKept_7 (by decide) (fun c7 => ?_) (fun c7 => ?_)
    · have hf := ifp hf c7
      refine lv_iconst (v := (1 : Int32)) hx hb dX3_mostKept_12 (by decide) ?_
      refine lv_iload_n hx hb dX3_mostKept_13 rfl (lv_at hl 1 rfl) ?_
      refine lv_ishl hx hb dX3_mostKept_14 ?_
      refine lv_istore_n (lv' := [(3, .int ((1 : Int32) <<< (y1 &&& 31))), (0, .ref aR), (1, .int y1), (2, .int y2)]) hx hb dX3_mostKept_15 rfl hl (by decide) rfl (fun ls hl => ?_)
      refine lv_iload_n hx hb dX3_mostKept_16 rfl (lv_at hl 3 rfl) ?_
      refine lv_iload_n hx hb dX3_mostKept_17 rfl (lv_at hl 0 rfl) ?_
      refine lv_iconst (v := (-1 : Int32)) hx hb dX3_mostKept_18 (by decide) ?_
      refine lv_ixor hx hb dX3_mostKept_19 ?_
      refine lv_iand hx hb dX3_mostKept_20 ?_
      refine lv_istore (lv' := [(4, .int (y2 &&& (((1 : Int32) <<< (y1 &&& 31)) ^^^ (-1 : Int32)))), (3, .int ((1 : Int32) <<< (y1 &&& 31))), (0, .ref aR), (1, .int y1), (2, .int y2)]) hx hb dX3_mostKept_21 hl (by decide) rfl (fun ls hl => ?_)
      refine lv_iload_n hx hb dX3_mostKept_23 rfl (lv_at hl 4 rfl) ?_
      refine lv_iload_n hx hb dX3_mostKept_24 rfl (lv_at hl 1 rfl) ?_
      refine lv_iand hx hb dX3_mostKept_25 ?_
      refine lv_if_ne (tgt := 39) hx hb dX3_mostKept_26 (by decide) (fun c26 => ?_) (fun c26 => ?_)
      · have hf := ifn hf c26
        refine lv_iconst (v := (1 : Int32)) hx hb dX3_mostKept_39 (by decide) ?_
        refine lv_aload_n hx hb dX3_mostKept_40 rfl (lv_at hl 2 rfl) ?_
        refine lv_iload_n hx hb dX3_mostKept_41 rfl (lv_at hl 3 rfl) ?_
        refine lv_iconst (v := (1 : Int32)) hx hb dX3_mostKept_42 (by decide) ?_
        refine lv_iadd hx hb dX3_mostKept_43 ?_
        refine lv_iload hx hb dX3_mostKept_44 (lv_at hl 0 rfl) ?_
        refine lv_aload_n hx hb dX3_mostKept_46 rfl (lv_at hl 2 rfl) ?_
        refine lv_iload_n hx hb dX3_mostKept_47 rfl (lv_at hl 3 rfl) ?_
        refine ckE hf (fun h48 hf => ?_)
        refine va_iald hx hb hK.1 hP 0 0 rfl rfl (inB_in h48) dX3_mostKept_48 ?_
        refine lv_iconst (v := (-1 : Int32)) hx hb dX3_mostKept_49 (by decide) ?_
        refine lv_ixor hx hb dX3_mostKept_50 ?_
        refine lv_iand hx hb dX3_mostKept_51 ?_
        refine bnd hf (fun o52 e52 hf => ?_)
        refine rdSi (As := [.ref aR, .int (y1 + (1 : Int32)), .int ((y2 &&& (((1 : Int32) <<< (y1 &&& 31)) ^^^ (-1 : Int32))) &&& ((R_ (y1).toNatClampNeg) ^^^ (-1 : Int32)))]) (rest := [.int (1 : Int32)]) ⟨hx, hb, hml, hown, hts⟩ (ih s.heap (y1 + (1 : Int32)) ((y2 &&& (((1 : Int32) <<< (y1 &&& 31)) ^^^ (-1 : Int32))) &&& ((R_ (y1).toNatClampNeg) ^^^ (-1 : Int32))) R_ o52 e52) (va_cwS 3 hts gX3_mostKept_X3_mostKept rfl rfl rfl (by decide +kernel) ⟨by show _ ≤ _; simp only [headSpec]; omega, by show _ ≤ _; simp only [headSpec]; omega⟩) hK (hP.sub (ws' := [(aR, eI cI 16 R_)]) [0] rfl) rfl hl.1 rfl (lv_room (Nat.le_of_ble_eq_true rfl)) dX3_mostKept_52 ⟨Nat.le_of_ble_eq_true rfl, Nat.le_of_ble_eq_true rfl⟩ hS (fun locs hS => ?_)
        refine lv_iadd hx hb dX3_mostKept_55 ?_
        refine lv_istore (lv' := [(5, .int ((1 : Int32) + o52)), (4, .int (y2 &&& (((1 : Int32) <<< (y1 &&& 31)) ^^^ (-1 : Int32)))), (3, .int ((1 : Int32) <<< (y1 &&& 31))), (0, .ref aR), (1, .int y1), (2, .int y2)]) hx hb dX3_mostKept_56 hl (by decide) rfl (fun ls hl => ?_)
        refine lv_iload hx hb dX3_mostKept_58 (lv_at hl 1 rfl) ?_
        refine lv_aload_n hx hb dX3_mostKept_60 rfl (lv_at hl 3 rfl) ?_
        refine lv_iload_n hx hb dX3_mostKept_61 rfl (lv_at hl 4 rfl) ?_
        refine ckE hf (fun h62 hf => ?_)
        refine va_iald hx hb hK.1 hP 0 0 rfl rfl (inB_in h62) dX3_mostKept_62 ?_
        refine lv_iand hx hb dX3_mostKept_63 ?_
        refine lv_if_ne (tgt := 70) hx hb dX3_mostKept_64 (by decide) (fun c64 => ?_) (fun c64 => ?_)
        · have hf := ifn hf c64
          refine lv_iload hx hb dX3_mostKept_70 (lv_at hl 0 rfl) ?_
          refine lv_aload_n hx hb dX3_mostKept_72 rfl (lv_at hl 3 rfl) ?_
          refine lv_iload_n hx hb dX3_mostKept_73 rfl (lv_at hl 4 rfl) ?_
          refine lv_iconst (v := (1 : Int32)) hx hb dX3_mostKept_74 (by decide) ?_
          refine lv_iadd hx hb dX3_mostKept_75 ?_
          refine lv_iload hx hb dX3_mostKept_76 (lv_at hl 1 rfl) ?_
          refine bnd hf (fun o78 e78 hf => ?_)
          refine rdSi (As := [.ref aR, .int (y1 + (1 : Int32)), .int (y2 &&& (((1 : Int32) <<< (y1 &&& 31)) ^^^ (-1 : Int32)))]) (rest := [.int ((1 : Int32) + o52)]) ⟨hx, hb, hml, hown, hts⟩ (ih s.heap (y1 + (1 : Int32)) (y2 &&& (((1 : Int32) <<< (y1 &&& 31)) ^^^ (-1 : Int32))) R_ o78 e78) (va_cwS 3 hts gX3_mostKept_X3_mostKept rfl rfl rfl (by decide +kernel) ⟨by show _ ≤ _; simp only [headSpec]; omega, by show _ ≤ _; simp only [headSpec]; omega⟩) hK (hP.sub (ws' := [(aR, eI cI 16 R_)]) [0] rfl) rfl hl.1 rfl (lv_room (Nat.le_of_ble_eq_true rfl)) dX3_mostKept_78 ⟨Nat.le_of_ble_eq_true rfl, Nat.le_of_ble_eq_true rfl⟩ hS (fun locs hS => ?_)
          refine va_mmax hx hb (by rw [hml]; exact hl.1.symm) hown (hts (.methodLink RX3 100 Lib.Math.max.name) (by decide +kernel)) (hts (.static Lib.Math.max.name) (by decide +kernel)) (hts (.initialized "java/lang/Math") (by decide +kernel)) (hts (.code Lib.Math.max.name Lib.Math.max.code 2 (some .int)) (by decide +kernel)) (by show 1 ≤ N + 1 + 1; omega) (by show 0 + 13 ≤ (N + 1) * 25 + 21; omega) (Nat.le_of_ble_eq_true rfl) (Nat.le_of_ble_eq_true rfl) dX3_mostKept_81 ?_
          rw [hQQ]
          exact W.iret (v := (if ((1 : Int32) + o52) < o78 then o78 else ((1 : Int32) + o52))) hx hb hr (fun t ht hW => ⟨⟨(if ((1 : Int32) + o52) < o78 then o78 else ((1 : Int32) + o52)), (), rfl, Option.some.inj hf, ht⟩, rF ht⟩) hS.2.2 dX3_mostKept_84
        · have hf := ifp hf c64
          refine lv_iload hx hb dX3_mostKept_67 (lv_at hl 0 rfl) ?_
          rw [hQQ]
          exact W.iret (v := ((1 : Int32) + o52)) hx hb hr (fun t ht hW => ⟨⟨((1 : Int32) + o52), (), rfl, Option.some.inj hf, ht⟩, rF ht⟩) hS.2.2 dX3_mostKept_69
      · have hf := ifp hf c26
        refine lv_aload_n hx hb dX3_mostKept_29 rfl (lv_at hl 2 rfl) ?_
        refine lv_iload_n hx hb dX3_mostKept_30 rfl (lv_at hl 3 rfl) ?_
        refine lv_iconst (v := (1 : Int32)) hx hb dX3_mostKept_31 (by decide) ?_
        refine lv_iadd hx hb dX3_mostKept_32 ?_
        refine lv_iload hx hb dX3_mostKept_33 (lv_at hl 0 rfl) ?_
        refine bnd hf (fun o35 e35 hf => ?_)
        refine rdSi (As := [.ref aR, .int (y1 + (1 : Int32)), .int (y2 &&& (((1 : Int32) <<< (y1 &&& 31)) ^^^ (-1 : Int32)))]) (rest := []) ⟨hx, hb, hml, hown, hts⟩ (ih s.heap (y1 + (1 : Int32)) (y2 &&& (((1 : Int32) <<< (y1 &&& 31)) ^^^ (-1 : Int32))) R_ o35 e35) (va_cwS 3 hts gX3_mostKept_X3_mostKept rfl rfl rfl (by decide +kernel) ⟨by show _ ≤ _; simp only [headSpec]; omega, by show _ ≤ _; simp only [headSpec]; omega⟩) hK (hP.sub (ws' := [(aR, eI cI 16 R_)]) [0] rfl) rfl hl.1 rfl (lv_room (Nat.le_of_ble_eq_true rfl)) dX3_mostKept_35 ⟨Nat.le_of_ble_eq_true rfl, Nat.le_of_ble_eq_true rfl⟩ hS (fun locs hS => ?_)
        rw [hQQ]
        exact W.iret (v := o35) hx hb hr (fun t ht hW => ⟨⟨o35, (), rfl, Option.some.inj hf, ht⟩, rF ht⟩) hS.2.2 dX3_mostKept_38
    · have hf := ifn hf c7
      refine lv_iconst (v := (0 : Int32)) hx hb dX3_mostKept_10 (by decide) ?_
      rw [hQQ]
      exact W.iret (v := (0 : Int32)) hx hb hr (fun t ht hW => ⟨⟨(0 : Int32), (), rfl, Option.some.inj hf, ht⟩, rF ht⟩) hS.2.2 dX3_mostKept_11

set_option maxHeartbeats 4000000 in
set_option maxRecDepth 100000 in
theorem tX3_chooseKept (l : Launch) (D : va_G) (cI cJ cG : ClassId) (aK aL aM aA aK_ranks aK_clashes aA_row : Nat) (sz : Nat)  (K_keptPlaces : Int32) (K_changes : Int32) (K_hintChange : Int32) (K_hintLine : Int32) (K_hintPlace : Int32) (K_ranks : (Nat → Int32)) (K_clashes : (Nat → Int32)) (A_length : Int32) (out : Int32) (hf : fX3_chooseKept K_keptPlaces K_ranks K_clashes A_length = some out) : Met l yX3_chooseKept wsX3_chooseKept ({ frames := 22, cells := 0, slots := 0, locals := 546 }) (va_Pc [.ref aK] (wP D (tyL cI cJ cG) [(aK, .inr (3, [.ref aL, .ref aM, .ref aA, .ref aK_ranks, .ref aK_clashes, .int K_keptPlaces, .int K_changes, .int K_hintChange, .int K_hintLine, .int K_hintPlace])), (aK_ranks, eI cI 16 K_ranks), (aK_clashes, eI cI 16 K_clashes), (aA, .inr (0, [.ref aA_row, .int A_length]))] sz)) (wQv D  [(aK, .inr (3, [.ref aL, .ref aM, .ref aA, .ref aK_ranks, .ref aK_clashes, .int K_keptPlaces, .int K_changes, .int K_hintChange, .int K_hintLine, .int K_hintPlace])), (aK_ranks, eI cI 16 K_ranks), (aK_clashes, eI cI 16 K_clashes), (aA, .inr (0, [.ref aA_row, .int A_length]))] [(aK, .inr (3, [.ref aL, .ref aM, .ref aA, .ref aK_ranks, .ref aK_clashes, .int out, .int K_changes, .int K_hintChange, .int K_hintLine, .int K_hintPlace])), (aK_ranks, eI cI 16 K_ranks), (aK_clashes, eI cI 16 K_clashes), (aA, .inr (0, [.ref aA_row, .int A_length]))] sz) 0 0 (va_A [(aK, .inr (3, [.ref aL, .ref aM, .ref aA, .ref aK_ranks, .ref aK_clashes, .int K_keptPlaces, .int K_changes, .int K_hintChange, .int K_hintLine, .int K_hintPlace])), (aK_ranks, eI cI 16 K_ranks), (aK_clashes, eI cI 16 K_clashes), (aA, .inr (0, [.ref aA_row, .int A_length]))] sz) := by
  refine Met.ofW (cc := cX3_chooseKept) (maxL := 6) (ret := none) (by decide) rfl ?_
  intro p e s m args below meth c s₁ B hml hv
  obtain ⟨rfl, hsz, hP, hK, hD0⟩ := hv
  have hx := B.exec
  have hb := B.bytes
  have hr := B.returns
  have hts := atoms_spec (ws := wsX3_chooseKept) B.pre
  have hown : s.vm.findClass RX3 = some m.cls := findClass_of_methodNamed B.named
  have hlocks := B.notSynchronized
  have iX0 : ∀ w ∈ wsX00, w ∈ wsX3_chooseKept := by decide +kernel
  have iX3 : ∀ w ∈ wsX30, w ∈ wsX3_chooseKept := by decide +kernel
  have k9 := hts (.fieldLink RX3 9 "BlockMarker$Marking" "ranks" "[I") (by decide +kernel)
  have k15 := hts (.fieldLink RX3 15 "BlockMarker$Marking" "clashes" "[I") (by decide +kernel)
  have k26 := hts (.fieldLink RX3 26 "BlockMarker$Marking" "answer" "LBlockMarker$Answer;") (by decide +kernel)
  have k65 := hts (.fieldLink RX3 65 "BlockMarker$Marking" "keptPlaces" "I") (by decide +kernel)
  have n69 := va_Nw.use (A := ([.ref aK] : List Value).toArray) rfl (hK.2 (.fieldLinkNest "BlockMarker$Marking" 69 "BlockMarker$Answer" "length" "I" "BlockMarker") (by decide +kernel))
  subst hsz
  have hD := hD0.self (sz := s.heap.size)
  generalize hAe : va_A [(aK, .inr (3, [.ref aL, .ref aM, .ref aA, .ref aK_ranks, .ref aK_clashes, .int K_keptPlaces, .int K_changes, .int K_hintChange, .int K_hintLine, .int K_hintPlace])), (aK_ranks, eI cI 16 K_ranks), (aK_clashes, eI cI 16 K_clashes), (aA, .inr (0, [.ref aA_row, .int A_length]))] s.heap.size = A at hD ⊢
  have hA : ∀ q : Nat, s.heap.size ≤ q → A q := fun q h => by rw [← hAe]; exact Or.inr h
  have hS : va_S A s.heap s.heap [] := va_S.rf
  have hl := lv_entry ([.ref aK]) (n := 6) (Nat.le_of_ble_eq_true rfl)
  rw [lg_entry_eq]
  generalize (lg_sl ([.ref aK]) ++ List.replicate (6 - (lg_sl ([.ref aK])).length) Slot.unset).toArray = ls at hl ⊢
  have hl : lv_has ls 6 [(0, .ref aK)] := hl
  generalize hQQ : MQ below _ _ s 0 0 _ = QQ
  replace hQQ := hQQ.symm
  have b_48 : ∀ (n : Nat), ∀ (x1 : Int32) (x2 : Int32) (K_keptPlaces : Int32), fX3_chooseKept_h48  n x1 x2 K_keptPlaces K_ranks K_clashes A_length = some out → ∀ (H : Heap) (locs : List Loc) (ls : Array Slot), va_P D vwCl [(aK, .inr (3, [.ref aL, .ref aM, .ref aA, .ref aK_ranks, .ref aK_clashes, .int K_keptPlaces, .int K_changes, .int K_hintChange, .int K_hintLine, .int K_hintPlace])), (aK_ranks, eI cI 16 K_ranks), (aK_clashes, eI cI 16 K_clashes), (aA, .inr (0, [.ref aA_row, .int A_length]))] H → va_D A [(aK, .inr (3, [.ref aL, .ref aM, .ref aA, .ref aK_ranks, .ref aK_clashes, .int K_keptPlaces, .int K_changes, .int K_hintChange, .int K_hintLine, .int K_hintPlace])), (aK_ranks, eI cI 16 K_ranks), (aK_clashes, eI cI 16 K_clashes), (aA, .inr (0, [.ref aA_row, .int A_length]))] → va_S A s.heap H locs → lv_has ls 6 [(0, .ref aK), (1, .int x1), (2, .int x2)] → W p l e (headSpec wsX3_chooseKept { frames := 22, cells := 0, slots := 0, locals := 546 }).room s m ([.ref aK] : List Value).toArray below meth c H locs 0 0 QQ (F0 m 48 ls []) := by
    intro  n
    induction n with
    | zero => intro x1 x2 K_keptPlaces hf; exact nomatch (show (none : Option (Int32)) = some out from hf)
    | succ n ih =>
      intro x1 x2 K_keptPlaces hf H locs ls hP hD hS hl
      replace hf : uX3_chooseKept_h48  (fX3_chooseKept_h48  n) x1 x2 K_keptPlaces K_ranks K_clashes A_length = some out := hf
      unfold uX3_chooseKept_h48 at hf
      refine lv_iload_n hx hb dX3_chooseKept_48 rfl (lv_at hl 2 rfl) ?_
      refine lv_aload_n hx hb dX3_chooseKept_49 rfl (lv_at hl 0 rfl) ?_
      refine va_get (D := D) (ci := 3) (v := .ref aA) (C := RX3) (T := TX3) (N := 10) hx hb hts iX3 hown hK.1 hP 0 rfl rfl 2 (by decide) k26 (fun _ h9 => h9) rfl dX3_chooseKept_50 ?_
      refine va_getN (D := D) (ci := 0) (v := .int A_length) (C := RX0) (T := TX0) (N := 2) hx hb hts iX0 hown hK.1 hP 3 rfl rfl 1 (by decide) n69 (fun _ h9 => h9) rfl dX3_chooseKept_53 ?_
      refine lv_icmp_ge (tgt := 146) hx hb dX3_chooseKept_56 (by decide) (fun c56 => ?_) (fun c56 => ?_)
      · have hf := ifp hf c56
        rw [hQQ]
        exact W.vret hx hb hr (fun t ht hW => by rw [← Option.some.inj hf]; rw [← hAe] at hD hS; exact ⟨⟨(), rfl, trivial, by rw [ht]; exact hP, hD⟩, hS.F ht⟩) hS.2.2 dX3_chooseKept_146
      · have hf := ifn hf c56
        refine lv_iconst (v := (1 : Int32)) hx hb dX3_chooseKept_59 (by decide) ?_
        refine lv_iload_n hx hb dX3_chooseKept_60 rfl (lv_at hl 2 rfl) ?_
        refine lv_ishl hx hb dX3_chooseKept_61 ?_
        refine lv_istore_n (lv' := [(3, .int ((1 : Int32) <<< (x2 &&& 31))), (0, .ref aK), (1, .int x1), (2, .int x2)]) hx hb dX3_chooseKept_62 rfl hl (by decide) rfl (fun ls hl => ?_)
        refine lv_iload_n hx hb dX3_chooseKept_63 rfl (lv_at hl 2 rfl) ?_
        refine lv_iload_n hx hb dX3_chooseKept_64 rfl (lv_at hl 0 rfl) ?_
        refine lv_iand hx hb dX3_chooseKept_65 ?_
        refine lv_if_ne (tgt := 72) hx hb dX3_chooseKept_66 (by decide) (fun c66 => ?_) (fun c66 => ?_)
        · have hf := ifn hf c66
          refine lv_aload_n hx hb dX3_chooseKept_72 rfl (lv_at hl 1 rfl) ?_
          refine va_get (D := D) (ci := 3) (v := .ref aK_clashes) (C := RX3) (T := TX3) (N := 10) hx hb hts iX3 hown hK.1 hP 0 rfl rfl 4 (by decide) k15 (fun _ h9 => h9) rfl dX3_chooseKept_73 ?_
          refine lv_iload_n hx hb dX3_chooseKept_76 rfl (lv_at hl 3 rfl) ?_
          refine lv_iload_n hx hb dX3_chooseKept_77 rfl (lv_at hl 2 rfl) ?_
          refine bnd hf (fun o78 e78 hf => ?_)
          refine rdSi (As := [.ref aK_clashes, .int x2, .int x1]) (rest := []) ⟨hx, hb, hml, hown, hts⟩ (tX3_mostKept DEP l D cI cJ cG aK_clashes H x2 x1 K_clashes o78 e78) (va_cwS 3 hts gX3_chooseKept_X3_mostKept rfl rfl rfl (by decide +kernel) ⟨Nat.le_of_ble_eq_true rfl, Nat.le_of_ble_eq_true rfl⟩) hK (hP.sub (ws' := [(aK_clashes, eI cI 16 K_clashes)]) [2] rfl) rfl hl.1 rfl (lv_room (Nat.le_of_ble_eq_true rfl)) dX3_chooseKept_78 ⟨Nat.le_of_ble_eq_true rfl, Nat.le_of_ble_eq_true rfl⟩ hS (fun locs hS => ?_)
          refine lv_istore (lv' := [(4, .int o78), (3, .int ((1 : Int32) <<< (x2 &&& 31))), (0, .ref aK), (1, .int x1), (2, .int x2)]) hx hb dX3_chooseKept_81 hl (by decide) rfl (fun ls hl => ?_)
          refine lv_iload_n hx hb dX3_chooseKept_83 rfl (lv_at hl 3 rfl) ?_
          refine lv_iload_n hx hb dX3_chooseKept_84 rfl (lv_at hl 1 rfl) ?_
          refine lv_iconst (v := (-1 : Int32)) hx hb dX3_chooseKept_85 (by decide) ?_
          refine lv_ixor hx hb dX3_chooseKept_86 ?_
          refine lv_iand hx hb dX3_chooseKept_87 ?_
          refine lv_aload_n hx hb dX3_chooseKept_88 rfl (lv_at hl 2 rfl) ?_
          refine va_get (D := D) (ci := 3) (v := .ref aK_clashes) (C := RX3) (T := TX3) (N := 10) hx hb hts iX3 hown hK.1 hP 0 rfl rfl 4 (by decide) k15 (fun _ h9 => h9) rfl dX3_chooseKept_89 ?_
          refine lv_iload_n hx hb dX3_chooseKept_92 rfl (lv_at hl 4 rfl) ?_
          refine ckE hf (fun h93 hf => ?_)
          refine va_iald hx hb hK.1 hP 2 0 rfl rfl (inB_in h93) dX3_chooseKept_93 ?_
          refine lv_iconst (v := (-1 : Int32)) hx hb dX3_chooseKept_94 (by decide) ?_
          refine lv_ixor hx hb dX3_chooseKept_95 ?_
          refine lv_iand hx hb dX3_chooseKept_96 ?_
          refine lv_istore (lv' := [(5, .int ((x1 &&& (((1 : Int32) <<< (x2 &&& 31)) ^^^ (-1 : Int32))) &&& ((K_clashes (x2).toNatClampNeg) ^^^ (-1 : Int32)))), (4, .int o78), (3, .int ((1 : Int32) <<< (x2 &&& 31))), (0, .ref aK), (1, .int x1), (2, .int x2)]) hx hb dX3_chooseKept_97 hl (by decide) rfl (fun ls hl => ?_)
          refine lv_iconst (v := (1 : Int32)) hx hb dX3_chooseKept_99 (by decide) ?_
          refine lv_aload_n hx hb dX3_chooseKept_100 rfl (lv_at hl 3 rfl) ?_
          refine va_get (D := D) (ci := 3) (v := .ref aK_clashes) (C := RX3) (T := TX3) (N := 10) hx hb hts iX3 hown hK.1 hP 0 rfl rfl 4 (by decide) k15 (fun _ h9 => h9) rfl dX3_chooseKept_101 ?_
          refine lv_iload_n hx hb dX3_chooseKept_104 rfl (lv_at hl 5 rfl) ?_
          refine lv_iconst (v := (1 : Int32)) hx hb dX3_chooseKept_105 (by decide) ?_
          refine lv_iadd hx hb dX3_chooseKept_106 ?_
          refine lv_iload hx hb dX3_chooseKept_107 (lv_at hl 0 rfl) ?_
          refine bnd hf (fun o109 e109 hf => ?_)
          refine rdSi (As := [.ref aK_clashes, .int (x2 + (1 : Int32)), .int ((x1 &&& (((1 : Int32) <<< (x2 &&& 31)) ^^^ (-1 : Int32))) &&& ((K_clashes (x2).toNatClampNeg) ^^^ (-1 : Int32)))]) (rest := [.int (1 : Int32)]) ⟨hx, hb, hml, hown, hts⟩ (tX3_mostKept DEP l D cI cJ cG aK_clashes H (x2 + (1 : Int32)) ((x1 &&& (((1 : Int32) <<< (x2 &&& 31)) ^^^ (-1 : Int32))) &&& ((K_clashes (x2).toNatClampNeg) ^^^ (-1 : Int32))) K_clashes o109 e109) (va_cwS 3 hts gX3_chooseKept_X3_mostKept rfl rfl rfl (by decide +kernel) ⟨Nat.le_of_ble_eq_true rfl, Nat.le_of_ble_eq_true rfl⟩) hK (hP.sub (ws' := [(aK_clashes, eI cI 16 K_clashes)]) [2] rfl) rfl hl.1 rfl (lv_room (Nat.le_of_ble_eq_true rfl)) dX3_chooseKept_109 ⟨Nat.le_of_ble_eq_true rfl, Nat.le_of_ble_eq_true rfl⟩ hS (fun locs hS => ?_)
          refine lv_iadd hx hb dX3_chooseKept_112 ?_
          refine lv_iload hx hb dX3_chooseKept_113 (lv_at hl 1 rfl) ?_
          refine lv_icmp_ne (tgt := 134) hx hb dX3_chooseKept_115 (by decide) (fun c115 => ?_) (fun c115 => ?_)
          · have hf := ifn hf c115
            refine lv_iload_n hx hb dX3_chooseKept_134 rfl (lv_at hl 4 rfl) ?_
            refine lv_iload_n hx hb dX3_chooseKept_135 rfl (lv_at hl 2 rfl) ?_
            refine lv_iconst (v := (-1 : Int32)) hx hb dX3_chooseKept_136 (by decide) ?_
            refine lv_ixor hx hb dX3_chooseKept_137 ?_
            refine lv_iand hx hb dX3_chooseKept_138 ?_
            refine lv_istore_n (lv' := [(1, .int (x1 &&& (((1 : Int32) <<< (x2 &&& 31)) ^^^ (-1 : Int32)))), (5, .int ((x1 &&& (((1 : Int32) <<< (x2 &&& 31)) ^^^ (-1 : Int32))) &&& ((K_clashes (x2).toNatClampNeg) ^^^ (-1 : Int32)))), (4, .int o78), (3, .int ((1 : Int32) <<< (x2 &&& 31))), (0, .ref aK), (2, .int x2)]) hx hb dX3_chooseKept_139 rfl hl (by decide) rfl (fun ls hl => ?_)
            refine lv_iinc (v := (x2 + (1 : Int32))) (lv' := [(2, .int (x2 + (1 : Int32))), (1, .int (x1 &&& (((1 : Int32) <<< (x2 &&& 31)) ^^^ (-1 : Int32)))), (5, .int ((x1 &&& (((1 : Int32) <<< (x2 &&& 31)) ^^^ (-1 : Int32))) &&& ((K_clashes (x2).toNatClampNeg) ^^^ (-1 : Int32)))), (4, .int o78), (3, .int ((1 : Int32) <<< (x2 &&& 31))), (0, .ref aK)]) hx hb dX3_chooseKept_140 hl (k := 5) rfl rfl (by decide) rfl (fun ls hl => ?_)
            refine lv_goto (tgt := 48) hx hb dX3_chooseKept_143 (by decide) ?_
            exact ih (x1 &&& (((1 : Int32) <<< (x2 &&& 31)) ^^^ (-1 : Int32))) (x2 + (1 : Int32)) K_keptPlaces hf _ _ _ hP hD hS (lv_sub hl [5, 1, 0] rfl)
          · have hf := ifp hf c115
            refine lv_aload_n hx hb dX3_chooseKept_118 rfl (lv_at hl 3 rfl) ?_
            refine lv_dup hx hb dX3_chooseKept_119 rfl ?_
            refine va_get (D := D) (ci := 3) (v := .int K_keptPlaces) (C := RX3) (T := TX3) (N := 10) hx hb hts iX3 hown hK.1 hP 0 rfl rfl 5 (by decide) k65 (fun _ h9 => h9) rfl dX3_chooseKept_120 ?_
            refine lv_iload_n hx hb dX3_chooseKept_123 rfl (lv_at hl 2 rfl) ?_
            refine lv_ior hx hb dX3_chooseKept_124 ?_
            refine va_put (D := D) (ci := 3) (v := .int (K_keptPlaces ||| ((1 : Int32) <<< (x2 &&& 31)))) (ty := .int) (C := RX3) (T := TX3) (N := 10) hx hb hts iX3 tyX3 tyX3_ok nmX3 hown hK.1 hP hD hS 0 rfl rfl 5 (by decide) k65 (fun _ h9 => h9) rfl (by decide +kernel) rfl rfl (Nat.le_of_ble_eq_true rfl) dX3_chooseKept_125 (fun H locs hP hD hS => ?_)
            have hP : va_P D vwCl [(aK, .inr (3, [.ref aL, .ref aM, .ref aA, .ref aK_ranks, .ref aK_clashes, .int (K_keptPlaces ||| ((1 : Int32) <<< (x2 &&& 31))), .int K_changes, .int K_hintChange, .int K_hintLine, .int K_hintPlace])), (aK_ranks, eI cI 16 K_ranks), (aK_clashes, eI cI 16 K_clashes), (aA, .inr (0, [.ref aA_row, .int A_length]))] H := hP
            have hD : va_D A [(aK, .inr (3, [.ref aL, .ref aM, .ref aA, .ref aK_ranks, .ref aK_clashes, .int (K_keptPlaces ||| ((1 : Int32) <<< (x2 &&& 31))), .int K_changes, .int K_hintChange, .int K_hintLine, .int K_hintPlace])), (aK_ranks, eI cI 16 K_ranks), (aK_clashes, eI cI 16 K_clashes), (aA, .inr (0, [.ref aA_row, .int A_length]))] := hD
            refine lv_iload hx hb dX3_chooseKept_128 (lv_at hl 0 rfl) ?_
            refine lv_istore_n (lv' := [(1, .int ((x1 &&& (((1 : Int32) <<< (x2 &&& 31)) ^^^ (-1 : Int32))) &&& ((K_clashes (x2).toNatClampNeg) ^^^ (-1 : Int32)))), (5, .int ((x1 &&& (((1 : Int32) <<< (x2 &&& 31)) ^^^ (-1 : Int32))) &&& ((K_clashes (x2).toNatClampNeg) ^^^ (-1 : Int32)))), (4, .int o78), (3, .int ((1 : Int32) <<< (x2 &&& 31))), (0, .ref aK), (2, .int x2)]) hx hb dX3_chooseKept_130 rfl hl (by decide) rfl (fun ls hl => ?_)
            refine lv_goto (tgt := 140) hx hb dX3_chooseKept_131 (by decide) ?_
            refine lv_iinc (v := (x2 + (1 : Int32))) (lv' := [(2, .int (x2 + (1 : Int32))), (1, .int ((x1 &&& (((1 : Int32) <<< (x2 &&& 31)) ^^^ (-1 : Int32))) &&& ((K_clashes (x2).toNatClampNeg) ^^^ (-1 : Int32)))), (5, .int ((x1 &&& (((1 : Int32) <<< (x2 &&& 31)) ^^^ (-1 : Int32))) &&& ((K_clashes (x2).toNatClampNeg) ^^^ (-1 : Int32)))), (4, .int o78), (3, .int ((1 : Int32) <<< (x2 &&& 31))), (0, .ref aK)]) hx hb dX3_chooseKept_140 hl (k := 5) rfl rfl (by decide) rfl (fun ls hl => ?_)
            refine lv_goto (tgt := 48) hx hb dX3_chooseKept_143 (by decide) ?_
            exact ih ((x1 &&& (((1 : Int32) <<< (x2 &&& 31)) ^^^ (-1 : Int32))) &&& ((K_clashes (x2).toNatClampNeg) ^^^ (-1 : Int32))) (x2 + (1 : Int32)) (K_keptPlaces ||| ((1 : Int32) <<< (x2 &&& 31))) hf _ _ _ hP hD hS (lv_sub hl [5, 1, 0] rfl)
        · have hf := ifp hf c66
          refine lv_goto (tgt := 140) hx hb dX3_chooseKept_69 (by decide) ?_
          refine lv_iinc (v := (x2 + (1 : Int32))) (lv' := [(2, .int (x2 + (1 : Int32))), (3, .int ((1 : Int32) <<< (x2 &&& 31))), (0, .ref aK), (1, .int x1)]) hx hb dX3_chooseKept_140 hl (k := 3) rfl rfl (by decide) rfl (fun ls hl => ?_)
          refine lv_goto (tgt := 48) hx hb dX3_chooseKept_143 (by decide) ?_
          exact ih x1 (x2 + (1 : Int32)) K_keptPlaces hf _ _ _ hP hD hS (lv_sub hl [2, 3, 0] rfl)
  have b_4 : ∀ (n : Nat), ∀ (x1 : Int32) (x2 : Int32) (K_keptPlaces : Int32), fX3_chooseKept_h4  n x1 x2 K_keptPlaces K_ranks K_clashes A_length = some out → ∀ (H : Heap) (locs : List Loc) (ls : Array Slot), va_P D vwCl [(aK, .inr (3, [.ref aL, .ref aM, .ref aA, .ref aK_ranks, .ref aK_clashes, .int K_keptPlaces, .int K_changes, .int K_hintChange, .int K_hintLine, .int K_hintPlace])), (aK_ranks, eI cI 16 K_ranks), (aK_clashes, eI cI 16 K_clashes), (aA, .inr (0, [.ref aA_row, .int A_length]))] H → va_D A [(aK, .inr (3, [.ref aL, .ref aM, .ref aA, .ref aK_ranks, .ref aK_clashes, .int K_keptPlaces, .int K_changes, .int K_hintChange, .int K_hintLine, .int K_hintPlace])), (aK_ranks, eI cI 16 K_ranks), (aK_clashes, eI cI 16 K_clashes), (aA, .inr (0, [.ref aA_row, .int A_length]))] → va_S A s.heap H locs → lv_has ls 6 [(0, .ref aK), (1, .int x1), (2, .int x2)] → W p l e (headSpec wsX3_chooseKept { frames := 22, cells := 0, slots := 0, locals := 546 }).room s m ([.ref aK] : List Value).toArray below meth c H locs 0 0 QQ (F0 m 4 ls []) := by
    intro  n
    induction n with
    | zero => intro x1 x2 K_keptPlaces hf; exact nomatch (show (none : Option (Int32)) = some out from hf)
    | succ n ih =>
      intro x1 x2 K_keptPlaces hf H locs ls hP hD hS hl
      replace hf : uX3_chooseKept_h4  (fX3_chooseKept_h4  n) x1 x2 K_keptPlaces K_ranks K_clashes A_length = some out := hf
      unfold uX3_chooseKept_h4 at hf
      refine lv_iload_n hx hb dX3_chooseKept_4 rfl (lv_at hl 2 rfl) ?_
      refine lv_aload_n hx hb dX3_chooseKept_5 rfl (lv_at hl 0 rfl) ?_
      refine va_get (D := D) (ci := 3) (v := .ref aA) (C := RX3) (T := TX3) (N := 10) hx hb hts iX3 hown hK.1 hP 0 rfl rfl 2 (by decide) k26 (fun _ h9 => h9) rfl dX3_chooseKept_6 ?_
      refine va_getN (D := D) (ci := 0) (v := .int A_length) (C := RX0) (T := TX0) (N := 2) hx hb hts iX0 hown hK.1 hP 3 rfl rfl 1 (by decide) n69 (fun _ h9 => h9) rfl dX3_chooseKept_9 ?_
      refine lv_icmp_ge (tgt := 41) hx hb dX3_chooseKept_12 (by decide) (fun c12 => ?_) (fun c12 => ?_)
      · have hf := ifp hf c12
        refine lv_aload_n hx hb dX3_chooseKept_41 rfl (lv_at hl 0 rfl) ?_
        refine lv_iconst (v := (0 : Int32)) hx hb dX3_chooseKept_42 (by decide) ?_
        refine va_put (D := D) (ci := 3) (v := .int (0 : Int32)) (ty := .int) (C := RX3) (T := TX3) (N := 10) hx hb hts iX3 tyX3 tyX3_ok nmX3 hown hK.1 hP hD hS 0 rfl rfl 5 (by decide) k65 (fun _ h9 => h9) rfl (by decide +kernel) rfl rfl (Nat.le_of_ble_eq_true rfl) dX3_chooseKept_43 (fun H locs hP hD hS => ?_)
        have hP : va_P D vwCl [(aK, .inr (3, [.ref aL, .ref aM, .ref aA, .ref aK_ranks, .ref aK_clashes, .int (0 : Int32), .int K_changes, .int K_hintChange, .int K_hintLine, .int K_hintPlace])), (aK_ranks, eI cI 16 K_ranks), (aK_clashes, eI cI 16 K_clashes), (aA, .inr (0, [.ref aA_row, .int A_length]))] H := hP
        have hD : va_D A [(aK, .inr (3, [.ref aL, .ref aM, .ref aA, .ref aK_ranks, .ref aK_clashes, .int (0 : Int32), .int K_changes, .int K_hintChange, .int K_hintLine, .int K_hintPlace])), (aK_ranks, eI cI 16 K_ranks), (aK_clashes, eI cI 16 K_clashes), (aA, .inr (0, [.ref aA_row, .int A_length]))] := hD
        refine lv_iconst (v := (0 : Int32)) hx hb dX3_chooseKept_46 (by decide) ?_
        refine lv_istore_n (lv' := [(2, .int (0 : Int32)), (0, .ref aK), (1, .int x1)]) hx hb dX3_chooseKept_47 rfl hl (by decide) rfl (fun ls hl => ?_)
        exact b_48 FU x1 (0 : Int32) (0 : Int32) hf _ _ _ hP hD hS (lv_sub hl [1, 2, 0] rfl)
      · have hf := ifn hf c12
        refine lv_iload_n hx hb dX3_chooseKept_15 rfl (lv_at hl 1 rfl) ?_
        refine lv_aload_n hx hb dX3_chooseKept_16 rfl (lv_at hl 0 rfl) ?_
        refine va_get (D := D) (ci := 3) (v := .ref aK_ranks) (C := RX3) (T := TX3) (N := 10) hx hb hts iX3 hown hK.1 hP 0 rfl rfl 3 (by decide) k9 (fun _ h9 => h9) rfl dX3_chooseKept_17 ?_
        refine lv_iload_n hx hb dX3_chooseKept_20 rfl (lv_at hl 2 rfl) ?_
        refine ckE hf (fun h21 hf => ?_)
        refine va_iald hx hb hK.1 hP 1 0 rfl rfl (inB_in h21) dX3_chooseKept_21 ?_
        refine lv_iconst (v := (-1 : Int32)) hx hb dX3_chooseKept_22 (by decide) ?_
        refine lv_icmp_eq (tgt := 32) hx hb dX3_chooseKept_23 (by decide) (fun c23 => ?_) (fun c23 => ?_)
        · have hf := ifp hf c23
          refine lv_iconst (v := (0 : Int32)) hx hb dX3_chooseKept_32 (by decide) ?_
          refine lv_ior hx hb dX3_chooseKept_33 ?_
          refine lv_istore_n (lv' := [(1, .int (x1 ||| (0 : Int32))), (0, .ref aK), (2, .int x2)]) hx hb dX3_chooseKept_34 rfl hl (by decide) rfl (fun ls hl => ?_)
          refine lv_iinc (v := (x2 + (1 : Int32))) (lv' := [(2, .int (x2 + (1 : Int32))), (1, .int (x1 ||| (0 : Int32))), (0, .ref aK)]) hx hb dX3_chooseKept_35 hl (k := 2) rfl rfl (by decide) rfl (fun ls hl => ?_)
          refine lv_goto (tgt := 4) hx hb dX3_chooseKept_38 (by decide) ?_
          exact ih (x1 ||| (0 : Int32)) (x2 + (1 : Int32)) K_keptPlaces hf _ _ _ hP hD hS (lv_sub hl [2, 1, 0] rfl)
        · have hf := ifn hf c23
          refine lv_iconst (v := (1 : Int32)) hx hb dX3_chooseKept_26 (by decide) ?_
          refine lv_iload_n hx hb dX3_chooseKept_27 rfl (lv_at hl 2 rfl) ?_
          refine lv_ishl hx hb dX3_chooseKept_28 ?_
          refine lv_goto (tgt := 33) hx hb dX3_chooseKept_29 (by decide) ?_
          refine lv_ior hx hb dX3_chooseKept_33 ?_
          refine lv_istore_n (lv' := [(1, .int (x1 ||| ((1 : Int32) <<< (x2 &&& 31)))), (0, .ref aK), (2, .int x2)]) hx hb dX3_chooseKept_34 rfl hl (by decide) rfl (fun ls hl => ?_)
          refine lv_iinc (v := (x2 + (1 : Int32))) (lv' := [(2, .int (x2 + (1 : Int32))), (1, .int (x1 ||| ((1 : Int32) <<< (x2 &&& 31)))), (0, .ref aK)]) hx hb dX3_chooseKept_35 hl (k := 2) rfl rfl (by decide) rfl (fun ls hl => ?_)
          refine lv_goto (tgt := 4) hx hb dX3_chooseKept_38 (by decide) ?_
          exact ih (x1 ||| ((1 : Int32) <<< (x2 &&& 31))) (x2 + (1 : Int32)) K_keptPlaces hf _ _ _ hP hD hS (lv_sub hl [2, 1, 0] rfl)
  generalize hHH : s.heap = H at hP ⊢
  have hS : va_S A s.heap H [] := by rw [← hHH]; exact va_S.rf
  generalize ([] : List Loc) = locs at hS ⊢
  unfold fX3_chooseKept at hf
  refine lv_iconst (v := (0 : Int32)) hx hb dX3_chooseKept_0 (by decide) ?_
  refine lv_istore_n (lv' := [(1, .int (0 : Int32)), (0, .ref aK)]) hx hb dX3_chooseKept_1 rfl hl (by decide) rfl (fun ls hl => ?_)
  refine lv_iconst (v := (0 : Int32)) hx hb dX3_chooseKept_2 (by decide) ?_
  refine lv_istore_n (lv' := [(2, .int (0 : Int32)), (1, .int (0 : Int32)), (0, .ref aK)]) hx hb dX3_chooseKept_3 rfl hl (by decide) rfl (fun ls hl => ?_)
  exact b_4 FU (0 : Int32) (0 : Int32) K_keptPlaces hf _ _ _ hP hD hS (lv_sub hl [2, 1, 0] rfl)

set_option maxHeartbeats 4000000 in
set_option maxRecDepth 100000 in
theorem tX3_countChanges (l : Launch) (D : va_G) (cI cJ cG : ClassId) (aK aL aM aA aK_ranks aK_clashes aL_kinds aL_vs aL_ws aL_roles aL_mates aM_numbers aM_ranks aM_ahead aM_ways aA_row : Nat) (sz : Nat)  (K_keptPlaces : Int32) (K_changes : Int32) (K_hintChange : Int32) (K_hintLine : Int32) (K_hintPlace : Int32) (L_many : Int32) (L_roles : (Nat → Int32)) (M_length : Int32) (M_waysCounted : Int32) (A_length : Int32) (A_row : (Nat → Int32)) (out : Int32) (hf : fX3_countChanges K_keptPlaces K_changes L_many L_roles M_length A_length A_row = some out) : Met l yX3_countChanges wsX3_countChanges ({ frames := 2, cells := 0, slots := 0, locals := 42 }) (va_Pc [.ref aK] (wP D (tyL cI cJ cG) [(aK, .inr (3, [.ref aL, .ref aM, .ref aA, .ref aK_ranks, .ref aK_clashes, .int K_keptPlaces, .int K_changes, .int K_hintChange, .int K_hintLine, .int K_hintPlace])), (aL, .inr (1, [.ref aL_kinds, .ref aL_vs, .ref aL_ws, .ref aL_roles, .ref aL_mates, .int L_many])), (aL_roles, eI cI 16 L_roles), (aM, .inr (4, [.ref aM_numbers, .ref aM_ranks, .ref aM_ahead, .int M_length, .ref aM_ways, .int M_waysCounted])), (aA, .inr (0, [.ref aA_row, .int A_length])), (aA_row, eI cI 16 A_row)] sz)) (wQv D  [(aK, .inr (3, [.ref aL, .ref aM, .ref aA, .ref aK_ranks, .ref aK_clashes, .int K_keptPlaces, .int K_changes, .int K_hintChange, .int K_hintLine, .int K_hintPlace])), (aL, .inr (1, [.ref aL_kinds, .ref aL_vs, .ref aL_ws, .ref aL_roles, .ref aL_mates, .int L_many])), (aL_roles, eI cI 16 L_roles), (aM, .inr (4, [.ref aM_numbers, .ref aM_ranks, .ref aM_ahead, .int M_length, .ref aM_ways, .int M_waysCounted])), (aA, .inr (0, [.ref aA_row, .int A_length])), (aA_row, eI cI 16 A_row)] [(aK, .inr (3, [.ref aL, .ref aM, .ref aA, .ref aK_ranks, .ref aK_clashes, .int K_keptPlaces, .int out, .int K_hintChange, .int K_hintLine, .int K_hintPlace])), (aL, .inr (1, [.ref aL_kinds, .ref aL_vs, .ref aL_ws, .ref aL_roles, .ref aL_mates, .int L_many])), (aL_roles, eI cI 16 L_roles), (aM, .inr (4, [.ref aM_numbers, .ref aM_ranks, .ref aM_ahead, .int M_length, .ref aM_ways, .int M_waysCounted])), (aA, .inr (0, [.ref aA_row, .int A_length])), (aA_row, eI cI 16 A_row)] sz) 0 0 (va_A [(aK, .inr (3, [.ref aL, .ref aM, .ref aA, .ref aK_ranks, .ref aK_clashes, .int K_keptPlaces, .int K_changes, .int K_hintChange, .int K_hintLine, .int K_hintPlace])), (aL, .inr (1, [.ref aL_kinds, .ref aL_vs, .ref aL_ws, .ref aL_roles, .ref aL_mates, .int L_many])), (aL_roles, eI cI 16 L_roles), (aM, .inr (4, [.ref aM_numbers, .ref aM_ranks, .ref aM_ahead, .int M_length, .ref aM_ways, .int M_waysCounted])), (aA, .inr (0, [.ref aA_row, .int A_length])), (aA_row, eI cI 16 A_row)] sz) := by
  refine Met.ofW (cc := cX3_countChanges) (maxL := 4) (ret := none) (by decide) rfl ?_
  intro p e s m args below meth c s₁ B hml hv
  obtain ⟨rfl, hsz, hP, hK, hD0⟩ := hv
  have hx := B.exec
  have hb := B.bytes
  have hr := B.returns
  have hts := atoms_spec (ws := wsX3_countChanges) B.pre
  have hown : s.vm.findClass RX3 = some m.cls := findClass_of_methodNamed B.named
  have hlocks := B.notSynchronized
  have iX0 : ∀ w ∈ wsX00, w ∈ wsX3_countChanges := by decide +kernel
  have iX3 : ∀ w ∈ wsX30, w ∈ wsX3_countChanges := by decide +kernel
  have iX4 : ∀ w ∈ wsX40, w ∈ wsX3_countChanges := by decide +kernel
  have k18 := hts (.fieldLink RX3 18 "BlockMarker$Marking" "lines" "LBlockMarker$Lines;") (by decide +kernel)
  have k22 := hts (.fieldLink RX3 22 "BlockMarker$Marking" "model" "LBlockMarker$Model;") (by decide +kernel)
  have k26 := hts (.fieldLink RX3 26 "BlockMarker$Marking" "answer" "LBlockMarker$Answer;") (by decide +kernel)
  have k65 := hts (.fieldLink RX3 65 "BlockMarker$Marking" "keptPlaces" "I") (by decide +kernel)
  have k112 := hts (.fieldLink RX3 112 "BlockMarker$Marking" "changes" "I") (by decide +kernel)
  have n69 := va_Nw.use (A := ([.ref aK] : List Value).toArray) rfl (hK.2 (.fieldLinkNest "BlockMarker$Marking" 69 "BlockMarker$Answer" "length" "I" "BlockMarker") (by decide +kernel))
  have n106 := va_Nw.use (A := ([.ref aK] : List Value).toArray) rfl (hK.2 (.fieldLinkNest "BlockMarker$Marking" 106 "BlockMarker$Model" "length" "I" "BlockMarker") (by decide +kernel))
  subst hsz
  have hD := hD0.self (sz := s.heap.size)
  generalize hAe : va_A [(aK, .inr (3, [.ref aL, .ref aM, .ref aA, .ref aK_ranks, .ref aK_clashes, .int K_keptPlaces, .int K_changes, .int K_hintChange, .int K_hintLine, .int K_hintPlace])), (aL, .inr (1, [.ref aL_kinds, .ref aL_vs, .ref aL_ws, .ref aL_roles, .ref aL_mates, .int L_many])), (aL_roles, eI cI 16 L_roles), (aM, .inr (4, [.ref aM_numbers, .ref aM_ranks, .ref aM_ahead, .int M_length, .ref aM_ways, .int M_waysCounted])), (aA, .inr (0, [.ref aA_row, .int A_length])), (aA_row, eI cI 16 A_row)] s.heap.size = A at hD ⊢
  have hA : ∀ q : Nat, s.heap.size ≤ q → A q := fun q h => by rw [← hAe]; exact Or.inr h
  have hS : va_S A s.heap s.heap [] := va_S.rf
  have hl := lv_entry ([.ref aK]) (n := 4) (Nat.le_of_ble_eq_true rfl)
  rw [lg_entry_eq]
  generalize (lg_sl ([.ref aK]) ++ List.replicate (4 - (lg_sl ([.ref aK])).length) Slot.unset).toArray = ls at hl ⊢
  have hl : lv_has ls 4 [(0, .ref aK)] := hl
  generalize hQQ : MQ below _ _ s 0 0 _ = QQ
  replace hQQ := hQQ.symm
  have b_52 : ∀ (k18 : Int32 → Int32 → Int32 → Int32 → Int32 → (Nat → Int32) → Int32 → Int32 → (Nat → Int32) → Option (Int32)) (hk18 : ∀ (x1 : Int32) (x2 : Int32) (K_changes : Int32), k18 x1 x2 K_keptPlaces K_changes L_many L_roles M_length A_length A_row = some out → ∀ (H : Heap) (locs : List Loc) (ls : Array Slot), va_P D vwCl [(aK, .inr (3, [.ref aL, .ref aM, .ref aA, .ref aK_ranks, .ref aK_clashes, .int K_keptPlaces, .int K_changes, .int K_hintChange, .int K_hintLine, .int K_hintPlace])), (aL, .inr (1, [.ref aL_kinds, .ref aL_vs, .ref aL_ws, .ref aL_roles, .ref aL_mates, .int L_many])), (aL_roles, eI cI 16 L_roles), (aM, .inr (4, [.ref aM_numbers, .ref aM_ranks, .ref aM_ahead, .int M_length, .ref aM_ways, .int M_waysCounted])), (aA, .inr (0, [.ref aA_row, .int A_length])), (aA_row, eI cI 16 A_row)] H → va_D A [(aK, .inr (3, [.ref aL, .ref aM, .ref aA, .ref aK_ranks, .ref aK_clashes, .int K_keptPlaces, .int K_changes, .int K_hintChange, .int K_hintLine, .int K_hintPlace])), (aL, .inr (1, [.ref aL_kinds, .ref aL_vs, .ref aL_ws, .ref aL_roles, .ref aL_mates, .int L_many])), (aL_roles, eI cI 16 L_roles), (aM, .inr (4, [.ref aM_numbers, .ref aM_ranks, .ref aM_ahead, .int M_length, .ref aM_ways, .int M_waysCounted])), (aA, .inr (0, [.ref aA_row, .int A_length])), (aA_row, eI cI 16 A_row)] → va_S A s.heap H locs → lv_has ls 4 [(0, .ref aK), (1, .int x1), (2, .int x2)] → W p l e (headSpec wsX3_countChanges { frames := 2, cells := 0, slots := 0, locals := 42 }).room s m ([.ref aK] : List Value).toArray below meth c H locs 0 0 QQ (F0 m 18 ls [])), ∀ (x1 : Int32) (x2 : Int32) (t0 : Int32) (K_changes : Int32), fX3_countChanges_b52 k18 x1 x2 t0 K_keptPlaces K_changes L_many L_roles M_length A_length A_row = some out → ∀ (H : Heap) (locs : List Loc) (ls : Array Slot), va_P D vwCl [(aK, .inr (3, [.ref aL, .ref aM, .ref aA, .ref aK_ranks, .ref aK_clashes, .int K_keptPlaces, .int K_changes, .int K_hintChange, .int K_hintLine, .int K_hintPlace])), (aL, .inr (1, [.ref aL_kinds, .ref aL_vs, .ref aL_ws, .ref aL_roles, .ref aL_mates, .int L_many])), (aL_roles, eI cI 16 L_roles), (aM, .inr (4, [.ref aM_numbers, .ref aM_ranks, .ref aM_ahead, .int M_length, .ref aM_ways, .int M_waysCounted])), (aA, .inr (0, [.ref aA_row, .int A_length])), (aA_row, eI cI 16 A_row)] H → va_D A [(aK, .inr (3, [.ref aL, .ref aM, .ref aA, .ref aK_ranks, .ref aK_clashes, .int K_keptPlaces, .int K_changes, .int K_hintChange, .int K_hintLine, .int K_hintPlace])), (aL, .inr (1, [.ref aL_kinds, .ref aL_vs, .ref aL_ws, .ref aL_roles, .ref aL_mates, .int L_many])), (aL_roles, eI cI 16 L_roles), (aM, .inr (4, [.ref aM_numbers, .ref aM_ranks, .ref aM_ahead, .int M_length, .ref aM_ways, .int M_waysCounted])), (aA, .inr (0, [.ref aA_row, .int A_length])), (aA_row, eI cI 16 A_row)] → va_S A s.heap H locs → lv_has ls 4 [(0, .ref aK), (1, .int x1), (2, .int x2)] → W p l e (headSpec wsX3_countChanges { frames := 2, cells := 0, slots := 0, locals := 42 }).room s m ([.ref aK] : List Value).toArray below meth c H locs 0 0 QQ (F0 m 52 ls [.int t0]) := by
    intro k18 hk18 x1 x2 t0 K_changes hf H locs ls hP hD hS hl
    unfold fX3_countChanges_b52 at hf
    refine lv_istore_n (lv' := [(3, .int t0), (0, .ref aK), (1, .int x1), (2, .int x2)]) hx hb dX3_countChanges_52 rfl hl (by decide) rfl (fun ls hl => ?_)
    refine lv_iload_n hx hb dX3_countChanges_53 rfl (lv_at hl 2 rfl) ?_
    refine lv_iload_n hx hb dX3_countChanges_54 rfl (lv_at hl 0 rfl) ?_
    refine lv_if_eq (tgt := 62) hx hb dX3_countChanges_55 (by decide) (fun c55 => ?_) (fun c55 => ?_)
    · have hf := ifp hf c55
      refine lv_iconst (v := (1 : Int32)) hx hb dX3_countChanges_62 (by decide) ?_
      refine lv_iadd hx hb dX3_countChanges_63 ?_
      refine lv_istore_n (lv' := [(1, .int (x1 + (1 : Int32))), (3, .int t0), (0, .ref aK), (2, .int x2)]) hx hb dX3_countChanges_64 rfl hl (by decide) rfl (fun ls hl => ?_)
      refine lv_iinc (v := (x2 + (1 : Int32))) (lv' := [(2, .int (x2 + (1 : Int32))), (1, .int (x1 + (1 : Int32))), (3, .int t0), (0, .ref aK)]) hx hb dX3_countChanges_65 hl (k := 3) rfl rfl (by decide) rfl (fun ls hl => ?_)
      refine lv_goto (tgt := 18) hx hb dX3_countChanges_68 (by decide) ?_
      exact hk18 (x1 + (1 : Int32)) (x2 + (1 : Int32)) K_changes hf _ _ _ hP hD hS (lv_sub hl [3, 1, 0] rfl)
    · have hf := ifn hf c55
      refine lv_iconst (v := (0 : Int32)) hx hb dX3_countChanges_58 (by decide) ?_
      refine lv_goto (tgt := 63) hx hb dX3_countChanges_59 (by decide) ?_
      refine lv_iadd hx hb dX3_countChanges_63 ?_
      refine lv_istore_n (lv' := [(1, .int (x1 + (0 : Int32))), (3, .int t0), (0, .ref aK), (2, .int x2)]) hx hb dX3_countChanges_64 rfl hl (by decide) rfl (fun ls hl => ?_)
      refine lv_iinc (v := (x2 + (1 : Int32))) (lv' := [(2, .int (x2 + (1 : Int32))), (1, .int (x1 + (0 : Int32))), (3, .int t0), (0, .ref aK)]) hx hb dX3_countChanges_65 hl (k := 3) rfl rfl (by decide) rfl (fun ls hl => ?_)
      refine lv_goto (tgt := 18) hx hb dX3_countChanges_68 (by decide) ?_
      exact hk18 (x1 + (0 : Int32)) (x2 + (1 : Int32)) K_changes hf _ _ _ hP hD hS (lv_sub hl [3, 1, 0] rfl)
  have b_18 : ∀ (n : Nat), ∀ (x1 : Int32) (x2 : Int32) (K_changes : Int32), fX3_countChanges_h18  n x1 x2 K_keptPlaces K_changes L_many L_roles M_length A_length A_row = some out → ∀ (H : Heap) (locs : List Loc) (ls : Array Slot), va_P D vwCl [(aK, .inr (3, [.ref aL, .ref aM, .ref aA, .ref aK_ranks, .ref aK_clashes, .int K_keptPlaces, .int K_changes, .int K_hintChange, .int K_hintLine, .int K_hintPlace])), (aL, .inr (1, [.ref aL_kinds, .ref aL_vs, .ref aL_ws, .ref aL_roles, .ref aL_mates, .int L_many])), (aL_roles, eI cI 16 L_roles), (aM, .inr (4, [.ref aM_numbers, .ref aM_ranks, .ref aM_ahead, .int M_length, .ref aM_ways, .int M_waysCounted])), (aA, .inr (0, [.ref aA_row, .int A_length])), (aA_row, eI cI 16 A_row)] H → va_D A [(aK, .inr (3, [.ref aL, .ref aM, .ref aA, .ref aK_ranks, .ref aK_clashes, .int K_keptPlaces, .int K_changes, .int K_hintChange, .int K_hintLine, .int K_hintPlace])), (aL, .inr (1, [.ref aL_kinds, .ref aL_vs, .ref aL_ws, .ref aL_roles, .ref aL_mates, .int L_many])), (aL_roles, eI cI 16 L_roles), (aM, .inr (4, [.ref aM_numbers, .ref aM_ranks, .ref aM_ahead, .int M_length, .ref aM_ways, .int M_waysCounted])), (aA, .inr (0, [.ref aA_row, .int A_length])), (aA_row, eI cI 16 A_row)] → va_S A s.heap H locs → lv_has ls 4 [(0, .ref aK), (1, .int x1), (2, .int x2)] → W p l e (headSpec wsX3_countChanges { frames := 2, cells := 0, slots := 0, locals := 42 }).room s m ([.ref aK] : List Value).toArray below meth c H locs 0 0 QQ (F0 m 18 ls []) := by
    intro  n
    induction n with
    | zero => intro x1 x2 K_changes hf; exact nomatch (show (none : Option (Int32)) = some out from hf)
    | succ n ih =>
      intro x1 x2 K_changes hf H locs ls hP hD hS hl
      replace hf : uX3_countChanges_h18  (fX3_countChanges_h18  n) x1 x2 K_keptPlaces K_changes L_many L_roles M_length A_length A_row = some out := hf
      unfold uX3_countChanges_h18 at hf
      refine lv_iload_n hx hb dX3_countChanges_18 rfl (lv_at hl 2 rfl) ?_
      refine lv_aload_n hx hb dX3_countChanges_19 rfl (lv_at hl 0 rfl) ?_
      refine va_get (D := D) (ci := 3) (v := .ref aA) (C := RX3) (T := TX3) (N := 10) hx hb hts iX3 hown hK.1 hP 0 rfl rfl 2 (by decide) k26 (fun _ h9 => h9) rfl dX3_countChanges_20 ?_
      refine va_getN (D := D) (ci := 0) (v := .int A_length) (C := RX0) (T := TX0) (N := 2) hx hb hts iX0 hown hK.1 hP 4 rfl rfl 1 (by decide) n69 (fun _ h9 => h9) rfl dX3_countChanges_23 ?_
      refine lv_icmp_ge (tgt := 71) hx hb dX3_countChanges_26 (by decide) (fun c26 => ?_) (fun c26 => ?_)
      · have hf := ifp hf c26
        refine lv_aload_n hx hb dX3_countChanges_71 rfl (lv_at hl 0 rfl) ?_
        refine lv_iload_n hx hb dX3_countChanges_72 rfl (lv_at hl 1 rfl) ?_
        refine va_put (D := D) (ci := 3) (v := .int x1) (ty := .int) (C := RX3) (T := TX3) (N := 10) hx hb hts iX3 tyX3 tyX3_ok nmX3 hown hK.1 hP hD hS 0 rfl rfl 6 (by decide) k112 (fun _ h9 => h9) rfl (by decide +kernel) rfl rfl (Nat.le_of_ble_eq_true rfl) dX3_countChanges_73 (fun H locs hP hD hS => ?_)
        have hP : va_P D vwCl [(aK, .inr (3, [.ref aL, .ref aM, .ref aA, .ref aK_ranks, .ref aK_clashes, .int K_keptPlaces, .int x1, .int K_hintChange, .int K_hintLine, .int K_hintPlace])), (aL, .inr (1, [.ref aL_kinds, .ref aL_vs, .ref aL_ws, .ref aL_roles, .ref aL_mates, .int L_many])), (aL_roles, eI cI 16 L_roles), (aM, .inr (4, [.ref aM_numbers, .ref aM_ranks, .ref aM_ahead, .int M_length, .ref aM_ways, .int M_waysCounted])), (aA, .inr (0, [.ref aA_row, .int A_length])), (aA_row, eI cI 16 A_row)] H := hP
        have hD : va_D A [(aK, .inr (3, [.ref aL, .ref aM, .ref aA, .ref aK_ranks, .ref aK_clashes, .int K_keptPlaces, .int x1, .int K_hintChange, .int K_hintLine, .int K_hintPlace])), (aL, .inr (1, [.ref aL_kinds, .ref aL_vs, .ref aL_ws, .ref aL_roles, .ref aL_mates, .int L_many])), (aL_roles, eI cI 16 L_roles), (aM, .inr (4, [.ref aM_numbers, .ref aM_ranks, .ref aM_ahead, .int M_length, .ref aM_ways, .int M_waysCounted])), (aA, .inr (0, [.ref aA_row, .int A_length])), (aA_row, eI cI 16 A_row)] := hD
        rw [hQQ]
        exact W.vret hx hb hr (fun t ht hW => by rw [← Option.some.inj hf]; rw [← hAe] at hD hS; exact ⟨⟨(), rfl, trivial, by rw [ht]; exact hP, hD⟩, hS.F ht⟩) hS.2.2 dX3_countChanges_76
      · have hf := ifn hf c26
        refine lv_aload_n hx hb dX3_countChanges_29 rfl (lv_at hl 0 rfl) ?_
        refine va_get (D := D) (ci := 3) (v := .ref aL) (C := RX3) (T := TX3) (N := 10) hx hb hts iX3 hown hK.1 hP 0 rfl rfl 0 (by decide) k18 (fun _ h9 => h9) rfl dX3_countChanges_30 ?_
        refine lv_aload_n hx hb dX3_countChanges_33 rfl (lv_at hl 0 rfl) ?_
        refine va_get (D := D) (ci := 3) (v := .ref aA) (C := RX3) (T := TX3) (N := 10) hx hb hts iX3 hown hK.1 hP 0 rfl rfl 2 (by decide) k26 (fun _ h9 => h9) rfl dX3_countChanges_34 ?_
        refine lv_iload_n hx hb dX3_countChanges_37 rfl (lv_at hl 2 rfl) ?_
        refine bnd hf (fun o38 e38 hf => ?_)
        refine rdVi (As := [.int x2]) (rest := [.ref aL]) ⟨hx, hb, hml, hown, hts⟩ (tX0_lineAt l D cI cJ cG aA aA_row H x2 A_length A_row o38 e38) (cwV 1 hts gX3_countChanges_X0_lineAt rfl rfl rfl (by decide +kernel) ⟨Nat.le_of_ble_eq_true rfl, Nat.le_of_ble_eq_true rfl⟩) (va_recv (ci := 0) (q0 := 4) hK.1 hP rfl rfl) hK (hP.sub (ws' := [(aA, .inr (0, [.ref aA_row, .int A_length])), (aA_row, eI cI 16 A_row)]) [4, 5] rfl) rfl hl.1 rfl (lv_room (Nat.le_of_ble_eq_true rfl)) dX3_countChanges_38 ⟨Nat.le_of_ble_eq_true rfl, Nat.le_of_ble_eq_true rfl⟩ hS (fun locs hS => ?_)
        refine bnd hf (fun o41 e41 hf => ?_)
        refine rdVi (As := [.int o38]) (rest := []) ⟨hx, hb, hml, hown, hts⟩ (tX1_roleOf l D cI cJ cG aL aL_kinds aL_vs aL_ws aL_roles aL_mates H o38 L_many L_roles o41 e41) (cwV 1 hts gX3_countChanges_X1_roleOf rfl rfl rfl (by decide +kernel) ⟨Nat.le_of_ble_eq_true rfl, Nat.le_of_ble_eq_true rfl⟩) (va_recv (ci := 1) (q0 := 1) hK.1 hP rfl rfl) hK (hP.sub (ws' := [(aL, .inr (1, [.ref aL_kinds, .ref aL_vs, .ref aL_ws, .ref aL_roles, .ref aL_mates, .int L_many])), (aL_roles, eI cI 16 L_roles)]) [1, 2] rfl) rfl hl.1 rfl (lv_room (Nat.le_of_ble_eq_true rfl)) dX3_countChanges_41 ⟨Nat.le_of_ble_eq_true rfl, Nat.le_of_ble_eq_true rfl⟩ hS (fun locs hS => ?_)
        refine lv_if_ne (tgt := 51) hx hb dX3_countChanges_44 (by decide) (fun c44 => ?_) (fun c44 => ?_)
        · have hf := ifn hf c44
          refine lv_iconst (v := (0 : Int32)) hx hb dX3_countChanges_51 (by decide) ?_
          exact b_52 (fX3_countChanges_h18  n) ih x1 x2 (0 : Int32) K_changes hf _ _ _ hP hD hS (lv_sub hl [0, 1, 2] rfl)
        · have hf := ifp hf c44
          refine lv_iconst (v := (1 : Int32)) hx hb dX3_countChanges_47 (by decide) ?_
          refine lv_goto (tgt := 52) hx hb dX3_countChanges_48 (by decide) ?_
          exact b_52 (fX3_countChanges_h18  n) ih x1 x2 (1 : Int32) K_changes hf _ _ _ hP hD hS (lv_sub hl [0, 1, 2] rfl)
  generalize hHH : s.heap = H at hP ⊢
  have hS : va_S A s.heap H [] := by rw [← hHH]; exact va_S.rf
  generalize ([] : List Loc) = locs at hS ⊢
  unfold fX3_countChanges at hf
  refine lv_aload_n hx hb dX3_countChanges_0 rfl (lv_at hl 0 rfl) ?_
  refine va_get (D := D) (ci := 3) (v := .ref aM) (C := RX3) (T := TX3) (N := 10) hx hb hts iX3 hown hK.1 hP 0 rfl rfl 1 (by decide) k22 (fun _ h9 => h9) rfl dX3_countChanges_1 ?_
  refine va_getN (D := D) (ci := 4) (v := .int M_length) (C := RX4) (T := TX4) (N := 6) hx hb hts iX4 hown hK.1 hP 3 rfl rfl 3 (by decide) n106 (fun _ h9 => h9) rfl dX3_countChanges_4 ?_
  refine lv_aload_n hx hb dX3_countChanges_7 rfl (lv_at hl 0 rfl) ?_
  refine va_get (D := D) (ci := 3) (v := .int K_keptPlaces) (C := RX3) (T := TX3) (N := 10) hx hb hts iX3 hown hK.1 hP 0 rfl rfl 5 (by decide) k65 (fun _ h9 => h9) rfl dX3_countChanges_8 ?_
  refine bnd hf (fun o11 e11 hf => ?_)
  refine rdSi (As := [.int K_keptPlaces]) (rest := [.int M_length]) ⟨hx, hb, hml, hown, hts⟩ (tJ6_bitCount_0f7a4 l D cI cJ cG  H K_keptPlaces  o11 e11) (va_cwS 1 hts gX3_countChanges_J6_bitCount_0f7a4 rfl rfl rfl (by decide +kernel) ⟨Nat.le_of_ble_eq_true rfl, Nat.le_of_ble_eq_true rfl⟩) hK (hP.sub (ws' := []) [] rfl) rfl hl.1 rfl (lv_room (Nat.le_of_ble_eq_true rfl)) dX3_countChanges_11 ⟨Nat.le_of_ble_eq_true rfl, Nat.le_of_ble_eq_true rfl⟩ hS (fun locs hS => ?_)
  refine lv_isub hx hb dX3_countChanges_14 ?_
  refine lv_istore_n (lv' := [(1, .int (M_length - o11)), (0, .ref aK)]) hx hb dX3_countChanges_15 rfl hl (by decide) rfl (fun ls hl => ?_)
  refine lv_iconst (v := (0 : Int32)) hx hb dX3_countChanges_16 (by decide) ?_
  refine lv_istore_n (lv' := [(2, .int (0 : Int32)), (1, .int (M_length - o11)), (0, .ref aK)]) hx hb dX3_countChanges_17 rfl hl (by decide) rfl (fun ls hl => ?_)
  exact b_18 FU (M_length - o11) (0 : Int32) K_changes hf _ _ _ hP hD hS (lv_sub hl [2, 1, 0] rfl)

set_option maxHeartbeats 4000000 in
set_option maxRecDepth 100000 in
theorem tX3_hintAt (l : Launch) (D : va_G) (cI cJ cG : ClassId) (aK aL aM aA aK_ranks aK_clashes : Nat) (sz : Nat) (y1 : Int32) (y2 : Int32) (y3 : Int32) (K_keptPlaces : Int32) (K_changes : Int32) (K_hintChange : Int32) (K_hintLine : Int32) (K_hintPlace : Int32) (out : Int32 × Int32 × Int32) (hf : fX3_hintAt y1 y2 y3 K_hintChange K_hintLine K_hintPlace = some out) : Met l yX3_hintAt wsX3_hintAt ({ frames := 0, cells := 0, slots := 0, locals := 0 }) (va_Pc [.ref aK, .int y1, .int y2, .int y3] (wP D (tyL cI cJ cG) [(aK, .inr (3, [.ref aL, .ref aM, .ref aA, .ref aK_ranks, .ref aK_clashes, .int K_keptPlaces, .int K_changes, .int K_hintChange, .int K_hintLine, .int K_hintPlace]))] sz)) (wQv D  [(aK, .inr (3, [.ref aL, .ref aM, .ref aA, .ref aK_ranks, .ref aK_clashes, .int K_keptPlaces, .int K_changes, .int K_hintChange, .int K_hintLine, .int K_hintPlace]))] [(aK, .inr (3, [.ref aL, .ref aM, .ref aA, .ref aK_ranks, .ref aK_clashes, .int K_keptPlaces, .int K_changes, .int out.1, .int out.2.1, .int out.2.2]))] sz) 0 0 (va_A [(aK, .inr (3, [.ref aL, .ref aM, .ref aA, .ref aK_ranks, .ref aK_clashes, .int K_keptPlaces, .int K_changes, .int K_hintChange, .int K_hintLine, .int K_hintPlace]))] sz) := by
  refine Met.ofW (cc := cX3_hintAt) (maxL := 4) (ret := none) (by decide) rfl ?_
  intro p e s m args below meth c s₁ B hml hv
  obtain ⟨rfl, hsz, hP, hK, hD0⟩ := hv
  have hx := B.exec
  have hb := B.bytes
  have hr := B.returns
  have hts := atoms_spec (ws := wsX3_hintAt) B.pre
  have hown : s.vm.findClass RX3 = some m.cls := findClass_of_methodNamed B.named
  have hlocks := B.notSynchronized
  have iX3 : ∀ w ∈ wsX30, w ∈ wsX3_hintAt := by decide +kernel
  have k115 := hts (.fieldLink RX3 115 "BlockMarker$Marking" "hintChange" "I") (by decide +kernel)
  have k118 := hts (.fieldLink RX3 118 "BlockMarker$Marking" "hintLine" "I") (by decide +kernel)
  have k121 := hts (.fieldLink RX3 121 "BlockMarker$Marking" "hintPlace" "I") (by decide +kernel)
  subst hsz
  have hD := hD0.self (sz := s.heap.size)
  generalize hAe : va_A [(aK, .inr (3, [.ref aL, .ref aM, .ref aA, .ref aK_ranks, .ref aK_clashes, .int K_keptPlaces, .int K_changes, .int K_hintChange, .int K_hintLine, .int K_hintPlace]))] s.heap.size = A at hD ⊢
  have hA : ∀ q : Nat, s.heap.size ≤ q → A q := fun q h => by rw [← hAe]; exact Or.inr h
  have hS : va_S A s.heap s.heap [] := va_S.rf
  have hl := lv_entry ([.ref aK, .int y1, .int y2, .int y3]) (n := 4) (Nat.le_of_ble_eq_true rfl)
  rw [lg_entry_eq]
  generalize (lg_sl ([.ref aK, .int y1, .int y2, .int y3]) ++ List.replicate (4 - (lg_sl ([.ref aK, .int y1, .int y2, .int y3])).length) Slot.unset).toArray = ls at hl ⊢
  have hl : lv_has ls 4 [(0, .ref aK), (1, .int y1), (2, .int y2), (3, .int y3)] := hl
  generalize hQQ : MQ below _ _ s 0 0 _ = QQ
  replace hQQ := hQQ.symm
  generalize hHH : s.heap = H at hP ⊢
  have hS : va_S A s.heap H [] := by rw [← hHH]; exact va_S.rf
  generalize ([] : List Loc) = locs at hS ⊢
  unfold fX3_hintAt at hf
  refine lv_aload_n hx hb dX3_hintAt_0 rfl (lv_at hl 0 rfl) ?_
  refine lv_iload_n hx hb dX3_hintAt_1 rfl (lv_at hl 1 rfl) ?_
  refine va_put (D := D) (ci := 3) (v := .int y1) (ty := .int) (C := RX3) (T := TX3) (N := 10) hx hb hts iX3 tyX3 tyX3_ok nmX3 hown hK.1 hP hD hS 0 rfl rfl 7 (by decide) k115 (fun _ h9 => h9) rfl (by decide +kernel) rfl rfl (Nat.le_of_ble_eq_true rfl) dX3_hintAt_2 (fun H locs hP hD hS => ?_)
  have hP : va_P D vwCl [(aK, .inr (3, [.ref aL, .ref aM, .ref aA, .ref aK_ranks, .ref aK_clashes, .int K_keptPlaces, .int K_changes, .int y1, .int K_hintLine, .int K_hintPlace]))] H := hP
  have hD : va_D A [(aK, .inr (3, [.ref aL, .ref aM, .ref aA, .ref aK_ranks, .ref aK_clashes, .int K_keptPlaces, .int K_changes, .int y1, .int K_hintLine, .int K_hintPlace]))] := hD
  refine lv_aload_n hx hb dX3_hintAt_5 rfl (lv_at hl 0 rfl) ?_
  refine lv_iload_n hx hb dX3_hintAt_6 rfl (lv_at hl 2 rfl) ?_
  refine va_put (D := D) (ci := 3) (v := .int y2) (ty := .int) (C := RX3) (T := TX3) (N := 10) hx hb hts iX3 tyX3 tyX3_ok nmX3 hown hK.1 hP hD hS 0 rfl rfl 8 (by decide) k118 (fun _ h9 => h9) rfl (by decide +kernel) rfl rfl (Nat.le_of_ble_eq_true rfl) dX3_hintAt_7 (fun H locs hP hD hS => ?_)
  have hP : va_P D vwCl [(aK, .inr (3, [.ref aL, .ref aM, .ref aA, .ref aK_ranks, .ref aK_clashes, .int K_keptPlaces, .int K_changes, .int y1, .int y2, .int K_hintPlace]))] H := hP
  have hD : va_D A [(aK, .inr (3, [.ref aL, .ref aM, .ref aA, .ref aK_ranks, .ref aK_clashes, .int K_keptPlaces, .int K_changes, .int y1, .int y2, .int K_hintPlace]))] := hD
  refine lv_aload_n hx hb dX3_hintAt_10 rfl (lv_at hl 0 rfl) ?_
  refine lv_iload_n hx hb dX3_hintAt_11 rfl (lv_at hl 3 rfl) ?_
  refine va_put (D := D) (ci := 3) (v := .int y3) (ty := .int) (C := RX3) (T := TX3) (N := 10) hx hb hts iX3 tyX3 tyX3_ok nmX3 hown hK.1 hP hD hS 0 rfl rfl 9 (by decide) k121 (fun _ h9 => h9) rfl (by decide +kernel) rfl rfl (Nat.le_of_ble_eq_true rfl) dX3_hintAt_12 (fun H locs hP hD hS => ?_)
  have hP : va_P D vwCl [(aK, .inr (3, [.ref aL, .ref aM, .ref aA, .ref aK_ranks, .ref aK_clashes, .int K_keptPlaces, .int K_changes, .int y1, .int y2, .int y3]))] H := hP
  have hD : va_D A [(aK, .inr (3, [.ref aL, .ref aM, .ref aA, .ref aK_ranks, .ref aK_clashes, .int K_keptPlaces, .int K_changes, .int y1, .int y2, .int y3]))] := hD
  rw [hQQ]
  exact W.vret hx hb hr (fun t ht hW => by rw [← Option.some.inj hf]; rw [← hAe] at hD hS; exact ⟨⟨(), rfl, trivial, by rw [ht]; exact hP, hD⟩, hS.F ht⟩) hS.2.2 dX3_hintAt_15

set_option maxHeartbeats 4000000 in
set_option maxRecDepth 100000 in
theorem tX3_findDrop (l : Launch) (D : va_G) (cI cJ cG : ClassId) (aK aL aM aA aK_ranks aK_clashes aA_row : Nat) (sz : Nat)  (K_keptPlaces : Int32) (K_changes : Int32) (K_hintChange : Int32) (K_hintLine : Int32) (K_hintPlace : Int32) (K_ranks : (Nat → Int32)) (A_length : Int32) (A_row : (Nat → Int32)) (out : Int32 × Int32 × Int32 × Int32) (hf : fX3_findDrop K_hintChange K_hintLine K_hintPlace K_ranks A_length A_row = some out) : Met l yX3_findDrop wsX3_findDrop ({ frames := 2, cells := 0, slots := 0, locals := 42 }) (va_Pc [.ref aK] (wP D (tyL cI cJ cG) [(aK, .inr (3, [.ref aL, .ref aM, .ref aA, .ref aK_ranks, .ref aK_clashes, .int K_keptPlaces, .int K_changes, .int K_hintChange, .int K_hintLine, .int K_hintPlace])), (aK_ranks, eI cI 16 K_ranks), (aA, .inr (0, [.ref aA_row, .int A_length])), (aA_row, eI cI 16 A_row)] sz)) (wQi D out.1 [(aK, .inr (3, [.ref aL, .ref aM, .ref aA, .ref aK_ranks, .ref aK_clashes, .int K_keptPlaces, .int K_changes, .int K_hintChange, .int K_hintLine, .int K_hintPlace])), (aK_ranks, eI cI 16 K_ranks), (aA, .inr (0, [.ref aA_row, .int A_length])), (aA_row, eI cI 16 A_row)] [(aK, .inr (3, [.ref aL, .ref aM, .ref aA, .ref aK_ranks, .ref aK_clashes, .int K_keptPlaces, .int K_changes, .int out.2.1, .int out.2.2.1, .int out.2.2.2])), (aK_ranks, eI cI 16 K_ranks), (aA, .inr (0, [.ref aA_row, .int A_length])), (aA_row, eI cI 16 A_row)] sz) 0 0 (va_A [(aK, .inr (3, [.ref aL, .ref aM, .ref aA, .ref aK_ranks, .ref aK_clashes, .int K_keptPlaces, .int K_changes, .int K_hintChange, .int K_hintLine, .int K_hintPlace])), (aK_ranks, eI cI 16 K_ranks), (aA, .inr (0, [.ref aA_row, .int A_length])), (aA_row, eI cI 16 A_row)] sz) := by
  refine Met.ofW (cc := cX3_findDrop) (maxL := 2) (ret := (some .boolean)) (by decide) rfl ?_
  intro p e s m args below meth c s₁ B hml hv
  obtain ⟨rfl, hsz, hP, hK, hD0⟩ := hv
  have hx := B.exec
  have hb := B.bytes
  have hr := B.returns
  have hts := atoms_spec (ws := wsX3_findDrop) B.pre
  have hown : s.vm.findClass RX3 = some m.cls := findClass_of_methodNamed B.named
  have hlocks := B.notSynchronized
  have iX0 : ∀ w ∈ wsX00, w ∈ wsX3_findDrop := by decide +kernel
  have iX3 : ∀ w ∈ wsX30, w ∈ wsX3_findDrop := by decide +kernel
  have k9 := hts (.fieldLink RX3 9 "BlockMarker$Marking" "ranks" "[I") (by decide +kernel)
  have k26 := hts (.fieldLink RX3 26 "BlockMarker$Marking" "answer" "LBlockMarker$Answer;") (by decide +kernel)
  have n69 := va_Nw.use (A := ([.ref aK] : List Value).toArray) rfl (hK.2 (.fieldLinkNest "BlockMarker$Marking" 69 "BlockMarker$Answer" "length" "I" "BlockMarker") (by decide +kernel))
  subst hsz
  have hD := hD0.self (sz := s.heap.size)
  generalize hAe : va_A [(aK, .inr (3, [.ref aL, .ref aM, .ref aA, .ref aK_ranks, .ref aK_clashes, .int K_keptPlaces, .int K_changes, .int K_hintChange, .int K_hintLine, .int K_hintPlace])), (aK_ranks, eI cI 16 K_ranks), (aA, .inr (0, [.ref aA_row, .int A_length])), (aA_row, eI cI 16 A_row)] s.heap.size = A at hD ⊢
  have hA : ∀ q : Nat, s.heap.size ≤ q → A q := fun q h => by rw [← hAe]; exact Or.inr h
  have hS : va_S A s.heap s.heap [] := va_S.rf
  have hl := lv_entry ([.ref aK]) (n := 2) (Nat.le_of_ble_eq_true rfl)
  rw [lg_entry_eq]
  generalize (lg_sl ([.ref aK]) ++ List.replicate (2 - (lg_sl ([.ref aK])).length) Slot.unset).toArray = ls at hl ⊢
  have hl : lv_has ls 2 [(0, .ref aK)] := hl
  generalize hQQ : MQ below _ _ s 0 0 _ = QQ
  replace hQQ := hQQ.symm
  have b_2 : ∀ (n : Nat), ∀ (x1 : Int32) (K_hintChange : Int32) (K_hintLine : Int32) (K_hintPlace : Int32), fX3_findDrop_h2  n x1 K_hintChange K_hintLine K_hintPlace K_ranks A_length A_row = some out → ∀ (H : Heap) (locs : List Loc) (ls : Array Slot), va_P D vwCl [(aK, .inr (3, [.ref aL, .ref aM, .ref aA, .ref aK_ranks, .ref aK_clashes, .int K_keptPlaces, .int K_changes, .int K_hintChange, .int K_hintLine, .int K_hintPlace])), (aK_ranks, eI cI 16 K_ranks), (aA, .inr (0, [.ref aA_row, .int A_length])), (aA_row, eI cI 16 A_row)] H → va_D A [(aK, .inr (3, [.ref aL, .ref aM, .ref aA, .ref aK_ranks, .ref aK_clashes, .int K_keptPlaces, .int K_changes, .int K_hintChange, .int K_hintLine, .int K_hintPlace])), (aK_ranks, eI cI 16 K_ranks), (aA, .inr (0, [.ref aA_row, .int A_length])), (aA_row, eI cI 16 A_row)] → va_S A s.heap H locs → lv_has ls 2 [(0, .ref aK), (1, .int x1)] → W p l e (headSpec wsX3_findDrop { frames := 2, cells := 0, slots := 0, locals := 42 }).room s m ([.ref aK] : List Value).toArray below meth c H locs 0 0 QQ (F0 m 2 ls []) := by
    intro  n
    induction n with
    | zero => intro x1 K_hintChange K_hintLine K_hintPlace hf; exact nomatch (show (none : Option (Int32 × Int32 × Int32 × Int32)) = some out from hf)
    | succ n ih =>
      intro x1 K_hintChange K_hintLine K_hintPlace hf H locs ls hP hD hS hl
      replace hf : uX3_findDrop_h2  (fX3_findDrop_h2  n) x1 K_hintChange K_hintLine K_hintPlace K_ranks A_length A_row = some out := hf
      unfold uX3_findDrop_h2 at hf
      refine lv_iload_n hx hb dX3_findDrop_2 rfl (lv_at hl 1 rfl) ?_
      refine lv_aload_n hx hb dX3_findDrop_3 rfl (lv_at hl 0 rfl) ?_
      refine va_get (D := D) (ci := 3) (v := .ref aA) (C := RX3) (T := TX3) (N := 10) hx hb hts iX3 hown hK.1 hP 0 rfl rfl 2 (by decide) k26 (fun _ h9 => h9) rfl dX3_findDrop_4 ?_
      refine va_getN (D := D) (ci := 0) (v := .int A_length) (C := RX0) (T := TX0) (N := 2) hx hb hts iX0 hown hK.1 hP 2 rfl rfl 1 (by decide) n69 (fun _ h9 => h9) rfl dX3_findDrop_7 ?_
      refine lv_icmp_ge (tgt := 45) hx hb dX3_findDrop_10 (by decide) (fun c10 => ?_) (fun c10 => ?_)
      · have hf := ifp hf c10
        refine lv_iconst (v := (0 : Int32)) hx hb dX3_findDrop_45 (by decide) ?_
        rw [hQQ]
        exact W.zret (v := (0 : Int32)) hx hb hr rfl (fun t ht hW => by rw [← Option.some.inj hf]; rw [← hAe] at hD hS; exact ⟨⟨(0 : Int32), (), rfl, rfl, by rw [ht]; exact hP, hD⟩, hS.F ht⟩) hS.2.2 dX3_findDrop_46
      · have hf := ifn hf c10
        refine lv_aload_n hx hb dX3_findDrop_13 rfl (lv_at hl 0 rfl) ?_
        refine va_get (D := D) (ci := 3) (v := .ref aK_ranks) (C := RX3) (T := TX3) (N := 10) hx hb hts iX3 hown hK.1 hP 0 rfl rfl 3 (by decide) k9 (fun _ h9 => h9) rfl dX3_findDrop_14 ?_
        refine lv_iload_n hx hb dX3_findDrop_17 rfl (lv_at hl 1 rfl) ?_
        refine ckE hf (fun h18 hf => ?_)
        refine va_iald hx hb hK.1 hP 1 0 rfl rfl (inB_in h18) dX3_findDrop_18 ?_
        refine lv_iconst (v := (-1 : Int32)) hx hb dX3_findDrop_19 (by decide) ?_
        refine lv_icmp_ne (tgt := 39) hx hb dX3_findDrop_20 (by decide) (fun c20 => ?_) (fun c20 => ?_)
        · have hf := ifn hf c20
          refine lv_iinc (v := (x1 + (1 : Int32))) (lv' := [(1, .int (x1 + (1 : Int32))), (0, .ref aK)]) hx hb dX3_findDrop_39 hl (k := 1) rfl rfl (by decide) rfl (fun ls hl => ?_)
          refine lv_goto (tgt := 2) hx hb dX3_findDrop_42 (by decide) ?_
          exact ih (x1 + (1 : Int32)) K_hintChange K_hintLine K_hintPlace hf _ _ _ hP hD hS (lv_sub hl [1, 0] rfl)
        · have hf := ifp hf c20
          refine lv_aload_n hx hb dX3_findDrop_23 rfl (lv_at hl 0 rfl) ?_
          refine lv_iconst (v := (0 : Int32)) hx hb dX3_findDrop_24 (by decide) ?_
          refine lv_aload_n hx hb dX3_findDrop_25 rfl (lv_at hl 0 rfl) ?_
          refine va_get (D := D) (ci := 3) (v := .ref aA) (C := RX3) (T := TX3) (N := 10) hx hb hts iX3 hown hK.1 hP 0 rfl rfl 2 (by decide) k26 (fun _ h9 => h9) rfl dX3_findDrop_26 ?_
          refine lv_iload_n hx hb dX3_findDrop_29 rfl (lv_at hl 1 rfl) ?_
          refine bnd hf (fun o30 e30 hf => ?_)
          refine rdVi (As := [.int x1]) (rest := [.int (0 : Int32), .ref aK]) ⟨hx, hb, hml, hown, hts⟩ (tX0_lineAt l D cI cJ cG aA aA_row H x1 A_length A_row o30 e30) (cwV 1 hts gX3_findDrop_X0_lineAt rfl rfl rfl (by decide +kernel) ⟨Nat.le_of_ble_eq_true rfl, Nat.le_of_ble_eq_true rfl⟩) (va_recv (ci := 0) (q0 := 2) hK.1 hP rfl rfl) hK (hP.sub (ws' := [(aA, .inr (0, [.ref aA_row, .int A_length])), (aA_row, eI cI 16 A_row)]) [2, 3] rfl) rfl hl.1 rfl (lv_room (Nat.le_of_ble_eq_true rfl)) dX3_findDrop_30 ⟨Nat.le_of_ble_eq_true rfl, Nat.le_of_ble_eq_true rfl⟩ hS (fun locs hS => ?_)
          refine lv_iload_n hx hb dX3_findDrop_33 rfl (lv_at hl 1 rfl) ?_
          refine bnd hf (fun o34 e34 hf => ?_)
          refine wrVv (As := [.int (0 : Int32), .int o30, .int x1]) (rest := []) (cw := [(aK, .inr (3, [.ref aL, .ref aM, .ref aA, .ref aK_ranks, .ref aK_clashes, .int K_keptPlaces, .int K_changes, .int K_hintChange, .int K_hintLine, .int K_hintPlace]))]) (cw' := [(aK, .inr (3, [.ref aL, .ref aM, .ref aA, .ref aK_ranks, .ref aK_clashes, .int K_keptPlaces, .int K_changes, .int o34.1, .int o34.2.1, .int o34.2.2]))]) (wr := [(aK_ranks, eI cI 16 K_ranks), (aA, .inr (0, [.ref aA_row, .int A_length])), (aA_row, eI cI 16 A_row)]) (ws2 := [(aK, .inr (3, [.ref aL, .ref aM, .ref aA, .ref aK_ranks, .ref aK_clashes, .int K_keptPlaces, .int K_changes, .int o34.1, .int o34.2.1, .int o34.2.2])), (aK_ranks, eI cI 16 K_ranks), (aA, .inr (0, [.ref aA_row, .int A_length])), (aA_row, eI cI 16 A_row)]) ⟨hx, hb, hml, hown, hts⟩ (tX3_hintAt l D cI cJ cG aK aL aM aA aK_ranks aK_clashes H.size (0 : Int32) o30 x1 K_keptPlaces K_changes K_hintChange K_hintLine K_hintPlace o34 e34) (cwV 3 hts gX3_findDrop_X3_hintAt rfl rfl rfl (by decide +kernel) ⟨Nat.le_of_ble_eq_true rfl, Nat.le_of_ble_eq_true rfl⟩) (va_recv (ci := 3) (q0 := 0) hK.1 hP rfl rfl) hK hP hD hS hA [0] [1, 2, 3] [3, 0, 1, 2] rfl rfl rfl (by decide) (by decide) (by decide) (by decide) rfl hl.1 rfl (lv_room (Nat.le_of_ble_eq_true rfl)) dX3_findDrop_34 ⟨Nat.le_of_ble_eq_true rfl, Nat.le_of_ble_eq_true rfl⟩ (fun H locs hP hD hS => ?_)
          refine lv_iconst (v := (1 : Int32)) hx hb dX3_findDrop_37 (by decide) ?_
          rw [hQQ]
          exact W.zret (v := (1 : Int32)) hx hb hr rfl (fun t ht hW => by rw [← Option.some.inj hf]; rw [← hAe] at hD hS; exact ⟨⟨(1 : Int32), (), rfl, rfl, by rw [ht]; exact hP, hD⟩, hS.F ht⟩) hS.2.2 dX3_findDrop_38
  generalize hHH : s.heap = H at hP ⊢
  have hS : va_S A s.heap H [] := by rw [← hHH]; exact va_S.rf
  generalize ([] : List Loc) = locs at hS ⊢
  unfold fX3_findDrop at hf
  refine lv_iconst (v := (0 : Int32)) hx hb dX3_findDrop_0 (by decide) ?_
  refine lv_istore_n (lv' := [(1, .int (0 : Int32)), (0, .ref aK)]) hx hb dX3_findDrop_1 rfl hl (by decide) rfl (fun ls hl => ?_)
  exact b_2 FU (0 : Int32) K_hintChange K_hintLine K_hintPlace hf _ _ _ hP hD hS (lv_sub hl [1, 0] rfl)

set_option maxHeartbeats 4000000 in
set_option maxRecDepth 100000 in
theorem tX3_findSwap (l : Launch) (D : va_G) (cI cJ cG : ClassId) (aK aL aM aA aK_ranks aK_clashes aL_kinds aL_vs aL_ws aL_roles aL_mates aA_row : Nat) (sz : Nat)  (K_keptPlaces : Int32) (K_changes : Int32) (K_hintChange : Int32) (K_hintLine : Int32) (K_hintPlace : Int32) (L_many : Int32) (L_roles : (Nat → Int32)) (A_length : Int32) (A_row : (Nat → Int32)) (out : Int32 × Int32 × Int32 × Int32) (hf : fX3_findSwap K_hintChange K_hintLine K_hintPlace L_many L_roles A_length A_row = some out) : Met l yX3_findSwap wsX3_findSwap ({ frames := 2, cells := 0, slots := 0, locals := 42 }) (va_Pc [.ref aK] (wP D (tyL cI cJ cG) [(aK, .inr (3, [.ref aL, .ref aM, .ref aA, .ref aK_ranks, .ref aK_clashes, .int K_keptPlaces, .int K_changes, .int K_hintChange, .int K_hintLine, .int K_hintPlace])), (aL, .inr (1, [.ref aL_kinds, .ref aL_vs, .ref aL_ws, .ref aL_roles, .ref aL_mates, .int L_many])), (aL_roles, eI cI 16 L_roles), (aA, .inr (0, [.ref aA_row, .int A_length])), (aA_row, eI cI 16 A_row)] sz)) (wQi D out.1 [(aK, .inr (3, [.ref aL, .ref aM, .ref aA, .ref aK_ranks, .ref aK_clashes, .int K_keptPlaces, .int K_changes, .int K_hintChange, .int K_hintLine, .int K_hintPlace])), (aL, .inr (1, [.ref aL_kinds, .ref aL_vs, .ref aL_ws, .ref aL_roles, .ref aL_mates, .int L_many])), (aL_roles, eI cI 16 L_roles), (aA, .inr (0, [.ref aA_row, .int A_length])), (aA_row, eI cI 16 A_row)] [(aK, .inr (3, [.ref aL, .ref aM, .ref aA, .ref aK_ranks, .ref aK_clashes, .int K_keptPlaces, .int K_changes, .int out.2.1, .int out.2.2.1, .int out.2.2.2])), (aL, .inr (1, [.ref aL_kinds, .ref aL_vs, .ref aL_ws, .ref aL_roles, .ref aL_mates, .int L_many])), (aL_roles, eI cI 16 L_roles), (aA, .inr (0, [.ref aA_row, .int A_length])), (aA_row, eI cI 16 A_row)] sz) 0 0 (va_A [(aK, .inr (3, [.ref aL, .ref aM, .ref aA, .ref aK_ranks, .ref aK_clashes, .int K_keptPlaces, .int K_changes, .int K_hintChange, .int K_hintLine, .int K_hintPlace])), (aL, .inr (1, [.ref aL_kinds, .ref aL_vs, .ref aL_ws, .ref aL_roles, .ref aL_mates, .int L_many])), (aL_roles, eI cI 16 L_roles), (aA, .inr (0, [.ref aA_row, .int A_length])), (aA_row, eI cI 16 A_row)] sz) := by
  refine Met.ofW (cc := cX3_findSwap) (maxL := 3) (ret := (some .boolean)) (by decide) rfl ?_
  intro p e s m args below meth c s₁ B hml hv
  obtain ⟨rfl, hsz, hP, hK, hD0⟩ := hv
  have hx := B.exec
  have hb := B.bytes
  have hr := B.returns
  have hts := atoms_spec (ws := wsX3_findSwap) B.pre
  have hown : s.vm.findClass RX3 = some m.cls := findClass_of_methodNamed B.named
  have hlocks := B.notSynchronized
  have iX0 : ∀ w ∈ wsX00, w ∈ wsX3_findSwap := by decide +kernel
  have iX3 : ∀ w ∈ wsX30, w ∈ wsX3_findSwap := by decide +kernel
  have k18 := hts (.fieldLink RX3 18 "BlockMarker$Marking" "lines" "LBlockMarker$Lines;") (by decide +kernel)
  have k26 := hts (.fieldLink RX3 26 "BlockMarker$Marking" "answer" "LBlockMarker$Answer;") (by decide +kernel)
  have n69 := va_Nw.use (A := ([.ref aK] : List Value).toArray) rfl (hK.2 (.fieldLinkNest "BlockMarker$Marking" 69 "BlockMarker$Answer" "length" "I" "BlockMarker") (by decide +kernel))
  subst hsz
  have hD := hD0.self (sz := s.heap.size)
  generalize hAe : va_A [(aK, .inr (3, [.ref aL, .ref aM, .ref aA, .ref aK_ranks, .ref aK_clashes, .int K_keptPlaces, .int K_changes, .int K_hintChange, .int K_hintLine, .int K_hintPlace])), (aL, .inr (1, [.ref aL_kinds, .ref aL_vs, .ref aL_ws, .ref aL_roles, .ref aL_mates, .int L_many])), (aL_roles, eI cI 16 L_roles), (aA, .inr (0, [.ref aA_row, .int A_length])), (aA_row, eI cI 16 A_row)] s.heap.size = A at hD ⊢
  have hA : ∀ q : Nat, s.heap.size ≤ q → A q := fun q h => by rw [← hAe]; exact Or.inr h
  have hS : va_S A s.heap s.heap [] := va_S.rf
  have hl := lv_entry ([.ref aK]) (n := 3) (Nat.le_of_ble_eq_true rfl)
  rw [lg_entry_eq]
  generalize (lg_sl ([.ref aK]) ++ List.replicate (3 - (lg_sl ([.ref aK])).length) Slot.unset).toArray = ls at hl ⊢
  have hl : lv_has ls 3 [(0, .ref aK)] := hl
  generalize hQQ : MQ below _ _ s 0 0 _ = QQ
  replace hQQ := hQQ.symm
  have b_2 : ∀ (n : Nat), ∀ (x1 : Int32) (K_hintChange : Int32) (K_hintLine : Int32) (K_hintPlace : Int32), fX3_findSwap_h2  n x1 K_hintChange K_hintLine K_hintPlace L_many L_roles A_length A_row = some out → ∀ (H : Heap) (locs : List Loc) (ls : Array Slot), va_P D vwCl [(aK, .inr (3, [.ref aL, .ref aM, .ref aA, .ref aK_ranks, .ref aK_clashes, .int K_keptPlaces, .int K_changes, .int K_hintChange, .int K_hintLine, .int K_hintPlace])), (aL, .inr (1, [.ref aL_kinds, .ref aL_vs, .ref aL_ws, .ref aL_roles, .ref aL_mates, .int L_many])), (aL_roles, eI cI 16 L_roles), (aA, .inr (0, [.ref aA_row, .int A_length])), (aA_row, eI cI 16 A_row)] H → va_D A [(aK, .inr (3, [.ref aL, .ref aM, .ref aA, .ref aK_ranks, .ref aK_clashes, .int K_keptPlaces, .int K_changes, .int K_hintChange, .int K_hintLine, .int K_hintPlace])), (aL, .inr (1, [.ref aL_kinds, .ref aL_vs, .ref aL_ws, .ref aL_roles, .ref aL_mates, .int L_many])), (aL_roles, eI cI 16 L_roles), (aA, .inr (0, [.ref aA_row, .int A_length])), (aA_row, eI cI 16 A_row)] → va_S A s.heap H locs → lv_has ls 3 [(0, .ref aK), (1, .int x1)] → W p l e (headSpec wsX3_findSwap { frames := 2, cells := 0, slots := 0, locals := 42 }).room s m ([.ref aK] : List Value).toArray below meth c H locs 0 0 QQ (F0 m 2 ls []) := by
    intro  n
    induction n with
    | zero => intro x1 K_hintChange K_hintLine K_hintPlace hf; exact nomatch (show (none : Option (Int32 × Int32 × Int32 × Int32)) = some out from hf)
    | succ n ih =>
      intro x1 K_hintChange K_hintLine K_hintPlace hf H locs ls hP hD hS hl
      replace hf : uX3_findSwap_h2  (fX3_findSwap_h2  n) x1 K_hintChange K_hintLine K_hintPlace L_many L_roles A_length A_row = some out := hf
      unfold uX3_findSwap_h2 at hf
      refine lv_iload_n hx hb dX3_findSwap_2 rfl (lv_at hl 1 rfl) ?_
      refine lv_aload_n hx hb dX3_findSwap_3 rfl (lv_at hl 0 rfl) ?_
      refine va_get (D := D) (ci := 3) (v := .ref aA) (C := RX3) (T := TX3) (N := 10) hx hb hts iX3 hown hK.1 hP 0 rfl rfl 2 (by decide) k26 (fun _ h9 => h9) rfl dX3_findSwap_4 ?_
      refine va_getN (D := D) (ci := 0) (v := .int A_length) (C := RX0) (T := TX0) (N := 2) hx hb hts iX0 hown hK.1 hP 3 rfl rfl 1 (by decide) n69 (fun _ h9 => h9) rfl dX3_findSwap_7 ?_
      refine lv_icmp_ge (tgt := 49) hx hb dX3_findSwap_10 (by decide) (fun c10 => ?_) (fun c10 => ?_)
      · have hf := ifp hf c10
        refine lv_iconst (v := (0 : Int32)) hx hb dX3_findSwap_49 (by decide) ?_
        rw [hQQ]
        exact W.zret (v := (0 : Int32)) hx hb hr rfl (fun t ht hW => by rw [← Option.some.inj hf]; rw [← hAe] at hD hS; exact ⟨⟨(0 : Int32), (), rfl, rfl, by rw [ht]; exact hP, hD⟩, hS.F ht⟩) hS.2.2 dX3_findSwap_50
      · have hf := ifn hf c10
        refine lv_aload_n hx hb dX3_findSwap_13 rfl (lv_at hl 0 rfl) ?_
        refine va_get (D := D) (ci := 3) (v := .ref aA) (C := RX3) (T := TX3) (N := 10) hx hb hts iX3 hown hK.1 hP 0 rfl rfl 2 (by decide) k26 (fun _ h9 => h9) rfl dX3_findSwap_14 ?_
        refine lv_iload_n hx hb dX3_findSwap_17 rfl (lv_at hl 1 rfl) ?_
        refine bnd hf (fun o18 e18 hf => ?_)
        refine rdVi (As := [.int x1]) (rest := []) ⟨hx, hb, hml, hown, hts⟩ (tX0_lineAt l D cI cJ cG aA aA_row H x1 A_length A_row o18 e18) (cwV 1 hts gX3_findSwap_X0_lineAt rfl rfl rfl (by decide +kernel) ⟨Nat.le_of_ble_eq_true rfl, Nat.le_of_ble_eq_true rfl⟩) (va_recv (ci := 0) (q0 := 3) hK.1 hP rfl rfl) hK (hP.sub (ws' := [(aA, .inr (0, [.ref aA_row, .int A_length])), (aA_row, eI cI 16 A_row)]) [3, 4] rfl) rfl hl.1 rfl (lv_room (Nat.le_of_ble_eq_true rfl)) dX3_findSwap_18 ⟨Nat.le_of_ble_eq_true rfl, Nat.le_of_ble_eq_true rfl⟩ hS (fun locs hS => ?_)
        refine lv_istore_n (lv' := [(2, .int o18), (0, .ref aK), (1, .int x1)]) hx hb dX3_findSwap_21 rfl hl (by decide) rfl (fun ls hl => ?_)
        refine lv_aload_n hx hb dX3_findSwap_22 rfl (lv_at hl 1 rfl) ?_
        refine va_get (D := D) (ci := 3) (v := .ref aL) (C := RX3) (T := TX3) (N := 10) hx hb hts iX3 hown hK.1 hP 0 rfl rfl 0 (by decide) k18 (fun _ h9 => h9) rfl dX3_findSwap_23 ?_
        refine lv_iload_n hx hb dX3_findSwap_26 rfl (lv_at hl 0 rfl) ?_
        refine bnd hf (fun o27 e27 hf => ?_)
        refine rdVi (As := [.int o18]) (rest := []) ⟨hx, hb, hml, hown, hts⟩ (tX1_roleOf l D cI cJ cG aL aL_kinds aL_vs aL_ws aL_roles aL_mates H o18 L_many L_roles o27 e27) (cwV 1 hts gX3_findSwap_X1_roleOf rfl rfl rfl (by decide +kernel) ⟨Nat.le_of_ble_eq_true rfl, Nat.le_of_ble_eq_true rfl⟩) (va_recv (ci := 1) (q0 := 1) hK.1 hP rfl rfl) hK (hP.sub (ws' := [(aL, .inr (1, [.ref aL_kinds, .ref aL_vs, .ref aL_ws, .ref aL_roles, .ref aL_mates, .int L_many])), (aL_roles, eI cI 16 L_roles)]) [1, 2] rfl) rfl hl.1 rfl (lv_room (Nat.le_of_ble_eq_true rfl)) dX3_findSwap_27 ⟨Nat.le_of_ble_eq_true rfl, Nat.le_of_ble_eq_true rfl⟩ hS (fun locs hS => ?_)
        refine lv_iconst (v := (2 : Int32)) hx hb dX3_findSwap_30 (by decide) ?_
        refine lv_icmp_ne (tgt := 43) hx hb dX3_findSwap_31 (by decide) (fun c31 => ?_) (fun c31 => ?_)
        · have hf := ifn hf c31
          refine lv_iinc (v := (x1 + (1 : Int32))) (lv' := [(1, .int (x1 + (1 : Int32))), (2, .int o18), (0, .ref aK)]) hx hb dX3_findSwap_43 hl (k := 2) rfl rfl (by decide) rfl (fun ls hl => ?_)
          refine lv_goto (tgt := 2) hx hb dX3_findSwap_46 (by decide) ?_
          exact ih (x1 + (1 : Int32)) K_hintChange K_hintLine K_hintPlace hf _ _ _ hP hD hS (lv_sub hl [2, 0] rfl)
        · have hf := ifp hf c31
          refine lv_aload_n hx hb dX3_findSwap_34 rfl (lv_at hl 1 rfl) ?_
          refine lv_iconst (v := (3 : Int32)) hx hb dX3_findSwap_35 (by decide) ?_
          refine lv_iload_n hx hb dX3_findSwap_36 rfl (lv_at hl 0 rfl) ?_
          refine lv_iload_n hx hb dX3_findSwap_37 rfl (lv_at hl 2 rfl) ?_
          refine bnd hf (fun o38 e38 hf => ?_)
          refine wrVv (As := [.int (3 : Int32), .int o18, .int x1]) (rest := []) (cw := [(aK, .inr (3, [.ref aL, .ref aM, .ref aA, .ref aK_ranks, .ref aK_clashes, .int K_keptPlaces, .int K_changes, .int K_hintChange, .int K_hintLine, .int K_hintPlace]))]) (cw' := [(aK, .inr (3, [.ref aL, .ref aM, .ref aA, .ref aK_ranks, .ref aK_clashes, .int K_keptPlaces, .int K_changes, .int o38.1, .int o38.2.1, .int o38.2.2]))]) (wr := [(aL, .inr (1, [.ref aL_kinds, .ref aL_vs, .ref aL_ws, .ref aL_roles, .ref aL_mates, .int L_many])), (aL_roles, eI cI 16 L_roles), (aA, .inr (0, [.ref aA_row, .int A_length])), (aA_row, eI cI 16 A_row)]) (ws2 := [(aK, .inr (3, [.ref aL, .ref aM, .ref aA, .ref aK_ranks, .ref aK_clashes, .int K_keptPlaces, .int K_changes, .int o38.1, .int o38.2.1, .int o38.2.2])), (aL, .inr (1, [.ref aL_kinds, .ref aL_vs, .ref aL_ws, .ref aL_roles, .ref aL_mates, .int L_many])), (aL_roles, eI cI 16 L_roles), (aA, .inr (0, [.ref aA_row, .int A_length])), (aA_row, eI cI 16 A_row)]) ⟨hx, hb, hml, hown, hts⟩ (tX3_hintAt l D cI cJ cG aK aL aM aA aK_ranks aK_clashes H.size (3 : Int32) o18 x1 K_keptPlaces K_changes K_hintChange K_hintLine K_hintPlace o38 e38) (cwV 3 hts gX3_findSwap_X3_hintAt rfl rfl rfl (by decide +kernel) ⟨Nat.le_of_ble_eq_true rfl, Nat.le_of_ble_eq_true rfl⟩) (va_recv (ci := 3) (q0 := 0) hK.1 hP rfl rfl) hK hP hD hS hA [0] [1, 2, 3, 4] [4, 0, 1, 2, 3] rfl rfl rfl (by decide) (by decide) (by decide) (by decide) rfl hl.1 rfl (lv_room (Nat.le_of_ble_eq_true rfl)) dX3_findSwap_38 ⟨Nat.le_of_ble_eq_true rfl, Nat.le_of_ble_eq_true rfl⟩ (fun H locs hP hD hS => ?_)
          refine lv_iconst (v := (1 : Int32)) hx hb dX3_findSwap_41 (by decide) ?_
          rw [hQQ]
          exact W.zret (v := (1 : Int32)) hx hb hr rfl (fun t ht hW => by rw [← Option.some.inj hf]; rw [← hAe] at hD hS; exact ⟨⟨(1 : Int32), (), rfl, rfl, by rw [ht]; exact hP, hD⟩, hS.F ht⟩) hS.2.2 dX3_findSwap_42
  generalize hHH : s.heap = H at hP ⊢
  have hS : va_S A s.heap H [] := by rw [← hHH]; exact va_S.rf
  generalize ([] : List Loc) = locs at hS ⊢
  unfold fX3_findSwap at hf
  refine lv_iconst (v := (0 : Int32)) hx hb dX3_findSwap_0 (by decide) ?_
  refine lv_istore_n (lv' := [(1, .int (0 : Int32)), (0, .ref aK)]) hx hb dX3_findSwap_1 rfl hl (by decide) rfl (fun ls hl => ?_)
  exact b_2 FU (0 : Int32) K_hintChange K_hintLine K_hintPlace hf _ _ _ hP hD hS (lv_sub hl [1, 0] rfl)

set_option maxHeartbeats 4000000 in
set_option maxRecDepth 100000 in
theorem tX3_isKept (l : Launch) (D : va_G) (cI cJ cG : ClassId) (aK aL aM aA aK_ranks aK_clashes aA_row : Nat) (Hs : Heap) (y1 : Int32) (K_keptPlaces : Int32) (K_changes : Int32) (K_hintChange : Int32) (K_hintLine : Int32) (K_hintPlace : Int32) (A_length : Int32) (out : Int32) (hf : fX3_isKept y1 K_keptPlaces A_length = some out) : Met l yX3_isKept wsX3_isKept ({ frames := 1, cells := 0, slots := 0, locals := 21 }) (va_Pc [.ref aK, .int y1] (rP D (tyL cI cJ cG) [(aK, .inr (3, [.ref aL, .ref aM, .ref aA, .ref aK_ranks, .ref aK_clashes, .int K_keptPlaces, .int K_changes, .int K_hintChange, .int K_hintLine, .int K_hintPlace])), (aA, .inr (0, [.ref aA_row, .int A_length]))] Hs)) (rQi out Hs) 0 0 (fun _ => False) := by
  refine Met.ofW (cc := cX3_isKept) (maxL := 2) (ret := (some .boolean)) (by decide) rfl ?_
  intro p e s m args below meth c s₁ B hml hv
  obtain ⟨rfl, rfl, hP, hK⟩ := hv
  have hx := B.exec
  have hb := B.bytes
  have hr := B.returns
  have hts := atoms_spec (ws := wsX3_isKept) B.pre
  have hown : s.vm.findClass RX3 = some m.cls := findClass_of_methodNamed B.named
  have hlocks := B.notSynchronized
  have iX3 : ∀ w ∈ wsX30, w ∈ wsX3_isKept := by decide +kernel
  have k26 := hts (.fieldLink RX3 26 "BlockMarker$Marking" "answer" "LBlockMarker$Answer;") (by decide +kernel)
  have k65 := hts (.fieldLink RX3 65 "BlockMarker$Marking" "keptPlaces" "I") (by decide +kernel)
  have hS : va_S (fun _ => False) s.heap s.heap [] := va_S.rf
  have hl := lv_entry ([.ref aK, .int y1]) (n := 2) (Nat.le_of_ble_eq_true rfl)
  rw [lg_entry_eq]
  generalize (lg_sl ([.ref aK, .int y1]) ++ List.replicate (2 - (lg_sl ([.ref aK, .int y1])).length) Slot.unset).toArray = ls at hl ⊢
  have hl : lv_has ls 2 [(0, .ref aK), (1, .int y1)] := hl
  generalize hQQ : MQ below _ _ s 0 0 _ = QQ
  replace hQQ := hQQ.symm
  unfold fX3_isKept at hf
  refine lv_aload_n hx hb dX3_isKept_0 rfl (lv_at hl 0 rfl) ?_
  refine va_get (D := D) (ci := 3) (v := .ref aA) (C := RX3) (T := TX3) (N := 10) hx hb hts iX3 hown hK.1 hP 0 rfl rfl 2 (by decide) k26 (fun _ h9 => h9) rfl dX3_isKept_1 ?_
  refine lv_iload_n hx hb dX3_isKept_4 rfl (lv_at hl 1 rfl) ?_
  refine bnd hf (fun o5 e5 hf => ?_)
  refine rdVi (As := [.int y1]) (rest := []) ⟨hx, hb, hml, hown, hts⟩ (tX0_hasPlace l D cI cJ cG aA aA_row s.heap y1 A_length o5 e5) (cwV 1 hts gX3_isKept_X0_hasPlace rfl rfl rfl (by decide +kernel) ⟨Nat.le_of_ble_eq_true rfl, Nat.le_of_ble_eq_true rfl⟩) (va_recv (ci := 0) (q0 := 1) hK.1 hP rfl rfl) hK (hP.sub (ws' := [(aA, .inr (0, [.ref aA_row, .int A_length]))]) [1] rfl) rfl hl.1 rfl (lv_room (Nat.le_of_ble_eq_true rfl)) dX3_isKept_5 ⟨Nat.le_of_ble_eq_true rfl, Nat.le_of_ble_eq_true rfl⟩ hS (fun locs hS => ?_)
  refine lv_if_eq (tgt := 26) hx hb dX3_isKept_8 (by decide) (fun c8 => ?_) (fun c8 => ?_)
  · have hf := ifp hf c8
    refine lv_iconst (v := (0 : Int32)) hx hb dX3_isKept_26 (by decide) ?_
    rw [hQQ]
    exact W.zret (v := (0 : Int32)) hx hb hr rfl (fun t ht hW => ⟨⟨(0 : Int32), (), rfl, Option.some.inj hf, ht⟩, rF ht⟩) hS.2.2 dX3_isKept_27
  · have hf := ifn hf c8
    refine lv_aload_n hx hb dX3_isKept_11 rfl (lv_at hl 0 rfl) ?_
    refine va_get (D := D) (ci := 3) (v := .int K_keptPlaces) (C := RX3) (T := TX3) (N := 10) hx hb hts iX3 hown hK.1 hP 0 rfl rfl 5 (by decide) k65 (fun _ h9 => h9) rfl dX3_isKept_12 ?_
    refine lv_iload_n hx hb dX3_isKept_15 rfl (lv_at hl 1 rfl) ?_
    refine lv_ishr hx hb dX3_isKept_16 ?_
    refine lv_iconst (v := (1 : Int32)) hx hb dX3_isKept_17 (by decide) ?_
    refine lv_iand hx hb dX3_isKept_18 ?_
    refine lv_if_eq (tgt := 26) hx hb dX3_isKept_19 (by decide) (fun c19 => ?_) (fun c19 => ?_)
    · have hf := ifp hf c19
      refine lv_iconst (v := (0 : Int32)) hx hb dX3_isKept_26 (by decide) ?_
      rw [hQQ]
      exact W.zret (v := (0 : Int32)) hx hb hr rfl (fun t ht hW => ⟨⟨(0 : Int32), (), rfl, Option.some.inj hf, ht⟩, rF ht⟩) hS.2.2 dX3_isKept_27
    · have hf := ifn hf c19
      refine lv_iconst (v := (1 : Int32)) hx hb dX3_isKept_22 (by decide) ?_
      refine lv_goto (tgt := 27) hx hb dX3_isKept_23 (by decide) ?_
      rw [hQQ]
      exact W.zret (v := (1 : Int32)) hx hb hr rfl (fun t ht hW => ⟨⟨(1 : Int32), (), rfl, Option.some.inj hf, ht⟩, rF ht⟩) hS.2.2 dX3_isKept_27

set_option maxHeartbeats 4000000 in
set_option maxRecDepth 100000 in
theorem tX3_placeBehindKept (l : Launch) (D : va_G) (cI cJ cG : ClassId) (aK aL aM aA aK_ranks aK_clashes aM_numbers aM_ranks aM_ahead aM_ways aA_row : Nat) (Hs : Heap) (y1 : Int32) (y2 : Int32) (K_keptPlaces : Int32) (K_changes : Int32) (K_hintChange : Int32) (K_hintLine : Int32) (K_hintPlace : Int32) (K_ranks : (Nat → Int32)) (M_length : Int32) (M_waysCounted : Int32) (M_ahead : (Nat → Int32)) (A_length : Int32) (out : Int32) (hf : fX3_placeBehindKept y1 y2 K_keptPlaces K_ranks M_length M_ahead A_length = some out) : Met l yX3_placeBehindKept wsX3_placeBehindKept ({ frames := 2, cells := 0, slots := 0, locals := 42 }) (va_Pc [.ref aK, .int y1, .int y2] (rP D (tyL cI cJ cG) [(aK, .inr (3, [.ref aL, .ref aM, .ref aA, .ref aK_ranks, .ref aK_clashes, .int K_keptPlaces, .int K_changes, .int K_hintChange, .int K_hintLine, .int K_hintPlace])), (aK_ranks, eI cI 16 K_ranks), (aM, .inr (4, [.ref aM_numbers, .ref aM_ranks, .ref aM_ahead, .int M_length, .ref aM_ways, .int M_waysCounted])), (aM_ahead, eI cI 12 M_ahead), (aA, .inr (0, [.ref aA_row, .int A_length]))] Hs)) (rQi out Hs) 0 0 (fun _ => False) := by
  refine Met.ofW (cc := cX3_placeBehindKept) (maxL := 6) (ret := (some .int)) (by decide) rfl ?_
  intro p e s m args below meth c s₁ B hml hv
  obtain ⟨rfl, rfl, hP, hK⟩ := hv
  have hx := B.exec
  have hb := B.bytes
  have hr := B.returns
  have hts := atoms_spec (ws := wsX3_placeBehindKept) B.pre
  have hown : s.vm.findClass RX3 = some m.cls := findClass_of_methodNamed B.named
  have hlocks := B.notSynchronized
  have iX0 : ∀ w ∈ wsX00, w ∈ wsX3_placeBehindKept := by decide +kernel
  have iX3 : ∀ w ∈ wsX30, w ∈ wsX3_placeBehindKept := by decide +kernel
  have k9 := hts (.fieldLink RX3 9 "BlockMarker$Marking" "ranks" "[I") (by decide +kernel)
  have k22 := hts (.fieldLink RX3 22 "BlockMarker$Marking" "model" "LBlockMarker$Model;") (by decide +kernel)
  have k26 := hts (.fieldLink RX3 26 "BlockMarker$Marking" "answer" "LBlockMarker$Answer;") (by decide +kernel)
  have n69 := va_Nw.use (A := ([.ref aK, .int y1, .int y2] : List Value).toArray) rfl (hK.2 (.fieldLinkNest "BlockMarker$Marking" 69 "BlockMarker$Answer" "length" "I" "BlockMarker") (by decide +kernel))
  have hS : va_S (fun _ => False) s.heap s.heap [] := va_S.rf
  have hl := lv_entry ([.ref aK, .int y1, .int y2]) (n := 6) (Nat.le_of_ble_eq_true rfl)
  rw [lg_entry_eq]
  generalize (lg_sl ([.ref aK, .int y1, .int y2]) ++ List.replicate (6 - (lg_sl ([.ref aK, .int y1, .int y2])).length) Slot.unset).toArray = ls at hl ⊢
  have hl : lv_has ls 6 [(0, .ref aK), (1, .int y1), (2, .int y2)] := hl
  generalize hQQ : MQ below _ _ s 0 0 _ = QQ
  replace hQQ := hQQ.symm
  have b_8 : ∀ (n : Nat), ∀ (x1 : Int32) (x2 : Int32) (x3 : Int32) (x4 : Int32) (x5 : Int32), fX3_placeBehindKept_h8  n x1 x2 x3 x4 x5 K_keptPlaces K_ranks M_length M_ahead A_length = some out → ∀ (locs : List Loc) (ls : Array Slot), va_S (fun _ => False) s.heap s.heap locs → lv_has ls 6 [(0, .ref aK), (1, .int x1), (2, .int x2), (3, .int x3), (4, .int x4), (5, .int x5)] → W p l e (headSpec wsX3_placeBehindKept { frames := 2, cells := 0, slots := 0, locals := 42 }).room s m ([.ref aK, .int y1, .int y2] : List Value).toArray below meth c s.heap locs 0 0 QQ (F0 m 8 ls []) := by
    intro  n
    induction n with
    | zero => intro x1 x2 x3 x4 x5 hf; exact nomatch (show (none : Option (Int32)) = some out from hf)
    | succ n ih =>
      intro x1 x2 x3 x4 x5 hf locs ls hS hl
      replace hf : uX3_placeBehindKept_h8  (fX3_placeBehindKept_h8  n) x1 x2 x3 x4 x5 K_keptPlaces K_ranks M_length M_ahead A_length = some out := hf
      unfold uX3_placeBehindKept_h8 at hf
      refine lv_iload hx hb dX3_placeBehindKept_8 (lv_at hl 5 rfl) ?_
      refine lv_aload_n hx hb dX3_placeBehindKept_10 rfl (lv_at hl 0 rfl) ?_
      refine va_get (D := D) (ci := 3) (v := .ref aA) (C := RX3) (T := TX3) (N := 10) hx hb hts iX3 hown hK.1 hP 0 rfl rfl 2 (by decide) k26 (fun _ h9 => h9) rfl dX3_placeBehindKept_11 ?_
      refine va_getN (D := D) (ci := 0) (v := .int A_length) (C := RX0) (T := TX0) (N := 2) hx hb hts iX0 hown hK.1 hP 4 rfl rfl 1 (by decide) n69 (fun _ h9 => h9) rfl dX3_placeBehindKept_14 ?_
      refine lv_icmp_ge (tgt := 68) hx hb dX3_placeBehindKept_17 (by decide) (fun c17 => ?_) (fun c17 => ?_)
      · have hf := ifp hf c17
        refine lv_iload_n hx hb dX3_placeBehindKept_68 rfl (lv_at hl 3 rfl) ?_
        rw [hQQ]
        exact W.iret (v := x3) hx hb hr (fun t ht hW => ⟨⟨x3, (), rfl, Option.some.inj hf, ht⟩, rF ht⟩) hS.2.2 dX3_placeBehindKept_69
      · have hf := ifn hf c17
        refine lv_iload hx hb dX3_placeBehindKept_20 (lv_at hl 5 rfl) ?_
        refine lv_iload_n hx hb dX3_placeBehindKept_22 rfl (lv_at hl 2 rfl) ?_
        refine lv_icmp_ne (tgt := 29) hx hb dX3_placeBehindKept_23 (by decide) (fun c23 => ?_) (fun c23 => ?_)
        · have hf := ifn hf c23
          refine lv_iinc (v := (x4 + (1 : Int32))) (lv' := [(4, .int (x4 + (1 : Int32))), (0, .ref aK), (1, .int x1), (2, .int x2), (3, .int x3), (5, .int x5)]) hx hb dX3_placeBehindKept_29 hl (k := 4) rfl rfl (by decide) rfl (fun ls hl => ?_)
          refine lv_aload_n hx hb dX3_placeBehindKept_32 rfl (lv_at hl 1 rfl) ?_
          refine lv_iload hx hb dX3_placeBehindKept_33 (lv_at hl 5 rfl) ?_
          refine bnd hf (fun o35 e35 hf => ?_)
          refine rdVi (As := [.int x5]) (rest := []) ⟨hx, hb, hml, hown, hts⟩ (tX3_isKept l D cI cJ cG aK aL aM aA aK_ranks aK_clashes aA_row s.heap x5 K_keptPlaces K_changes K_hintChange K_hintLine K_hintPlace A_length o35 e35) (cwV 1 hts gX3_placeBehindKept_X3_isKept rfl rfl rfl (by decide +kernel) ⟨Nat.le_of_ble_eq_true rfl, Nat.le_of_ble_eq_true rfl⟩) (va_recv (ci := 3) (q0 := 0) hK.1 hP rfl rfl) hK (hP.sub (ws' := [(aK, .inr (3, [.ref aL, .ref aM, .ref aA, .ref aK_ranks, .ref aK_clashes, .int K_keptPlaces, .int K_changes, .int K_hintChange, .int K_hintLine, .int K_hintPlace])), (aA, .inr (0, [.ref aA_row, .int A_length]))]) [0, 4] rfl) rfl hl.1 rfl (lv_room (Nat.le_of_ble_eq_true rfl)) dX3_placeBehindKept_35 ⟨Nat.le_of_ble_eq_true rfl, Nat.le_of_ble_eq_true rfl⟩ hS (fun locs hS => ?_)
          refine lv_if_eq (tgt := 62) hx hb dX3_placeBehindKept_38 (by decide) (fun c38 => ?_) (fun c38 => ?_)
          · have hf := ifp hf c38
            refine lv_iinc (v := (x5 + (1 : Int32))) (lv' := [(5, .int (x5 + (1 : Int32))), (4, .int (x4 + (1 : Int32))), (0, .ref aK), (1, .int x1), (2, .int x2), (3, .int x3)]) hx hb dX3_placeBehindKept_62 hl (k := 5) rfl rfl (by decide) rfl (fun ls hl => ?_)
            refine lv_goto (tgt := 8) hx hb dX3_placeBehindKept_65 (by decide) ?_
            exact ih x1 x2 x3 (x4 + (1 : Int32)) (x5 + (1 : Int32)) hf _ _ hS (lv_sub hl [2, 3, 4, 5, 1, 0] rfl)
          · have hf := ifn hf c38
            refine lv_aload_n hx hb dX3_placeBehindKept_41 rfl (lv_at hl 1 rfl) ?_
            refine va_get (D := D) (ci := 3) (v := .ref aM) (C := RX3) (T := TX3) (N := 10) hx hb hts iX3 hown hK.1 hP 0 rfl rfl 1 (by decide) k22 (fun _ h9 => h9) rfl dX3_placeBehindKept_42 ?_
            refine lv_aload_n hx hb dX3_placeBehindKept_45 rfl (lv_at hl 1 rfl) ?_
            refine va_get (D := D) (ci := 3) (v := .ref aK_ranks) (C := RX3) (T := TX3) (N := 10) hx hb hts iX3 hown hK.1 hP 0 rfl rfl 3 (by decide) k9 (fun _ h9 => h9) rfl dX3_placeBehindKept_46 ?_
            refine lv_iload hx hb dX3_placeBehindKept_49 (lv_at hl 5 rfl) ?_
            refine ckE hf (fun h51 hf => ?_)
            refine va_iald hx hb hK.1 hP 1 0 rfl rfl (inB_in h51) dX3_placeBehindKept_51 ?_
            refine lv_iload_n hx hb dX3_placeBehindKept_52 rfl (lv_at hl 2 rfl) ?_
            refine bnd hf (fun o53 e53 hf => ?_)
            refine rdVi (As := [.int (K_ranks (x5).toNatClampNeg), .int x1]) (rest := []) ⟨hx, hb, hml, hown, hts⟩ (tX4_isAhead l D cI cJ cG aM aM_numbers aM_ranks aM_ahead aM_ways s.heap (K_ranks (x5).toNatClampNeg) x1 M_length M_waysCounted M_ahead o53 e53) (cwV 2 hts gX3_placeBehindKept_X4_isAhead rfl rfl rfl (by decide +kernel) ⟨Nat.le_of_ble_eq_true rfl, Nat.le_of_ble_eq_true rfl⟩) (va_recv (ci := 4) (q0 := 2) hK.1 hP rfl rfl) hK (hP.sub (ws' := [(aM, .inr (4, [.ref aM_numbers, .ref aM_ranks, .ref aM_ahead, .int M_length, .ref aM_ways, .int M_waysCounted])), (aM_ahead, eI cI 12 M_ahead)]) [2, 3] rfl) rfl hl.1 rfl (lv_room (Nat.le_of_ble_eq_true rfl)) dX3_placeBehindKept_53 ⟨Nat.le_of_ble_eq_true rfl, Nat.le_of_ble_eq_true rfl⟩ hS (fun locs hS => ?_)
            refine lv_if_eq (tgt := 62) hx hb dX3_placeBehindKept_56 (by decide) (fun c56 => ?_) (fun c56 => ?_)
            · have hf := ifp hf c56
              refine lv_iinc (v := (x5 + (1 : Int32))) (lv' := [(5, .int (x5 + (1 : Int32))), (4, .int (x4 + (1 : Int32))), (0, .ref aK), (1, .int x1), (2, .int x2), (3, .int x3)]) hx hb dX3_placeBehindKept_62 hl (k := 5) rfl rfl (by decide) rfl (fun ls hl => ?_)
              refine lv_goto (tgt := 8) hx hb dX3_placeBehindKept_65 (by decide) ?_
              exact ih x1 x2 x3 (x4 + (1 : Int32)) (x5 + (1 : Int32)) hf _ _ hS (lv_sub hl [2, 3, 4, 5, 1, 0] rfl)
            · have hf := ifn hf c56
              refine lv_iload hx hb dX3_placeBehindKept_59 (lv_at hl 0 rfl) ?_
              refine lv_istore_n (lv' := [(3, .int (x4 + (1 : Int32))), (4, .int (x4 + (1 : Int32))), (0, .ref aK), (1, .int x1), (2, .int x2), (5, .int x5)]) hx hb dX3_placeBehindKept_61 rfl hl (by decide) rfl (fun ls hl => ?_)
              refine lv_iinc (v := (x5 + (1 : Int32))) (lv' := [(5, .int (x5 + (1 : Int32))), (3, .int (x4 + (1 : Int32))), (4, .int (x4 + (1 : Int32))), (0, .ref aK), (1, .int x1), (2, .int x2)]) hx hb dX3_placeBehindKept_62 hl (k := 5) rfl rfl (by decide) rfl (fun ls hl => ?_)
              refine lv_goto (tgt := 8) hx hb dX3_placeBehindKept_65 (by decide) ?_
              exact ih x1 x2 (x4 + (1 : Int32)) (x4 + (1 : Int32)) (x5 + (1 : Int32)) hf _ _ hS (lv_sub hl [3, 4, 5, 1, 2, 0] rfl)
        · have hf := ifp hf c23
          refine lv_goto (tgt := 62) hx hb dX3_placeBehindKept_26 (by decide) ?_
          refine lv_iinc (v := (x5 + (1 : Int32))) (lv' := [(5, .int (x5 + (1 : Int32))), (0, .ref aK), (1, .int x1), (2, .int x2), (3, .int x3), (4, .int x4)]) hx hb dX3_placeBehindKept_62 hl (k := 5) rfl rfl (by decide) rfl (fun ls hl => ?_)
          refine lv_goto (tgt := 8) hx hb dX3_placeBehindKept_65 (by decide) ?_
          exact ih x1 x2 x3 x4 (x5 + (1 : Int32)) hf _ _ hS (lv_sub hl [1, 2, 3, 4, 5, 0] rfl)
  unfold fX3_placeBehindKept at hf
  refine lv_iconst (v := (0 : Int32)) hx hb dX3_placeBehindKept_0 (by decide) ?_
  refine lv_istore_n (lv' := [(3, .int (0 : Int32)), (0, .ref aK), (1, .int y1), (2, .int y2)]) hx hb dX3_placeBehindKept_1 rfl hl (by decide) rfl (fun ls hl => ?_)
  refine lv_iconst (v := (0 : Int32)) hx hb dX3_placeBehindKept_2 (by decide) ?_
  refine lv_istore (lv' := [(4, .int (0 : Int32)), (3, .int (0 : Int32)), (0, .ref aK), (1, .int y1), (2, .int y2)]) hx hb dX3_placeBehindKept_3 hl (by decide) rfl (fun ls hl => ?_)
  refine lv_iconst (v := (0 : Int32)) hx hb dX3_placeBehindKept_5 (by decide) ?_
  refine lv_istore (lv' := [(5, .int (0 : Int32)), (4, .int (0 : Int32)), (3, .int (0 : Int32)), (0, .ref aK), (1, .int y1), (2, .int y2)]) hx hb dX3_placeBehindKept_6 hl (by decide) rfl (fun ls hl => ?_)
  exact b_8 FU y1 y2 (0 : Int32) (0 : Int32) (0 : Int32) hf _ _ hS (lv_sub hl [3, 4, 5, 2, 1, 0] rfl)

set_option maxHeartbeats 4000000 in
set_option maxRecDepth 100000 in
theorem tX3_findAdd (l : Launch) (D : va_G) (cI cJ cG : ClassId) (aK aL aM aA aK_ranks aK_clashes aM_numbers aM_ranks aM_ahead aM_ways aA_row : Nat) (sz : Nat)  (K_keptPlaces : Int32) (K_changes : Int32) (K_hintChange : Int32) (K_hintLine : Int32) (K_hintPlace : Int32) (K_ranks : (Nat → Int32)) (M_length : Int32) (M_waysCounted : Int32) (M_numbers : (Nat → Int32)) (M_ahead : (Nat → Int32)) (A_length : Int32) (A_row : (Nat → Int32)) (out : Int32 × Int32 × Int32 × Int32) (hf : fX3_findAdd K_keptPlaces K_hintChange K_hintLine K_hintPlace K_ranks M_length M_numbers M_ahead A_length A_row = some out) : Met l yX3_findAdd wsX3_findAdd ({ frames := 3, cells := 0, slots := 0, locals := 67 }) (va_Pc [.ref aK] (wP D (tyL cI cJ cG) [(aK, .inr (3, [.ref aL, .ref aM, .ref aA, .ref aK_ranks, .ref aK_clashes, .int K_keptPlaces, .int K_changes, .int K_hintChange, .int K_hintLine, .int K_hintPlace])), (aK_ranks, eI cI 16 K_ranks), (aM, .inr (4, [.ref aM_numbers, .ref aM_ranks, .ref aM_ahead, .int M_length, .ref aM_ways, .int M_waysCounted])), (aM_numbers, eI cI 12 M_numbers), (aM_ahead, eI cI 12 M_ahead), (aA, .inr (0, [.ref aA_row, .int A_length])), (aA_row, eI cI 16 A_row)] sz)) (wQi D out.1 [(aK, .inr (3, [.ref aL, .ref aM, .ref aA, .ref aK_ranks, .ref aK_clashes, .int K_keptPlaces, .int K_changes, .int K_hintChange, .int K_hintLine, .int K_hintPlace])), (aK_ranks, eI cI 16 K_ranks), (aM, .inr (4, [.ref aM_numbers, .ref aM_ranks, .ref aM_ahead, .int M_length, .ref aM_ways, .int M_waysCounted])), (aM_numbers, eI cI 12 M_numbers), (aM_ahead, eI cI 12 M_ahead), (aA, .inr (0, [.ref aA_row, .int A_length])), (aA_row, eI cI 16 A_row)] [(aK, .inr (3, [.ref aL, .ref aM, .ref aA, .ref aK_ranks, .ref aK_clashes, .int K_keptPlaces, .int K_changes, .int out.2.1, .int out.2.2.1, .int out.2.2.2])), (aK_ranks, eI cI 16 K_ranks), (aM, .inr (4, [.ref aM_numbers, .ref aM_ranks, .ref aM_ahead, .int M_length, .ref aM_ways, .int M_waysCounted])), (aM_numbers, eI cI 12 M_numbers), (aM_ahead, eI cI 12 M_ahead), (aA, .inr (0, [.ref aA_row, .int A_length])), (aA_row, eI cI 16 A_row)] sz) 0 0 (va_A [(aK, .inr (3, [.ref aL, .ref aM, .ref aA, .ref aK_ranks, .ref aK_clashes, .int K_keptPlaces, .int K_changes, .int K_hintChange, .int K_hintLine, .int K_hintPlace])), (aK_ranks, eI cI 16 K_ranks), (aM, .inr (4, [.ref aM_numbers, .ref aM_ranks, .ref aM_ahead, .int M_length, .ref aM_ways, .int M_waysCounted])), (aM_numbers, eI cI 12 M_numbers), (aM_ahead, eI cI 12 M_ahead), (aA, .inr (0, [.ref aA_row, .int A_length])), (aA_row, eI cI 16 A_row)] sz) := by
  refine Met.ofW (cc := cX3_findAdd) (maxL := 3) (ret := (some .boolean)) (by decide) rfl ?_
  intro p e s m args below meth c s₁ B hml hv
  obtain ⟨rfl, hsz, hP, hK, hD0⟩ := hv
  have hx := B.exec
  have hb := B.bytes
  have hr := B.returns
  have hts := atoms_spec (ws := wsX3_findAdd) B.pre
  have hown : s.vm.findClass RX3 = some m.cls := findClass_of_methodNamed B.named
  have hlocks := B.notSynchronized
  have iX3 : ∀ w ∈ wsX30, w ∈ wsX3_findAdd := by decide +kernel
  have iX4 : ∀ w ∈ wsX40, w ∈ wsX3_findAdd := by decide +kernel
  have k22 := hts (.fieldLink RX3 22 "BlockMarker$Marking" "model" "LBlockMarker$Model;") (by decide +kernel)
  have k26 := hts (.fieldLink RX3 26 "BlockMarker$Marking" "answer" "LBlockMarker$Answer;") (by decide +kernel)
  have n106 := va_Nw.use (A := ([.ref aK] : List Value).toArray) rfl (hK.2 (.fieldLinkNest "BlockMarker$Marking" 106 "BlockMarker$Model" "length" "I" "BlockMarker") (by decide +kernel))
  subst hsz
  have hD := hD0.self (sz := s.heap.size)
  generalize hAe : va_A [(aK, .inr (3, [.ref aL, .ref aM, .ref aA, .ref aK_ranks, .ref aK_clashes, .int K_keptPlaces, .int K_changes, .int K_hintChange, .int K_hintLine, .int K_hintPlace])), (aK_ranks, eI cI 16 K_ranks), (aM, .inr (4, [.ref aM_numbers, .ref aM_ranks, .ref aM_ahead, .int M_length, .ref aM_ways, .int M_waysCounted])), (aM_numbers, eI cI 12 M_numbers), (aM_ahead, eI cI 12 M_ahead), (aA, .inr (0, [.ref aA_row, .int A_length])), (aA_row, eI cI 16 A_row)] s.heap.size = A at hD ⊢
  have hA : ∀ q : Nat, s.heap.size ≤ q → A q := fun q h => by rw [← hAe]; exact Or.inr h
  have hS : va_S A s.heap s.heap [] := va_S.rf
  have hl := lv_entry ([.ref aK]) (n := 3) (Nat.le_of_ble_eq_true rfl)
  rw [lg_entry_eq]
  generalize (lg_sl ([.ref aK]) ++ List.replicate (3 - (lg_sl ([.ref aK])).length) Slot.unset).toArray = ls at hl ⊢
  have hl : lv_has ls 3 [(0, .ref aK)] := hl
  generalize hQQ : MQ below _ _ s 0 0 _ = QQ
  replace hQQ := hQQ.symm
  have b_2 : ∀ (n : Nat), ∀ (x1 : Int32) (K_hintChange : Int32) (K_hintLine : Int32) (K_hintPlace : Int32), fX3_findAdd_h2  n x1 K_keptPlaces K_hintChange K_hintLine K_hintPlace K_ranks M_length M_numbers M_ahead A_length A_row = some out → ∀ (H : Heap) (locs : List Loc) (ls : Array Slot), va_P D vwCl [(aK, .inr (3, [.ref aL, .ref aM, .ref aA, .ref aK_ranks, .ref aK_clashes, .int K_keptPlaces, .int K_changes, .int K_hintChange, .int K_hintLine, .int K_hintPlace])), (aK_ranks, eI cI 16 K_ranks), (aM, .inr (4, [.ref aM_numbers, .ref aM_ranks, .ref aM_ahead, .int M_length, .ref aM_ways, .int M_waysCounted])), (aM_numbers, eI cI 12 M_numbers), (aM_ahead, eI cI 12 M_ahead), (aA, .inr (0, [.ref aA_row, .int A_length])), (aA_row, eI cI 16 A_row)] H → va_D A [(aK, .inr (3, [.ref aL, .ref aM, .ref aA, .ref aK_ranks, .ref aK_clashes, .int K_keptPlaces, .int K_changes, .int K_hintChange, .int K_hintLine, .int K_hintPlace])), (aK_ranks, eI cI 16 K_ranks), (aM, .inr (4, [.ref aM_numbers, .ref aM_ranks, .ref aM_ahead, .int M_length, .ref aM_ways, .int M_waysCounted])), (aM_numbers, eI cI 12 M_numbers), (aM_ahead, eI cI 12 M_ahead), (aA, .inr (0, [.ref aA_row, .int A_length])), (aA_row, eI cI 16 A_row)] → va_S A s.heap H locs → lv_has ls 3 [(0, .ref aK), (1, .int x1)] → W p l e (headSpec wsX3_findAdd { frames := 3, cells := 0, slots := 0, locals := 67 }).room s m ([.ref aK] : List Value).toArray below meth c H locs 0 0 QQ (F0 m 2 ls []) := by
    intro  n
    induction n with
    | zero => intro x1 K_hintChange K_hintLine K_hintPlace hf; exact nomatch (show (none : Option (Int32 × Int32 × Int32 × Int32)) = some out from hf)
    | succ n ih =>
      intro x1 K_hintChange K_hintLine K_hintPlace hf H locs ls hP hD hS hl
      replace hf : uX3_findAdd_h2  (fX3_findAdd_h2  n) x1 K_keptPlaces K_hintChange K_hintLine K_hintPlace K_ranks M_length M_numbers M_ahead A_length A_row = some out := hf
      unfold uX3_findAdd_h2 at hf
      refine lv_iload_n hx hb dX3_findAdd_2 rfl (lv_at hl 1 rfl) ?_
      refine lv_aload_n hx hb dX3_findAdd_3 rfl (lv_at hl 0 rfl) ?_
      refine va_get (D := D) (ci := 3) (v := .ref aM) (C := RX3) (T := TX3) (N := 10) hx hb hts iX3 hown hK.1 hP 0 rfl rfl 1 (by decide) k22 (fun _ h9 => h9) rfl dX3_findAdd_4 ?_
      refine va_getN (D := D) (ci := 4) (v := .int M_length) (C := RX4) (T := TX4) (N := 6) hx hb hts iX4 hown hK.1 hP 2 rfl rfl 3 (by decide) n106 (fun _ h9 => h9) rfl dX3_findAdd_7 ?_
      refine lv_icmp_ge (tgt := 53) hx hb dX3_findAdd_10 (by decide) (fun c10 => ?_) (fun c10 => ?_)
      · have hf := ifp hf c10
        refine lv_iconst (v := (0 : Int32)) hx hb dX3_findAdd_53 (by decide) ?_
        rw [hQQ]
        exact W.zret (v := (0 : Int32)) hx hb hr rfl (fun t ht hW => by rw [← Option.some.inj hf]; rw [← hAe] at hD hS; exact ⟨⟨(0 : Int32), (), rfl, rfl, by rw [ht]; exact hP, hD⟩, hS.F ht⟩) hS.2.2 dX3_findAdd_54
      · have hf := ifn hf c10
        refine lv_aload_n hx hb dX3_findAdd_13 rfl (lv_at hl 0 rfl) ?_
        refine va_get (D := D) (ci := 3) (v := .ref aM) (C := RX3) (T := TX3) (N := 10) hx hb hts iX3 hown hK.1 hP 0 rfl rfl 1 (by decide) k22 (fun _ h9 => h9) rfl dX3_findAdd_14 ?_
        refine lv_iload_n hx hb dX3_findAdd_17 rfl (lv_at hl 1 rfl) ?_
        refine bnd hf (fun o18 e18 hf => ?_)
        refine rdVi (As := [.int x1]) (rest := []) ⟨hx, hb, hml, hown, hts⟩ (tX4_lineOf l D cI cJ cG aM aM_numbers aM_ranks aM_ahead aM_ways H x1 M_length M_waysCounted M_numbers o18 e18) (cwV 1 hts gX3_findAdd_X4_lineOf rfl rfl rfl (by decide +kernel) ⟨Nat.le_of_ble_eq_true rfl, Nat.le_of_ble_eq_true rfl⟩) (va_recv (ci := 4) (q0 := 2) hK.1 hP rfl rfl) hK (hP.sub (ws' := [(aM, .inr (4, [.ref aM_numbers, .ref aM_ranks, .ref aM_ahead, .int M_length, .ref aM_ways, .int M_waysCounted])), (aM_numbers, eI cI 12 M_numbers)]) [2, 3] rfl) rfl hl.1 rfl (lv_room (Nat.le_of_ble_eq_true rfl)) dX3_findAdd_18 ⟨Nat.le_of_ble_eq_true rfl, Nat.le_of_ble_eq_true rfl⟩ hS (fun locs hS => ?_)
        refine lv_istore_n (lv' := [(2, .int o18), (0, .ref aK), (1, .int x1)]) hx hb dX3_findAdd_21 rfl hl (by decide) rfl (fun ls hl => ?_)
        refine lv_aload_n hx hb dX3_findAdd_22 rfl (lv_at hl 1 rfl) ?_
        refine va_get (D := D) (ci := 3) (v := .ref aA) (C := RX3) (T := TX3) (N := 10) hx hb hts iX3 hown hK.1 hP 0 rfl rfl 2 (by decide) k26 (fun _ h9 => h9) rfl dX3_findAdd_23 ?_
        refine lv_iload_n hx hb dX3_findAdd_26 rfl (lv_at hl 0 rfl) ?_
        refine bnd hf (fun o27 e27 hf => ?_)
        refine rdVi (As := [.int o18]) (rest := []) ⟨hx, hb, hml, hown, hts⟩ (tX0_holds l D cI cJ cG aA aA_row H o18 A_length A_row o27 e27) (cwV 1 hts gX3_findAdd_X0_holds rfl rfl rfl (by decide +kernel) ⟨Nat.le_of_ble_eq_true rfl, Nat.le_of_ble_eq_true rfl⟩) (va_recv (ci := 0) (q0 := 5) hK.1 hP rfl rfl) hK (hP.sub (ws' := [(aA, .inr (0, [.ref aA_row, .int A_length])), (aA_row, eI cI 16 A_row)]) [5, 6] rfl) rfl hl.1 rfl (lv_room (Nat.le_of_ble_eq_true rfl)) dX3_findAdd_27 ⟨Nat.le_of_ble_eq_true rfl, Nat.le_of_ble_eq_true rfl⟩ hS (fun locs hS => ?_)
        refine lv_if_ne (tgt := 47) hx hb dX3_findAdd_30 (by decide) (fun c30 => ?_) (fun c30 => ?_)
        · have hf := ifn hf c30
          refine lv_iinc (v := (x1 + (1 : Int32))) (lv' := [(1, .int (x1 + (1 : Int32))), (2, .int o18), (0, .ref aK)]) hx hb dX3_findAdd_47 hl (k := 2) rfl rfl (by decide) rfl (fun ls hl => ?_)
          refine lv_goto (tgt := 2) hx hb dX3_findAdd_50 (by decide) ?_
          exact ih (x1 + (1 : Int32)) K_hintChange K_hintLine K_hintPlace hf _ _ _ hP hD hS (lv_sub hl [2, 0] rfl)
        · have hf := ifp hf c30
          refine lv_aload_n hx hb dX3_findAdd_33 rfl (lv_at hl 1 rfl) ?_
          refine lv_iconst (v := (1 : Int32)) hx hb dX3_findAdd_34 (by decide) ?_
          refine lv_iload_n hx hb dX3_findAdd_35 rfl (lv_at hl 0 rfl) ?_
          refine lv_aload_n hx hb dX3_findAdd_36 rfl (lv_at hl 1 rfl) ?_
          refine lv_iload_n hx hb dX3_findAdd_37 rfl (lv_at hl 2 rfl) ?_
          refine lv_iconst (v := (-1 : Int32)) hx hb dX3_findAdd_38 (by decide) ?_
          refine bnd hf (fun o39 e39 hf => ?_)
          refine rdVi (As := [.int x1, .int (-1 : Int32)]) (rest := [.int o18, .int (1 : Int32), .ref aK]) ⟨hx, hb, hml, hown, hts⟩ (tX3_placeBehindKept l D cI cJ cG aK aL aM aA aK_ranks aK_clashes aM_numbers aM_ranks aM_ahead aM_ways aA_row H x1 (-1 : Int32) K_keptPlaces K_changes K_hintChange K_hintLine K_hintPlace K_ranks M_length M_waysCounted M_ahead A_length o39 e39) (cwV 2 hts gX3_findAdd_X3_placeBehindKept rfl rfl rfl (by decide +kernel) ⟨Nat.le_of_ble_eq_true rfl, Nat.le_of_ble_eq_true rfl⟩) (va_recv (ci := 3) (q0 := 0) hK.1 hP rfl rfl) hK (hP.sub (ws' := [(aK, .inr (3, [.ref aL, .ref aM, .ref aA, .ref aK_ranks, .ref aK_clashes, .int K_keptPlaces, .int K_changes, .int K_hintChange, .int K_hintLine, .int K_hintPlace])), (aK_ranks, eI cI 16 K_ranks), (aM, .inr (4, [.ref aM_numbers, .ref aM_ranks, .ref aM_ahead, .int M_length, .ref aM_ways, .int M_waysCounted])), (aM_ahead, eI cI 12 M_ahead), (aA, .inr (0, [.ref aA_row, .int A_length]))]) [0, 1, 2, 4, 5] rfl) rfl hl.1 rfl (lv_room (Nat.le_of_ble_eq_true rfl)) dX3_findAdd_39 ⟨Nat.le_of_ble_eq_true rfl, Nat.le_of_ble_eq_true rfl⟩ hS (fun locs hS => ?_)
          refine bnd hf (fun o42 e42 hf => ?_)
          refine wrVv (As := [.int (1 : Int32), .int o18, .int o39]) (rest := []) (cw := [(aK, .inr (3, [.ref aL, .ref aM, .ref aA, .ref aK_ranks, .ref aK_clashes, .int K_keptPlaces, .int K_changes, .int K_hintChange, .int K_hintLine, .int K_hintPlace]))]) (cw' := [(aK, .inr (3, [.ref aL, .ref aM, .ref aA, .ref aK_ranks, .ref aK_clashes, .int K_keptPlaces, .int K_changes, .int o42.1, .int o42.2.1, .int o42.2.2]))]) (wr := [(aK_ranks, eI cI 16 K_ranks), (aM, .inr (4, [.ref aM_numbers, .ref aM_ranks, .ref aM_ahead, .int M_length, .ref aM_ways, .int M_waysCounted])), (aM_numbers, eI cI 12 M_numbers), (aM_ahead, eI cI 12 M_ahead), (aA, .inr (0, [.ref aA_row, .int A_length])), (aA_row, eI cI 16 A_row)]) (ws2 := [(aK, .inr (3, [.ref aL, .ref aM, .ref aA, .ref aK_ranks, .ref aK_clashes, .int K_keptPlaces, .int K_changes, .int o42.1, .int o42.2.1, .int o42.2.2])), (aK_ranks, eI cI 16 K_ranks), (aM, .inr (4, [.ref aM_numbers, .ref aM_ranks, .ref aM_ahead, .int M_length, .ref aM_ways, .int M_waysCounted])), (aM_numbers, eI cI 12 M_numbers), (aM_ahead, eI cI 12 M_ahead), (aA, .inr (0, [.ref aA_row, .int A_length])), (aA_row, eI cI 16 A_row)]) ⟨hx, hb, hml, hown, hts⟩ (tX3_hintAt l D cI cJ cG aK aL aM aA aK_ranks aK_clashes H.size (1 : Int32) o18 o39 K_keptPlaces K_changes K_hintChange K_hintLine K_hintPlace o42 e42) (cwV 3 hts gX3_findAdd_X3_hintAt rfl rfl rfl (by decide +kernel) ⟨Nat.le_of_ble_eq_true rfl, Nat.le_of_ble_eq_true rfl⟩) (va_recv (ci := 3) (q0 := 0) hK.1 hP rfl rfl) hK hP hD hS hA [0] [1, 2, 3, 4, 5, 6] [6, 0, 1, 2, 3, 4, 5] rfl rfl rfl (by decide) (by decide) (by decide) (by decide) rfl hl.1 rfl (lv_room (Nat.le_of_ble_eq_true rfl)) dX3_findAdd_42 ⟨Nat.le_of_ble_eq_true rfl, Nat.le_of_ble_eq_true rfl⟩ (fun H locs hP hD hS => ?_)
          refine lv_iconst (v := (1 : Int32)) hx hb dX3_findAdd_45 (by decide) ?_
          rw [hQQ]
          exact W.zret (v := (1 : Int32)) hx hb hr rfl (fun t ht hW => by rw [← Option.some.inj hf]; rw [← hAe] at hD hS; exact ⟨⟨(1 : Int32), (), rfl, rfl, by rw [ht]; exact hP, hD⟩, hS.F ht⟩) hS.2.2 dX3_findAdd_46
  generalize hHH : s.heap = H at hP ⊢
  have hS : va_S A s.heap H [] := by rw [← hHH]; exact va_S.rf
  generalize ([] : List Loc) = locs at hS ⊢
  unfold fX3_findAdd at hf
  refine lv_iconst (v := (0 : Int32)) hx hb dX3_findAdd_0 (by decide) ?_
  refine lv_istore_n (lv' := [(1, .int (0 : Int32)), (0, .ref aK)]) hx hb dX3_findAdd_1 rfl hl (by decide) rfl (fun ls hl => ?_)
  exact b_2 FU (0 : Int32) K_hintChange K_hintLine K_hintPlace hf _ _ _ hP hD hS (lv_sub hl [1, 0] rfl)

set_option maxHeartbeats 4000000 in
set_option maxRecDepth 100000 in
theorem tX3_findMove (l : Launch) (D : va_G) (cI cJ cG : ClassId) (aK aL aM aA aK_ranks aK_clashes aM_numbers aM_ranks aM_ahead aM_ways aA_row : Nat) (sz : Nat)  (K_keptPlaces : Int32) (K_changes : Int32) (K_hintChange : Int32) (K_hintLine : Int32) (K_hintPlace : Int32) (K_ranks : (Nat → Int32)) (M_length : Int32) (M_waysCounted : Int32) (M_ahead : (Nat → Int32)) (A_length : Int32) (A_row : (Nat → Int32)) (out : Int32 × Int32 × Int32 × Int32) (hf : fX3_findMove K_keptPlaces K_hintChange K_hintLine K_hintPlace K_ranks M_length M_ahead A_length A_row = some out) : Met l yX3_findMove wsX3_findMove ({ frames := 3, cells := 0, slots := 0, locals := 67 }) (va_Pc [.ref aK] (wP D (tyL cI cJ cG) [(aK, .inr (3, [.ref aL, .ref aM, .ref aA, .ref aK_ranks, .ref aK_clashes, .int K_keptPlaces, .int K_changes, .int K_hintChange, .int K_hintLine, .int K_hintPlace])), (aK_ranks, eI cI 16 K_ranks), (aM, .inr (4, [.ref aM_numbers, .ref aM_ranks, .ref aM_ahead, .int M_length, .ref aM_ways, .int M_waysCounted])), (aM_ahead, eI cI 12 M_ahead), (aA, .inr (0, [.ref aA_row, .int A_length])), (aA_row, eI cI 16 A_row)] sz)) (wQi D out.1 [(aK, .inr (3, [.ref aL, .ref aM, .ref aA, .ref aK_ranks, .ref aK_clashes, .int K_keptPlaces, .int K_changes, .int K_hintChange, .int K_hintLine, .int K_hintPlace])), (aK_ranks, eI cI 16 K_ranks), (aM, .inr (4, [.ref aM_numbers, .ref aM_ranks, .ref aM_ahead, .int M_length, .ref aM_ways, .int M_waysCounted])), (aM_ahead, eI cI 12 M_ahead), (aA, .inr (0, [.ref aA_row, .int A_length])), (aA_row, eI cI 16 A_row)] [(aK, .inr (3, [.ref aL, .ref aM, .ref aA, .ref aK_ranks, .ref aK_clashes, .int K_keptPlaces, .int K_changes, .int out.2.1, .int out.2.2.1, .int out.2.2.2])), (aK_ranks, eI cI 16 K_ranks), (aM, .inr (4, [.ref aM_numbers, .ref aM_ranks, .ref aM_ahead, .int M_length, .ref aM_ways, .int M_waysCounted])), (aM_ahead, eI cI 12 M_ahead), (aA, .inr (0, [.ref aA_row, .int A_length])), (aA_row, eI cI 16 A_row)] sz) 0 0 (va_A [(aK, .inr (3, [.ref aL, .ref aM, .ref aA, .ref aK_ranks, .ref aK_clashes, .int K_keptPlaces, .int K_changes, .int K_hintChange, .int K_hintLine, .int K_hintPlace])), (aK_ranks, eI cI 16 K_ranks), (aM, .inr (4, [.ref aM_numbers, .ref aM_ranks, .ref aM_ahead, .int M_length, .ref aM_ways, .int M_waysCounted])), (aM_ahead, eI cI 12 M_ahead), (aA, .inr (0, [.ref aA_row, .int A_length])), (aA_row, eI cI 16 A_row)] sz) := by
  refine Met.ofW (cc := cX3_findMove) (maxL := 2) (ret := (some .boolean)) (by decide) rfl ?_
  intro p e s m args below meth c s₁ B hml hv
  obtain ⟨rfl, hsz, hP, hK, hD0⟩ := hv
  have hx := B.exec
  have hb := B.bytes
  have hr := B.returns
  have hts := atoms_spec (ws := wsX3_findMove) B.pre
  have hown : s.vm.findClass RX3 = some m.cls := findClass_of_methodNamed B.named
  have hlocks := B.notSynchronized
  have iX0 : ∀ w ∈ wsX00, w ∈ wsX3_findMove := by decide +kernel
  have iX3 : ∀ w ∈ wsX30, w ∈ wsX3_findMove := by decide +kernel
  have k9 := hts (.fieldLink RX3 9 "BlockMarker$Marking" "ranks" "[I") (by decide +kernel)
  have k26 := hts (.fieldLink RX3 26 "BlockMarker$Marking" "answer" "LBlockMarker$Answer;") (by decide +kernel)
  have n69 := va_Nw.use (A := ([.ref aK] : List Value).toArray) rfl (hK.2 (.fieldLinkNest "BlockMarker$Marking" 69 "BlockMarker$Answer" "length" "I" "BlockMarker") (by decide +kernel))
  subst hsz
  have hD := hD0.self (sz := s.heap.size)
  generalize hAe : va_A [(aK, .inr (3, [.ref aL, .ref aM, .ref aA, .ref aK_ranks, .ref aK_clashes, .int K_keptPlaces, .int K_changes, .int K_hintChange, .int K_hintLine, .int K_hintPlace])), (aK_ranks, eI cI 16 K_ranks), (aM, .inr (4, [.ref aM_numbers, .ref aM_ranks, .ref aM_ahead, .int M_length, .ref aM_ways, .int M_waysCounted])), (aM_ahead, eI cI 12 M_ahead), (aA, .inr (0, [.ref aA_row, .int A_length])), (aA_row, eI cI 16 A_row)] s.heap.size = A at hD ⊢
  have hA : ∀ q : Nat, s.heap.size ≤ q → A q := fun q h => by rw [← hAe]; exact Or.inr h
  have hS : va_S A s.heap s.heap [] := va_S.rf
  have hl := lv_entry ([.ref aK]) (n := 2) (Nat.le_of_ble_eq_true rfl)
  rw [lg_entry_eq]
  generalize (lg_sl ([.ref aK]) ++ List.replicate (2 - (lg_sl ([.ref aK])).length) Slot.unset).toArray = ls at hl ⊢
  have hl : lv_has ls 2 [(0, .ref aK)] := hl
  generalize hQQ : MQ below _ _ s 0 0 _ = QQ
  replace hQQ := hQQ.symm
  have b_2 : ∀ (n : Nat), ∀ (x1 : Int32) (K_hintChange : Int32) (K_hintLine : Int32) (K_hintPlace : Int32), fX3_findMove_h2  n x1 K_keptPlaces K_hintChange K_hintLine K_hintPlace K_ranks M_length M_ahead A_length A_row = some out → ∀ (H : Heap) (locs : List Loc) (ls : Array Slot), va_P D vwCl [(aK, .inr (3, [.ref aL, .ref aM, .ref aA, .ref aK_ranks, .ref aK_clashes, .int K_keptPlaces, .int K_changes, .int K_hintChange, .int K_hintLine, .int K_hintPlace])), (aK_ranks, eI cI 16 K_ranks), (aM, .inr (4, [.ref aM_numbers, .ref aM_ranks, .ref aM_ahead, .int M_length, .ref aM_ways, .int M_waysCounted])), (aM_ahead, eI cI 12 M_ahead), (aA, .inr (0, [.ref aA_row, .int A_length])), (aA_row, eI cI 16 A_row)] H → va_D A [(aK, .inr (3, [.ref aL, .ref aM, .ref aA, .ref aK_ranks, .ref aK_clashes, .int K_keptPlaces, .int K_changes, .int K_hintChange, .int K_hintLine, .int K_hintPlace])), (aK_ranks, eI cI 16 K_ranks), (aM, .inr (4, [.ref aM_numbers, .ref aM_ranks, .ref aM_ahead, .int M_length, .ref aM_ways, .int M_waysCounted])), (aM_ahead, eI cI 12 M_ahead), (aA, .inr (0, [.ref aA_row, .int A_length])), (aA_row, eI cI 16 A_row)] → va_S A s.heap H locs → lv_has ls 2 [(0, .ref aK), (1, .int x1)] → W p l e (headSpec wsX3_findMove { frames := 3, cells := 0, slots := 0, locals := 67 }).room s m ([.ref aK] : List Value).toArray below meth c H locs 0 0 QQ (F0 m 2 ls []) := by
    intro  n
    induction n with
    | zero => intro x1 K_hintChange K_hintLine K_hintPlace hf; exact nomatch (show (none : Option (Int32 × Int32 × Int32 × Int32)) = some out from hf)
    | succ n ih =>
      intro x1 K_hintChange K_hintLine K_hintPlace hf H locs ls hP hD hS hl
      replace hf : uX3_findMove_h2  (fX3_findMove_h2  n) x1 K_keptPlaces K_hintChange K_hintLine K_hintPlace K_ranks M_length M_ahead A_length A_row = some out := hf
      unfold uX3_findMove_h2 at hf
      refine lv_iload_n hx hb dX3_findMove_2 rfl (lv_at hl 1 rfl) ?_
      refine lv_aload_n hx hb dX3_findMove_3 rfl (lv_at hl 0 rfl) ?_
      refine va_get (D := D) (ci := 3) (v := .ref aA) (C := RX3) (T := TX3) (N := 10) hx hb hts iX3 hown hK.1 hP 0 rfl rfl 2 (by decide) k26 (fun _ h9 => h9) rfl dX3_findMove_4 ?_
      refine va_getN (D := D) (ci := 0) (v := .int A_length) (C := RX0) (T := TX0) (N := 2) hx hb hts iX0 hown hK.1 hP 4 rfl rfl 1 (by decide) n69 (fun _ h9 => h9) rfl dX3_findMove_7 ?_
      refine lv_icmp_ge (tgt := 53) hx hb dX3_findMove_10 (by decide) (fun c10 => ?_) (fun c10 => ?_)
      · have hf := ifp hf c10
        refine lv_iconst (v := (0 : Int32)) hx hb dX3_findMove_53 (by decide) ?_
        rw [hQQ]
        exact W.zret (v := (0 : Int32)) hx hb hr rfl (fun t ht hW => by rw [← Option.some.inj hf]; rw [← hAe] at hD hS; exact ⟨⟨(0 : Int32), (), rfl, rfl, by rw [ht]; exact hP, hD⟩, hS.F ht⟩) hS.2.2 dX3_findMove_54
      · have hf := ifn hf c10
        refine lv_aload_n hx hb dX3_findMove_13 rfl (lv_at hl 0 rfl) ?_
        refine lv_iload_n hx hb dX3_findMove_14 rfl (lv_at hl 1 rfl) ?_
        refine bnd hf (fun o15 e15 hf => ?_)
        refine rdVi (As := [.int x1]) (rest := []) ⟨hx, hb, hml, hown, hts⟩ (tX3_isKept l D cI cJ cG aK aL aM aA aK_ranks aK_clashes aA_row H x1 K_keptPlaces K_changes K_hintChange K_hintLine K_hintPlace A_length o15 e15) (cwV 1 hts gX3_findMove_X3_isKept rfl rfl rfl (by decide +kernel) ⟨Nat.le_of_ble_eq_true rfl, Nat.le_of_ble_eq_true rfl⟩) (va_recv (ci := 3) (q0 := 0) hK.1 hP rfl rfl) hK (hP.sub (ws' := [(aK, .inr (3, [.ref aL, .ref aM, .ref aA, .ref aK_ranks, .ref aK_clashes, .int K_keptPlaces, .int K_changes, .int K_hintChange, .int K_hintLine, .int K_hintPlace])), (aA, .inr (0, [.ref aA_row, .int A_length]))]) [0, 4] rfl) rfl hl.1 rfl (lv_room (Nat.le_of_ble_eq_true rfl)) dX3_findMove_15 ⟨Nat.le_of_ble_eq_true rfl, Nat.le_of_ble_eq_true rfl⟩ hS (fun locs hS => ?_)
        refine lv_if_ne (tgt := 47) hx hb dX3_findMove_18 (by decide) (fun c18 => ?_) (fun c18 => ?_)
        · have hf := ifn hf c18
          refine lv_iinc (v := (x1 + (1 : Int32))) (lv' := [(1, .int (x1 + (1 : Int32))), (0, .ref aK)]) hx hb dX3_findMove_47 hl (k := 1) rfl rfl (by decide) rfl (fun ls hl => ?_)
          refine lv_goto (tgt := 2) hx hb dX3_findMove_50 (by decide) ?_
          exact ih (x1 + (1 : Int32)) K_hintChange K_hintLine K_hintPlace hf _ _ _ hP hD hS (lv_sub hl [1, 0] rfl)
        · have hf := ifp hf c18
          refine lv_aload_n hx hb dX3_findMove_21 rfl (lv_at hl 0 rfl) ?_
          refine lv_iconst (v := (2 : Int32)) hx hb dX3_findMove_22 (by decide) ?_
          refine lv_aload_n hx hb dX3_findMove_23 rfl (lv_at hl 0 rfl) ?_
          refine va_get (D := D) (ci := 3) (v := .ref aA) (C := RX3) (T := TX3) (N := 10) hx hb hts iX3 hown hK.1 hP 0 rfl rfl 2 (by decide) k26 (fun _ h9 => h9) rfl dX3_findMove_24 ?_
          refine lv_iload_n hx hb dX3_findMove_27 rfl (lv_at hl 1 rfl) ?_
          refine bnd hf (fun o28 e28 hf => ?_)
          refine rdVi (As := [.int x1]) (rest := [.int (2 : Int32), .ref aK]) ⟨hx, hb, hml, hown, hts⟩ (tX0_lineAt l D cI cJ cG aA aA_row H x1 A_length A_row o28 e28) (cwV 1 hts gX3_findMove_X0_lineAt rfl rfl rfl (by decide +kernel) ⟨Nat.le_of_ble_eq_true rfl, Nat.le_of_ble_eq_true rfl⟩) (va_recv (ci := 0) (q0 := 4) hK.1 hP rfl rfl) hK (hP.sub (ws' := [(aA, .inr (0, [.ref aA_row, .int A_length])), (aA_row, eI cI 16 A_row)]) [4, 5] rfl) rfl hl.1 rfl (lv_room (Nat.le_of_ble_eq_true rfl)) dX3_findMove_28 ⟨Nat.le_of_ble_eq_true rfl, Nat.le_of_ble_eq_true rfl⟩ hS (fun locs hS => ?_)
          refine lv_aload_n hx hb dX3_findMove_31 rfl (lv_at hl 0 rfl) ?_
          refine lv_aload_n hx hb dX3_findMove_32 rfl (lv_at hl 0 rfl) ?_
          refine va_get (D := D) (ci := 3) (v := .ref aK_ranks) (C := RX3) (T := TX3) (N := 10) hx hb hts iX3 hown hK.1 hP 0 rfl rfl 3 (by decide) k9 (fun _ h9 => h9) rfl dX3_findMove_33 ?_
          refine lv_iload_n hx hb dX3_findMove_36 rfl (lv_at hl 1 rfl) ?_
          refine ckE hf (fun h37 hf => ?_)
          refine va_iald hx hb hK.1 hP 1 0 rfl rfl (inB_in h37) dX3_findMove_37 ?_
          refine lv_iload_n hx hb dX3_findMove_38 rfl (lv_at hl 1 rfl) ?_
          refine bnd hf (fun o39 e39 hf => ?_)
          refine rdVi (As := [.int (K_ranks (x1).toNatClampNeg), .int x1]) (rest := [.int o28, .int (2 : Int32), .ref aK]) ⟨hx, hb, hml, hown, hts⟩ (tX3_placeBehindKept l D cI cJ cG aK aL aM aA aK_ranks aK_clashes aM_numbers aM_ranks aM_ahead aM_ways aA_row H (K_ranks (x1).toNatClampNeg) x1 K_keptPlaces K_changes K_hintChange K_hintLine K_hintPlace K_ranks M_length M_waysCounted M_ahead A_length o39 e39) (cwV 2 hts gX3_findMove_X3_placeBehindKept rfl rfl rfl (by decide +kernel) ⟨Nat.le_of_ble_eq_true rfl, Nat.le_of_ble_eq_true rfl⟩) (va_recv (ci := 3) (q0 := 0) hK.1 hP rfl rfl) hK (hP.sub (ws' := [(aK, .inr (3, [.ref aL, .ref aM, .ref aA, .ref aK_ranks, .ref aK_clashes, .int K_keptPlaces, .int K_changes, .int K_hintChange, .int K_hintLine, .int K_hintPlace])), (aK_ranks, eI cI 16 K_ranks), (aM, .inr (4, [.ref aM_numbers, .ref aM_ranks, .ref aM_ahead, .int M_length, .ref aM_ways, .int M_waysCounted])), (aM_ahead, eI cI 12 M_ahead), (aA, .inr (0, [.ref aA_row, .int A_length]))]) [0, 1, 2, 3, 4] rfl) rfl hl.1 rfl (lv_room (Nat.le_of_ble_eq_true rfl)) dX3_findMove_39 ⟨Nat.le_of_ble_eq_true rfl, Nat.le_of_ble_eq_true rfl⟩ hS (fun locs hS => ?_)
          refine bnd hf (fun o42 e42 hf => ?_)
          refine wrVv (As := [.int (2 : Int32), .int o28, .int o39]) (rest := []) (cw := [(aK, .inr (3, [.ref aL, .ref aM, .ref aA, .ref aK_ranks, .ref aK_clashes, .int K_keptPlaces, .int K_changes, .int K_hintChange, .int K_hintLine, .int K_hintPlace]))]) (cw' := [(aK, .inr (3, [.ref aL, .ref aM, .ref aA, .ref aK_ranks, .ref aK_clashes, .int K_keptPlaces, .int K_changes, .int o42.1, .int o42.2.1, .int o42.2.2]))]) (wr := [(aK_ranks, eI cI 16 K_ranks), (aM, .inr (4, [.ref aM_numbers, .ref aM_ranks, .ref aM_ahead, .int M_length, .ref aM_ways, .int M_waysCounted])), (aM_ahead, eI cI 12 M_ahead), (aA, .inr (0, [.ref aA_row, .int A_length])), (aA_row, eI cI 16 A_row)]) (ws2 := [(aK, .inr (3, [.ref aL, .ref aM, .ref aA, .ref aK_ranks, .ref aK_clashes, .int K_keptPlaces, .int K_changes, .int o42.1, .int o42.2.1, .int o42.2.2])), (aK_ranks, eI cI 16 K_ranks), (aM, .inr (4, [.ref aM_numbers, .ref aM_ranks, .ref aM_ahead, .int M_length, .ref aM_ways, .int M_waysCounted])), (aM_ahead, eI cI 12 M_ahead), (aA, .inr (0, [.ref aA_row, .int A_length])), (aA_row, eI cI 16 A_row)]) ⟨hx, hb, hml, hown, hts⟩ (tX3_hintAt l D cI cJ cG aK aL aM aA aK_ranks aK_clashes H.size (2 : Int32) o28 o39 K_keptPlaces K_changes K_hintChange K_hintLine K_hintPlace o42 e42) (cwV 3 hts gX3_findMove_X3_hintAt rfl rfl rfl (by decide +kernel) ⟨Nat.le_of_ble_eq_true rfl, Nat.le_of_ble_eq_true rfl⟩) (va_recv (ci := 3) (q0 := 0) hK.1 hP rfl rfl) hK hP hD hS hA [0] [1, 2, 3, 4, 5] [5, 0, 1, 2, 3, 4] rfl rfl rfl (by decide) (by decide) (by decide) (by decide) rfl hl.1 rfl (lv_room (Nat.le_of_ble_eq_true rfl)) dX3_findMove_42 ⟨Nat.le_of_ble_eq_true rfl, Nat.le_of_ble_eq_true rfl⟩ (fun H locs hP hD hS => ?_)
          refine lv_iconst (v := (1 : Int32)) hx hb dX3_findMove_45 (by decide) ?_
          rw [hQQ]
          exact W.zret (v := (1 : Int32)) hx hb hr rfl (fun t ht hW => by rw [← Option.some.inj hf]; rw [← hAe] at hD hS; exact ⟨⟨(1 : Int32), (), rfl, rfl, by rw [ht]; exact hP, hD⟩, hS.F ht⟩) hS.2.2 dX3_findMove_46
  generalize hHH : s.heap = H at hP ⊢
  have hS : va_S A s.heap H [] := by rw [← hHH]; exact va_S.rf
  generalize ([] : List Loc) = locs at hS ⊢
  unfold fX3_findMove at hf
  refine lv_iconst (v := (0 : Int32)) hx hb dX3_findMove_0 (by decide) ?_
  refine lv_istore_n (lv' := [(1, .int (0 : Int32)), (0, .ref aK)]) hx hb dX3_findMove_1 rfl hl (by decide) rfl (fun ls hl => ?_)
  exact b_2 FU (0 : Int32) K_hintChange K_hintLine K_hintPlace hf _ _ _ hP hD hS (lv_sub hl [1, 0] rfl)

set_option maxHeartbeats 4000000 in
set_option maxRecDepth 100000 in
theorem tX3_study (l : Launch) (D : va_G) (cI cJ cG : ClassId) (aK aL aM aA aK_ranks aK_clashes aL_kinds aL_vs aL_ws aL_roles aL_mates aM_numbers aM_ranks aM_ahead aM_ways aA_row : Nat) (sz : Nat)  (K_keptPlaces : Int32) (K_changes : Int32) (K_hintChange : Int32) (K_hintLine : Int32) (K_hintPlace : Int32) (K_ranks : (Nat → Int32)) (K_clashes : (Nat → Int32)) (L_many : Int32) (L_roles : (Nat → Int32)) (L_mates : (Nat → Int32)) (M_length : Int32) (M_waysCounted : Int32) (M_numbers : (Nat → Int32)) (M_ranks : (Nat → Int32)) (M_ahead : (Nat → Int32)) (A_length : Int32) (A_row : (Nat → Int32)) (out : Int32 × Int32 × Int32 × Int32 × Int32 × (Nat → Int32) × (Nat → Int32)) (hf : fX3_study K_keptPlaces K_changes K_hintChange K_hintLine K_hintPlace K_ranks K_clashes L_many L_roles L_mates M_length M_numbers M_ranks M_ahead A_length A_row = some out) : Met l yX3_study wsX3_study ({ frames := 23, cells := 0, slots := 0, locals := 571 }) (va_Pc [.ref aK] (wP D (tyL cI cJ cG) [(aK, .inr (3, [.ref aL, .ref aM, .ref aA, .ref aK_ranks, .ref aK_clashes, .int K_keptPlaces, .int K_changes, .int K_hintChange, .int K_hintLine, .int K_hintPlace])), (aK_ranks, eI cI 16 K_ranks), (aK_clashes, eI cI 16 K_clashes), (aL, .inr (1, [.ref aL_kinds, .ref aL_vs, .ref aL_ws, .ref aL_roles, .ref aL_mates, .int L_many])), (aL_roles, eI cI 16 L_roles), (aL_mates, eI cI 16 L_mates), (aM, .inr (4, [.ref aM_numbers, .ref aM_ranks, .ref aM_ahead, .int M_length, .ref aM_ways, .int M_waysCounted])), (aM_numbers, eI cI 12 M_numbers), (aM_ranks, eI cI 16 M_ranks), (aM_ahead, eI cI 12 M_ahead), (aA, .inr (0, [.ref aA_row, .int A_length])), (aA_row, eI cI 16 A_row)] sz)) (wQv D  [(aK, .inr (3, [.ref aL, .ref aM, .ref aA, .ref aK_ranks, .ref aK_clashes, .int K_keptPlaces, .int K_changes, .int K_hintChange, .int K_hintLine, .int K_hintPlace])), (aK_ranks, eI cI 16 K_ranks), (aK_clashes, eI cI 16 K_clashes), (aL, .inr (1, [.ref aL_kinds, .ref aL_vs, .ref aL_ws, .ref aL_roles, .ref aL_mates, .int L_many])), (aL_roles, eI cI 16 L_roles), (aL_mates, eI cI 16 L_mates), (aM, .inr (4, [.ref aM_numbers, .ref aM_ranks, .ref aM_ahead, .int M_length, .ref aM_ways, .int M_waysCounted])), (aM_numbers, eI cI 12 M_numbers), (aM_ranks, eI cI 16 M_ranks), (aM_ahead, eI cI 12 M_ahead), (aA, .inr (0, [.ref aA_row, .int A_length])), (aA_row, eI cI 16 A_row)] [(aK, .inr (3, [.ref aL, .ref aM, .ref aA, .ref aK_ranks, .ref aK_clashes, .int out.1, .int out.2.1, .int out.2.2.1, .int out.2.2.2.1, .int out.2.2.2.2.1])), (aK_ranks, eI cI 16 out.2.2.2.2.2.1), (aK_clashes, eI cI 16 out.2.2.2.2.2.2), (aL, .inr (1, [.ref aL_kinds, .ref aL_vs, .ref aL_ws, .ref aL_roles, .ref aL_mates, .int L_many])), (aL_roles, eI cI 16 L_roles), (aL_mates, eI cI 16 L_mates), (aM, .inr (4, [.ref aM_numbers, .ref aM_ranks, .ref aM_ahead, .int M_length, .ref aM_ways, .int M_waysCounted])), (aM_numbers, eI cI 12 M_numbers), (aM_ranks, eI cI 16 M_ranks), (aM_ahead, eI cI 12 M_ahead), (aA, .inr (0, [.ref aA_row, .int A_length])), (aA_row, eI cI 16 A_row)] sz) 0 0 (va_A [(aK, .inr (3, [.ref aL, .ref aM, .ref aA, .ref aK_ranks, .ref aK_clashes, .int K_keptPlaces, .int K_changes, .int K_hintChange, .int K_hintLine, .int K_hintPlace])), (aK_ranks, eI cI 16 K_ranks), (aK_clashes, eI cI 16 K_clashes), (aL, .inr (1, [.ref aL_kinds, .ref aL_vs, .ref aL_ws, .ref aL_roles, .ref aL_mates, .int L_many])), (aL_roles, eI cI 16 L_roles), (aL_mates, eI cI 16 L_mates), (aM, .inr (4, [.ref aM_numbers, .ref aM_ranks, .ref aM_ahead, .int M_length, .ref aM_ways, .int M_waysCounted])), (aM_numbers, eI cI 12 M_numbers), (aM_ranks, eI cI 16 M_ranks), (aM_ahead, eI cI 12 M_ahead), (aA, .inr (0, [.ref aA_row, .int A_length])), (aA_row, eI cI 16 A_row)] sz) := by
  refine Met.ofW (cc := cX3_study) (maxL := 1) (ret := none) (by decide) rfl ?_
  intro p e s m args below meth c s₁ B hml hv
  obtain ⟨rfl, hsz, hP, hK, hD0⟩ := hv
  have hx := B.exec
  have hb := B.bytes
  have hr := B.returns
  have hts := atoms_spec (ws := wsX3_study) B.pre
  have hown : s.vm.findClass RX3 = some m.cls := findClass_of_methodNamed B.named
  have hlocks := B.notSynchronized
  subst hsz
  have hD := hD0.self (sz := s.heap.size)
  generalize hAe : va_A [(aK, .inr (3, [.ref aL, .ref aM, .ref aA, .ref aK_ranks, .ref aK_clashes, .int K_keptPlaces, .int K_changes, .int K_hintChange, .int K_hintLine, .int K_hintPlace])), (aK_ranks, eI cI 16 K_ranks), (aK_clashes, eI cI 16 K_clashes), (aL, .inr (1, [.ref aL_kinds, .ref aL_vs, .ref aL_ws, .ref aL_roles, .ref aL_mates, .int L_many])), (aL_roles, eI cI 16 L_roles), (aL_mates, eI cI 16 L_mates), (aM, .inr (4, [.ref aM_numbers, .ref aM_ranks, .ref aM_ahead, .int M_length, .ref aM_ways, .int M_waysCounted])), (aM_numbers, eI cI 12 M_numbers), (aM_ranks, eI cI 16 M_ranks), (aM_ahead, eI cI 12 M_ahead), (aA, .inr (0, [.ref aA_row, .int A_length])), (aA_row, eI cI 16 A_row)] s.heap.size = A at hD ⊢
  have hA : ∀ q : Nat, s.heap.size ≤ q → A q := fun q h => by rw [← hAe]; exact Or.inr h
  have hS : va_S A s.heap s.heap [] := va_S.rf
  have hl := lv_entry ([.ref aK]) (n := 1) (Nat.le_of_ble_eq_true rfl)
  rw [lg_entry_eq]
  generalize (lg_sl ([.ref aK]) ++ List.replicate (1 - (lg_sl ([.ref aK])).length) Slot.unset).toArray = ls at hl ⊢
  have hl : lv_has ls 1 [(0, .ref aK)] := hl
  generalize hQQ : MQ below _ _ s 0 0 _ = QQ
  replace hQQ := hQQ.symm
  generalize hHH : s.heap = H at hP ⊢
  have hS : va_S A s.heap H [] := by rw [← hHH]; exact va_S.rf
  generalize ([] : List Loc) = locs at hS ⊢
  unfold fX3_study at hf
  refine lv_aload_n hx hb dX3_study_0 rfl (lv_at hl 0 rfl) ?_
  refine bnd hf (fun o1 e1 hf => ?_)
  refine wrVv (As := []) (rest := []) (cw := [(aK, .inr (3, [.ref aL, .ref aM, .ref aA, .ref aK_ranks, .ref aK_clashes, .int K_keptPlaces, .int K_changes, .int K_hintChange, .int K_hintLine, .int K_hintPlace])), (aK_ranks, eI cI 16 K_ranks), (aL, .inr (1, [.ref aL_kinds, .ref aL_vs, .ref aL_ws, .ref aL_roles, .ref aL_mates, .int L_many])), (aL_roles, eI cI 16 L_roles), (aL_mates, eI cI 16 L_mates), (aM, .inr (4, [.ref aM_numbers, .ref aM_ranks, .ref aM_ahead, .int M_length, .ref aM_ways, .int M_waysCounted])), (aM_ranks, eI cI 16 M_ranks), (aA, .inr (0, [.ref aA_row, .int A_length])), (aA_row, eI cI 16 A_row)]) (cw' := [(aK, .inr (3, [.ref aL, .ref aM, .ref aA, .ref aK_ranks, .ref aK_clashes, .int K_keptPlaces, .int K_changes, .int K_hintChange, .int K_hintLine, .int K_hintPlace])), (aK_ranks, eI cI 16 o1), (aL, .inr (1, [.ref aL_kinds, .ref aL_vs, .ref aL_ws, .ref aL_roles, .ref aL_mates, .int L_many])), (aL_roles, eI cI 16 L_roles), (aL_mates, eI cI 16 L_mates), (aM, .inr (4, [.ref aM_numbers, .ref aM_ranks, .ref aM_ahead, .int M_length, .ref aM_ways, .int M_waysCounted])), (aM_ranks, eI cI 16 M_ranks), (aA, .inr (0, [.ref aA_row, .int A_length])), (aA_row, eI cI 16 A_row)]) (wr := [(aK_clashes, eI cI 16 K_clashes), (aM_numbers, eI cI 12 M_numbers), (aM_ahead, eI cI 12 M_ahead)]) (ws2 := [(aK, .inr (3, [.ref aL, .ref aM, .ref aA, .ref aK_ranks, .ref aK_clashes, .int K_keptPlaces, .int K_changes, .int K_hintChange, .int K_hintLine, .int K_hintPlace])), (aK_ranks, eI cI 16 o1), (aK_clashes, eI cI 16 K_clashes), (aL, .inr (1, [.ref aL_kinds, .ref aL_vs, .ref aL_ws, .ref aL_roles, .ref aL_mates, .int L_many])), (aL_roles, eI cI 16 L_roles), (aL_mates, eI cI 16 L_mates), (aM, .inr (4, [.ref aM_numbers, .ref aM_ranks, .ref aM_ahead, .int M_length, .ref aM_ways, .int M_waysCounted])), (aM_numbers, eI cI 12 M_numbers), (aM_ranks, eI cI 16 M_ranks), (aM_ahead, eI cI 12 M_ahead), (aA, .inr (0, [.ref aA_row, .int A_length])), (aA_row, eI cI 16 A_row)]) ⟨hx, hb, hml, hown, hts⟩ (tX3_findRanks l D cI cJ cG aK aL aM aA aK_ranks aK_clashes aL_kinds aL_vs aL_ws aL_roles aL_mates aM_numbers aM_ranks aM_ahead aM_ways aA_row H.size  K_keptPlaces K_changes K_hintChange K_hintLine K_hintPlace K_ranks L_many L_roles L_mates M_length M_waysCounted M_ranks A_length A_row o1 e1) (cwV 0 hts gX3_study_X3_findRanks rfl rfl rfl (by decide +kernel) ⟨Nat.le_of_ble_eq_true rfl, Nat.le_of_ble_eq_true rfl⟩) (va_recv (ci := 3) (q0 := 0) hK.1 hP rfl rfl) hK hP hD hS hA [0, 1, 3, 4, 5, 6, 8, 10, 11] [2, 7, 9] [3, 4, 0, 5, 6, 7, 8, 1, 9, 2, 10, 11] rfl rfl rfl (by decide) (by decide) (by decide) (by decide) rfl hl.1 rfl (lv_room (Nat.le_of_ble_eq_true rfl)) dX3_study_1 ⟨Nat.le_of_ble_eq_true rfl, Nat.le_of_ble_eq_true rfl⟩ (fun H locs hP hD hS => ?_)
  refine lv_aload_n hx hb dX3_study_4 rfl (lv_at hl 0 rfl) ?_
  refine bnd hf (fun o5 e5 hf => ?_)
  refine wrVv (As := []) (rest := []) (cw := [(aK, .inr (3, [.ref aL, .ref aM, .ref aA, .ref aK_ranks, .ref aK_clashes, .int K_keptPlaces, .int K_changes, .int K_hintChange, .int K_hintLine, .int K_hintPlace])), (aK_ranks, eI cI 16 o1), (aK_clashes, eI cI 16 K_clashes), (aM, .inr (4, [.ref aM_numbers, .ref aM_ranks, .ref aM_ahead, .int M_length, .ref aM_ways, .int M_waysCounted])), (aM_ahead, eI cI 12 M_ahead), (aA, .inr (0, [.ref aA_row, .int A_length]))]) (cw' := [(aK, .inr (3, [.ref aL, .ref aM, .ref aA, .ref aK_ranks, .ref aK_clashes, .int K_keptPlaces, .int K_changes, .int K_hintChange, .int K_hintLine, .int K_hintPlace])), (aK_ranks, eI cI 16 o1), (aK_clashes, eI cI 16 o5), (aM, .inr (4, [.ref aM_numbers, .ref aM_ranks, .ref aM_ahead, .int M_length, .ref aM_ways, .int M_waysCounted])), (aM_ahead, eI cI 12 M_ahead), (aA, .inr (0, [.ref aA_row, .int A_length]))]) (wr := [(aL, .inr (1, [.ref aL_kinds, .ref aL_vs, .ref aL_ws, .ref aL_roles, .ref aL_mates, .int L_many])), (aL_roles, eI cI 16 L_roles), (aL_mates, eI cI 16 L_mates), (aM_numbers, eI cI 12 M_numbers), (aM_ranks, eI cI 16 M_ranks), (aA_row, eI cI 16 A_row)]) (ws2 := [(aK, .inr (3, [.ref aL, .ref aM, .ref aA, .ref aK_ranks, .ref aK_clashes, .int K_keptPlaces, .int K_changes, .int K_hintChange, .int K_hintLine, .int K_hintPlace])), (aK_ranks, eI cI 16 o1), (aK_clashes, eI cI 16 o5), (aL, .inr (1, [.ref aL_kinds, .ref aL_vs, .ref aL_ws, .ref aL_roles, .ref aL_mates, .int L_many])), (aL_roles, eI cI 16 L_roles), (aL_mates, eI cI 16 L_mates), (aM, .inr (4, [.ref aM_numbers, .ref aM_ranks, .ref aM_ahead, .int M_length, .ref aM_ways, .int M_waysCounted])), (aM_numbers, eI cI 12 M_numbers), (aM_ranks, eI cI 16 M_ranks), (aM_ahead, eI cI 12 M_ahead), (aA, .inr (0, [.ref aA_row, .int A_length])), (aA_row, eI cI 16 A_row)]) ⟨hx, hb, hml, hown, hts⟩ (tX3_findClashes l D cI cJ cG aK aL aM aA aK_ranks aK_clashes aM_numbers aM_ranks aM_ahead aM_ways aA_row H.size  K_keptPlaces K_changes K_hintChange K_hintLine K_hintPlace o1 K_clashes M_length M_waysCounted M_ahead A_length o5 e5) (cwV 0 hts gX3_study_X3_findClashes rfl rfl rfl (by decide +kernel) ⟨Nat.le_of_ble_eq_true rfl, Nat.le_of_ble_eq_true rfl⟩) (va_recv (ci := 3) (q0 := 0) hK.1 hP rfl rfl) hK hP hD hS hA [0, 1, 2, 6, 9, 10] [3, 4, 5, 7, 8, 11] [6, 7, 8, 0, 1, 2, 9, 3, 4, 10, 11, 5] rfl rfl rfl (by decide) (by decide) (by decide) (by decide) rfl hl.1 rfl (lv_room (Nat.le_of_ble_eq_true rfl)) dX3_study_5 ⟨Nat.le_of_ble_eq_true rfl, Nat.le_of_ble_eq_true rfl⟩ (fun H locs hP hD hS => ?_)
  refine lv_aload_n hx hb dX3_study_8 rfl (lv_at hl 0 rfl) ?_
  refine bnd hf (fun o9 e9 hf => ?_)
  refine wrVv (As := []) (rest := []) (cw := [(aK, .inr (3, [.ref aL, .ref aM, .ref aA, .ref aK_ranks, .ref aK_clashes, .int K_keptPlaces, .int K_changes, .int K_hintChange, .int K_hintLine, .int K_hintPlace])), (aK_ranks, eI cI 16 o1), (aK_clashes, eI cI 16 o5), (aA, .inr (0, [.ref aA_row, .int A_length]))]) (cw' := [(aK, .inr (3, [.ref aL, .ref aM, .ref aA, .ref aK_ranks, .ref aK_clashes, .int o9, .int K_changes, .int K_hintChange, .int K_hintLine, .int K_hintPlace])), (aK_ranks, eI cI 16 o1), (aK_clashes, eI cI 16 o5), (aA, .inr (0, [.ref aA_row, .int A_length]))]) (wr := [(aL, .inr (1, [.ref aL_kinds, .ref aL_vs, .ref aL_ws, .ref aL_roles, .ref aL_mates, .int L_many])), (aL_roles, eI cI 16 L_roles), (aL_mates, eI cI 16 L_mates), (aM, .inr (4, [.ref aM_numbers, .ref aM_ranks, .ref aM_ahead, .int M_length, .ref aM_ways, .int M_waysCounted])), (aM_numbers, eI cI 12 M_numbers), (aM_ranks, eI cI 16 M_ranks), (aM_ahead, eI cI 12 M_ahead), (aA_row, eI cI 16 A_row)]) (ws2 := [(aK, .inr (3, [.ref aL, .ref aM, .ref aA, .ref aK_ranks, .ref aK_clashes, .int o9, .int K_changes, .int K_hintChange, .int K_hintLine, .int K_hintPlace])), (aK_ranks, eI cI 16 o1), (aK_clashes, eI cI 16 o5), (aL, .inr (1, [.ref aL_kinds, .ref aL_vs, .ref aL_ws, .ref aL_roles, .ref aL_mates, .int L_many])), (aL_roles, eI cI 16 L_roles), (aL_mates, eI cI 16 L_mates), (aM, .inr (4, [.ref aM_numbers, .ref aM_ranks, .ref aM_ahead, .int M_length, .ref aM_ways, .int M_waysCounted])), (aM_numbers, eI cI 12 M_numbers), (aM_ranks, eI cI 16 M_ranks), (aM_ahead, eI cI 12 M_ahead), (aA, .inr (0, [.ref aA_row, .int A_length])), (aA_row, eI cI 16 A_row)]) ⟨hx, hb, hml, hown, hts⟩ (tX3_chooseKept l D cI cJ cG aK aL aM aA aK_ranks aK_clashes aA_row H.size  K_keptPlaces K_changes K_hintChange K_hintLine K_hintPlace o1 o5 A_length o9 e9) (cwV 0 hts gX3_study_X3_chooseKept rfl rfl rfl (by decide +kernel) ⟨Nat.le_of_ble_eq_true rfl, Nat.le_of_ble_eq_true rfl⟩) (va_recv (ci := 3) (q0 := 0) hK.1 hP rfl rfl) hK hP hD hS hA [0, 1, 2, 10] [3, 4, 5, 6, 7, 8, 9, 11] [8, 9, 10, 0, 1, 2, 3, 4, 5, 6, 11, 7] rfl rfl rfl (by decide) (by decide) (by decide) (by decide) rfl hl.1 rfl (lv_room (Nat.le_of_ble_eq_true rfl)) dX3_study_9 ⟨Nat.le_of_ble_eq_true rfl, Nat.le_of_ble_eq_true rfl⟩ (fun H locs hP hD hS => ?_)
  refine lv_aload_n hx hb dX3_study_12 rfl (lv_at hl 0 rfl) ?_
  refine bnd hf (fun o13 e13 hf => ?_)
  refine wrVv (As := []) (rest := []) (cw := [(aK, .inr (3, [.ref aL, .ref aM, .ref aA, .ref aK_ranks, .ref aK_clashes, .int o9, .int K_changes, .int K_hintChange, .int K_hintLine, .int K_hintPlace])), (aL, .inr (1, [.ref aL_kinds, .ref aL_vs, .ref aL_ws, .ref aL_roles, .ref aL_mates, .int L_many])), (aL_roles, eI cI 16 L_roles), (aM, .inr (4, [.ref aM_numbers, .ref aM_ranks, .ref aM_ahead, .int M_length, .ref aM_ways, .int M_waysCounted])), (aA, .inr (0, [.ref aA_row, .int A_length])), (aA_row, eI cI 16 A_row)]) (cw' := [(aK, .inr (3, [.ref aL, .ref aM, .ref aA, .ref aK_ranks, .ref aK_clashes, .int o9, .int o13, .int K_hintChange, .int K_hintLine, .int K_hintPlace])), (aL, .inr (1, [.ref aL_kinds, .ref aL_vs, .ref aL_ws, .ref aL_roles, .ref aL_mates, .int L_many])), (aL_roles, eI cI 16 L_roles), (aM, .inr (4, [.ref aM_numbers, .ref aM_ranks, .ref aM_ahead, .int M_length, .ref aM_ways, .int M_waysCounted])), (aA, .inr (0, [.ref aA_row, .int A_length])), (aA_row, eI cI 16 A_row)]) (wr := [(aK_ranks, eI cI 16 o1), (aK_clashes, eI cI 16 o5), (aL_mates, eI cI 16 L_mates), (aM_numbers, eI cI 12 M_numbers), (aM_ranks, eI cI 16 M_ranks), (aM_ahead, eI cI 12 M_ahead)]) (ws2 := [(aK, .inr (3, [.ref aL, .ref aM, .ref aA, .ref aK_ranks, .ref aK_clashes, .int o9, .int o13, .int K_hintChange, .int K_hintLine, .int K_hintPlace])), (aK_ranks, eI cI 16 o1), (aK_clashes, eI cI 16 o5), (aL, .inr (1, [.ref aL_kinds, .ref aL_vs, .ref aL_ws, .ref aL_roles, .ref aL_mates, .int L_many])), (aL_roles, eI cI 16 L_roles), (aL_mates, eI cI 16 L_mates), (aM, .inr (4, [.ref aM_numbers, .ref aM_ranks, .ref aM_ahead, .int M_length, .ref aM_ways, .int M_waysCounted])), (aM_numbers, eI cI 12 M_numbers), (aM_ranks, eI cI 16 M_ranks), (aM_ahead, eI cI 12 M_ahead), (aA, .inr (0, [.ref aA_row, .int A_length])), (aA_row, eI cI 16 A_row)]) ⟨hx, hb, hml, hown, hts⟩ (tX3_countChanges l D cI cJ cG aK aL aM aA aK_ranks aK_clashes aL_kinds aL_vs aL_ws aL_roles aL_mates aM_numbers aM_ranks aM_ahead aM_ways aA_row H.size  o9 K_changes K_hintChange K_hintLine K_hintPlace L_many L_roles M_length M_waysCounted A_length A_row o13 e13) (cwV 0 hts gX3_study_X3_countChanges rfl rfl rfl (by decide +kernel) ⟨Nat.le_of_ble_eq_true rfl, Nat.le_of_ble_eq_true rfl⟩) (va_recv (ci := 3) (q0 := 0) hK.1 hP rfl rfl) hK hP hD hS hA [0, 3, 4, 6, 10, 11] [1, 2, 5, 7, 8, 9] [6, 0, 1, 7, 8, 2, 9, 3, 4, 5, 10, 11] rfl rfl rfl (by decide) (by decide) (by decide) (by decide) rfl hl.1 rfl (lv_room (Nat.le_of_ble_eq_true rfl)) dX3_study_13 ⟨Nat.le_of_ble_eq_true rfl, Nat.le_of_ble_eq_true rfl⟩ (fun H locs hP hD hS => ?_)
  refine lv_aload_n hx hb dX3_study_16 rfl (lv_at hl 0 rfl) ?_
  refine bnd hf (fun o17 e17 hf => ?_)
  refine wrVi (As := []) (rest := []) (cw := [(aK, .inr (3, [.ref aL, .ref aM, .ref aA, .ref aK_ranks, .ref aK_clashes, .int o9, .int o13, .int K_hintChange, .int K_hintLine, .int K_hintPlace])), (aK_ranks, eI cI 16 o1), (aA, .inr (0, [.ref aA_row, .int A_length])), (aA_row, eI cI 16 A_row)]) (cw' := [(aK, .inr (3, [.ref aL, .ref aM, .ref aA, .ref aK_ranks, .ref aK_clashes, .int o9, .int o13, .int o17.2.1, .int o17.2.2.1, .int o17.2.2.2])), (aK_ranks, eI cI 16 o1), (aA, .inr (0, [.ref aA_row, .int A_length])), (aA_row, eI cI 16 A_row)]) (wr := [(aK_clashes, eI cI 16 o5), (aL, .inr (1, [.ref aL_kinds, .ref aL_vs, .ref aL_ws, .ref aL_roles, .ref aL_mates, .int L_many])), (aL_roles, eI cI 16 L_roles), (aL_mates, eI cI 16 L_mates), (aM, .inr (4, [.ref aM_numbers, .ref aM_ranks, .ref aM_ahead, .int M_length, .ref aM_ways, .int M_waysCounted])), (aM_numbers, eI cI 12 M_numbers), (aM_ranks, eI cI 16 M_ranks), (aM_ahead, eI cI 12 M_ahead)]) (ws2 := [(aK, .inr (3, [.ref aL, .ref aM, .ref aA, .ref aK_ranks, .ref aK_clashes, .int o9, .int o13, .int o17.2.1, .int o17.2.2.1, .int o17.2.2.2])), (aK_ranks, eI cI 16 o1), (aK_clashes, eI cI 16 o5), (aL, .inr (1, [.ref aL_kinds, .ref aL_vs, .ref aL_ws, .ref aL_roles, .ref aL_mates, .int L_many])), (aL_roles, eI cI 16 L_roles), (aL_mates, eI cI 16 L_mates), (aM, .inr (4, [.ref aM_numbers, .ref aM_ranks, .ref aM_ahead, .int M_length, .ref aM_ways, .int M_waysCounted])), (aM_numbers, eI cI 12 M_numbers), (aM_ranks, eI cI 16 M_ranks), (aM_ahead, eI cI 12 M_ahead), (aA, .inr (0, [.ref aA_row, .int A_length])), (aA_row, eI cI 16 A_row)]) ⟨hx, hb, hml, hown, hts⟩ (tX3_findDrop l D cI cJ cG aK aL aM aA aK_ranks aK_clashes aA_row H.size  o9 o13 K_hintChange K_hintLine K_hintPlace o1 A_length A_row o17 e17) (cwV 0 hts gX3_study_X3_findDrop rfl rfl rfl (by decide +kernel) ⟨Nat.le_of_ble_eq_true rfl, Nat.le_of_ble_eq_true rfl⟩) (va_recv (ci := 3) (q0 := 0) hK.1 hP rfl rfl) hK hP hD hS hA [0, 1, 10, 11] [2, 3, 4, 5, 6, 7, 8, 9] [8, 9, 0, 1, 2, 3, 4, 5, 6, 7, 10, 11] rfl rfl rfl (by decide) (by decide) (by decide) (by decide) rfl hl.1 rfl (lv_room (Nat.le_of_ble_eq_true rfl)) dX3_study_17 ⟨Nat.le_of_ble_eq_true rfl, Nat.le_of_ble_eq_true rfl⟩ (fun H locs hP hD hS => ?_)
  refine lv_if_ne (tgt := 51) hx hb dX3_study_20 (by decide) (fun c20 => ?_) (fun c20 => ?_)
  · have hf := ifn hf c20
    rw [hQQ]
    exact W.vret hx hb hr (fun t ht hW => by rw [← Option.some.inj hf]; rw [← hAe] at hD hS; exact ⟨⟨(), rfl, trivial, by rw [ht]; exact hP, hD⟩, hS.F ht⟩) hS.2.2 dX3_study_51
  · have hf := ifp hf c20
    refine lv_aload_n hx hb dX3_study_23 rfl (lv_at hl 0 rfl) ?_
    refine bnd hf (fun o24 e24 hf => ?_)
    refine wrVi (As := []) (rest := []) (cw := [(aK, .inr (3, [.ref aL, .ref aM, .ref aA, .ref aK_ranks, .ref aK_clashes, .int o9, .int o13, .int o17.2.1, .int o17.2.2.1, .int o17.2.2.2])), (aL, .inr (1, [.ref aL_kinds, .ref aL_vs, .ref aL_ws, .ref aL_roles, .ref aL_mates, .int L_many])), (aL_roles, eI cI 16 L_roles), (aA, .inr (0, [.ref aA_row, .int A_length])), (aA_row, eI cI 16 A_row)]) (cw' := [(aK, .inr (3, [.ref aL, .ref aM, .ref aA, .ref aK_ranks, .ref aK_clashes, .int o9, .int o13, .int o24.2.1, .int o24.2.2.1, .int o24.2.2.2])), (aL, .inr (1, [.ref aL_kinds, .ref aL_vs, .ref aL_ws, .ref aL_roles, .ref aL_mates, .int L_many])), (aL_roles, eI cI 16 L_roles), (aA, .inr (0, [.ref aA_row, .int A_length])), (aA_row, eI cI 16 A_row)]) (wr := [(aK_ranks, eI cI 16 o1), (aK_clashes, eI cI 16 o5), (aL_mates, eI cI 16 L_mates), (aM, .inr (4, [.ref aM_numbers, .ref aM_ranks, .ref aM_ahead, .int M_length, .ref aM_ways, .int M_waysCounted])), (aM_numbers, eI cI 12 M_numbers), (aM_ranks, eI cI 16 M_ranks), (aM_ahead, eI cI 12 M_ahead)]) (ws2 := [(aK, .inr (3, [.ref aL, .ref aM, .ref aA, .ref aK_ranks, .ref aK_clashes, .int o9, .int o13, .int o24.2.1, .int o24.2.2.1, .int o24.2.2.2])), (aK_ranks, eI cI 16 o1), (aK_clashes, eI cI 16 o5), (aL, .inr (1, [.ref aL_kinds, .ref aL_vs, .ref aL_ws, .ref aL_roles, .ref aL_mates, .int L_many])), (aL_roles, eI cI 16 L_roles), (aL_mates, eI cI 16 L_mates), (aM, .inr (4, [.ref aM_numbers, .ref aM_ranks, .ref aM_ahead, .int M_length, .ref aM_ways, .int M_waysCounted])), (aM_numbers, eI cI 12 M_numbers), (aM_ranks, eI cI 16 M_ranks), (aM_ahead, eI cI 12 M_ahead), (aA, .inr (0, [.ref aA_row, .int A_length])), (aA_row, eI cI 16 A_row)]) ⟨hx, hb, hml, hown, hts⟩ (tX3_findSwap l D cI cJ cG aK aL aM aA aK_ranks aK_clashes aL_kinds aL_vs aL_ws aL_roles aL_mates aA_row H.size  o9 o13 o17.2.1 o17.2.2.1 o17.2.2.2 L_many L_roles A_length A_row o24 e24) (cwV 0 hts gX3_study_X3_findSwap rfl rfl rfl (by decide +kernel) ⟨Nat.le_of_ble_eq_true rfl, Nat.le_of_ble_eq_true rfl⟩) (va_recv (ci := 3) (q0 := 0) hK.1 hP rfl rfl) hK hP hD hS hA [0, 3, 4, 10, 11] [1, 2, 5, 6, 7, 8, 9] [7, 0, 1, 8, 9, 2, 3, 4, 5, 6, 10, 11] rfl rfl rfl (by decide) (by decide) (by decide) (by decide) rfl hl.1 rfl (lv_room (Nat.le_of_ble_eq_true rfl)) dX3_study_24 ⟨Nat.le_of_ble_eq_true rfl, Nat.le_of_ble_eq_true rfl⟩ (fun H locs hP hD hS => ?_)
    refine lv_if_ne (tgt := 51) hx hb dX3_study_27 (by decide) (fun c27 => ?_) (fun c27 => ?_)
    · have hf := ifn hf c27
      rw [hQQ]
      exact W.vret hx hb hr (fun t ht hW => by rw [← Option.some.inj hf]; rw [← hAe] at hD hS; exact ⟨⟨(), rfl, trivial, by rw [ht]; exact hP, hD⟩, hS.F ht⟩) hS.2.2 dX3_study_51
    · have hf := ifp hf c27
      refine lv_aload_n hx hb dX3_study_30 rfl (lv_at hl 0 rfl) ?_
      refine bnd hf (fun o31 e31 hf => ?_)
      refine wrVi (As := []) (rest := []) (cw := [(aK, .inr (3, [.ref aL, .ref aM, .ref aA, .ref aK_ranks, .ref aK_clashes, .int o9, .int o13, .int o24.2.1, .int o24.2.2.1, .int o24.2.2.2])), (aK_ranks, eI cI 16 o1), (aM, .inr (4, [.ref aM_numbers, .ref aM_ranks, .ref aM_ahead, .int M_length, .ref aM_ways, .int M_waysCounted])), (aM_numbers, eI cI 12 M_numbers), (aM_ahead, eI cI 12 M_ahead), (aA, .inr (0, [.ref aA_row, .int A_length])), (aA_row, eI cI 16 A_row)]) (cw' := [(aK, .inr (3, [.ref aL, .ref aM, .ref aA, .ref aK_ranks, .ref aK_clashes, .int o9, .int o13, .int o31.2.1, .int o31.2.2.1, .int o31.2.2.2])), (aK_ranks, eI cI 16 o1), (aM, .inr (4, [.ref aM_numbers, .ref aM_ranks, .ref aM_ahead, .int M_length, .ref aM_ways, .int M_waysCounted])), (aM_numbers, eI cI 12 M_numbers), (aM_ahead, eI cI 12 M_ahead), (aA, .inr (0, [.ref aA_row, .int A_length])), (aA_row, eI cI 16 A_row)]) (wr := [(aK_clashes, eI cI 16 o5), (aL, .inr (1, [.ref aL_kinds, .ref aL_vs, .ref aL_ws, .ref aL_roles, .ref aL_mates, .int L_many])), (aL_roles, eI cI 16 L_roles), (aL_mates, eI cI 16 L_mates), (aM_ranks, eI cI 16 M_ranks)]) (ws2 := [(aK, .inr (3, [.ref aL, .ref aM, .ref aA, .ref aK_ranks, .ref aK_clashes, .int o9, .int o13, .int o31.2.1, .int o31.2.2.1, .int o31.2.2.2])), (aK_ranks, eI cI 16 o1), (aK_clashes, eI cI 16 o5), (aL, .inr (1, [.ref aL_kinds, .ref aL_vs, .ref aL_ws, .ref aL_roles, .ref aL_mates, .int L_many])), (aL_roles, eI cI 16 L_roles), (aL_mates, eI cI 16 L_mates), (aM, .inr (4, [.ref aM_numbers, .ref aM_ranks, .ref aM_ahead, .int M_length, .ref aM_ways, .int M_waysCounted])), (aM_numbers, eI cI 12 M_numbers), (aM_ranks, eI cI 16 M_ranks), (aM_ahead, eI cI 12 M_ahead), (aA, .inr (0, [.ref aA_row, .int A_length])), (aA_row, eI cI 16 A_row)]) ⟨hx, hb, hml, hown, hts⟩ (tX3_findAdd l D cI cJ cG aK aL aM aA aK_ranks aK_clashes aM_numbers aM_ranks aM_ahead aM_ways aA_row H.size  o9 o13 o24.2.1 o24.2.2.1 o24.2.2.2 o1 M_length M_waysCounted M_numbers M_ahead A_length A_row o31 e31) (cwV 0 hts gX3_study_X3_findAdd rfl rfl rfl (by decide +kernel) ⟨Nat.le_of_ble_eq_true rfl, Nat.le_of_ble_eq_true rfl⟩) (va_recv (ci := 3) (q0 := 0) hK.1 hP rfl rfl) hK hP hD hS hA [0, 1, 6, 7, 9, 10, 11] [2, 3, 4, 5, 8] [5, 6, 0, 1, 2, 3, 7, 8, 4, 9, 10, 11] rfl rfl rfl (by decide) (by decide) (by decide) (by decide) rfl hl.1 rfl (lv_room (Nat.le_of_ble_eq_true rfl)) dX3_study_31 ⟨Nat.le_of_ble_eq_true rfl, Nat.le_of_ble_eq_true rfl⟩ (fun H locs hP hD hS => ?_)
      refine lv_if_ne (tgt := 51) hx hb dX3_study_34 (by decide) (fun c34 => ?_) (fun c34 => ?_)
      · have hf := ifn hf c34
        rw [hQQ]
        exact W.vret hx hb hr (fun t ht hW => by rw [← Option.some.inj hf]; rw [← hAe] at hD hS; exact ⟨⟨(), rfl, trivial, by rw [ht]; exact hP, hD⟩, hS.F ht⟩) hS.2.2 dX3_study_51
      · have hf := ifp hf c34
        refine lv_aload_n hx hb dX3_study_37 rfl (lv_at hl 0 rfl) ?_
        refine bnd hf (fun o38 e38 hf => ?_)
        refine wrVi (As := []) (rest := []) (cw := [(aK, .inr (3, [.ref aL, .ref aM, .ref aA, .ref aK_ranks, .ref aK_clashes, .int o9, .int o13, .int o31.2.1, .int o31.2.2.1, .int o31.2.2.2])), (aK_ranks, eI cI 16 o1), (aM, .inr (4, [.ref aM_numbers, .ref aM_ranks, .ref aM_ahead, .int M_length, .ref aM_ways, .int M_waysCounted])), (aM_ahead, eI cI 12 M_ahead), (aA, .inr (0, [.ref aA_row, .int A_length])), (aA_row, eI cI 16 A_row)]) (cw' := [(aK, .inr (3, [.ref aL, .ref aM, .ref aA, .ref aK_ranks, .ref aK_clashes, .int o9, .int o13, .int o38.2.1, .int o38.2.2.1, .int o38.2.2.2])), (aK_ranks, eI cI 16 o1), (aM, .inr (4, [.ref aM_numbers, .ref aM_ranks, .ref aM_ahead, .int M_length, .ref aM_ways, .int M_waysCounted])), (aM_ahead, eI cI 12 M_ahead), (aA, .inr (0, [.ref aA_row, .int A_length])), (aA_row, eI cI 16 A_row)]) (wr := [(aK_clashes, eI cI 16 o5), (aL, .inr (1, [.ref aL_kinds, .ref aL_vs, .ref aL_ws, .ref aL_roles, .ref aL_mates, .int L_many])), (aL_roles, eI cI 16 L_roles), (aL_mates, eI cI 16 L_mates), (aM_numbers, eI cI 12 M_numbers), (aM_ranks, eI cI 16 M_ranks)]) (ws2 := [(aK, .inr (3, [.ref aL, .ref aM, .ref aA, .ref aK_ranks, .ref aK_clashes, .int o9, .int o13, .int o38.2.1, .int o38.2.2.1, .int o38.2.2.2])), (aK_ranks, eI cI 16 o1), (aK_clashes, eI cI 16 o5), (aL, .inr (1, [.ref aL_kinds, .ref aL_vs, .ref aL_ws, .ref aL_roles, .ref aL_mates, .int L_many])), (aL_roles, eI cI 16 L_roles), (aL_mates, eI cI 16 L_mates), (aM, .inr (4, [.ref aM_numbers, .ref aM_ranks, .ref aM_ahead, .int M_length, .ref aM_ways, .int M_waysCounted])), (aM_numbers, eI cI 12 M_numbers), (aM_ranks, eI cI 16 M_ranks), (aM_ahead, eI cI 12 M_ahead), (aA, .inr (0, [.ref aA_row, .int A_length])), (aA_row, eI cI 16 A_row)]) ⟨hx, hb, hml, hown, hts⟩ (tX3_findMove l D cI cJ cG aK aL aM aA aK_ranks aK_clashes aM_numbers aM_ranks aM_ahead aM_ways aA_row H.size  o9 o13 o31.2.1 o31.2.2.1 o31.2.2.2 o1 M_length M_waysCounted M_ahead A_length A_row o38 e38) (cwV 0 hts gX3_study_X3_findMove rfl rfl rfl (by decide +kernel) ⟨Nat.le_of_ble_eq_true rfl, Nat.le_of_ble_eq_true rfl⟩) (va_recv (ci := 3) (q0 := 0) hK.1 hP rfl rfl) hK hP hD hS hA [0, 1, 6, 9, 10, 11] [2, 3, 4, 5, 7, 8] [6, 7, 0, 1, 2, 3, 8, 4, 5, 9, 10, 11] rfl rfl rfl (by decide) (by decide) (by decide) (by decide) rfl hl.1 rfl (lv_room (Nat.le_of_ble_eq_true rfl)) dX3_study_38 ⟨Nat.le_of_ble_eq_true rfl, Nat.le_of_ble_eq_true rfl⟩ (fun H locs hP hD hS => ?_)
        refine lv_if_ne (tgt := 51) hx hb dX3_study_41 (by decide) (fun c41 => ?_) (fun c41 => ?_)
        · have hf := ifn hf c41
          rw [hQQ]
          exact W.vret hx hb hr (fun t ht hW => by rw [← Option.some.inj hf]; rw [← hAe] at hD hS; exact ⟨⟨(), rfl, trivial, by rw [ht]; exact hP, hD⟩, hS.F ht⟩) hS.2.2 dX3_study_51
        · have hf := ifp hf c41
          refine lv_aload_n hx hb dX3_study_44 rfl (lv_at hl 0 rfl) ?_
          refine lv_iconst (v := (-1 : Int32)) hx hb dX3_study_45 (by decide) ?_
          refine lv_iconst (v := (-1 : Int32)) hx hb dX3_study_46 (by decide) ?_
          refine lv_iconst (v := (-1 : Int32)) hx hb dX3_study_47 (by decide) ?_
          refine bnd hf (fun o48 e48 hf => ?_)
          refine wrVv (As := [.int (-1 : Int32), .int (-1 : Int32), .int (-1 : Int32)]) (rest := []) (cw := [(aK, .inr (3, [.ref aL, .ref aM, .ref aA, .ref aK_ranks, .ref aK_clashes, .int o9, .int o13, .int o38.2.1, .int o38.2.2.1, .int o38.2.2.2]))]) (cw' := [(aK, .inr (3, [.ref aL, .ref aM, .ref aA, .ref aK_ranks, .ref aK_clashes, .int o9, .int o13, .int o48.1, .int o48.2.1, .int o48.2.2]))]) (wr := [(aK_ranks, eI cI 16 o1), (aK_clashes, eI cI 16 o5), (aL, .inr (1, [.ref aL_kinds, .ref aL_vs, .ref aL_ws, .ref aL_roles, .ref aL_mates, .int L_many])), (aL_roles, eI cI 16 L_roles), (aL_mates, eI cI 16 L_mates), (aM, .inr (4, [.ref aM_numbers, .ref aM_ranks, .ref aM_ahead, .int M_length, .ref aM_ways, .int M_waysCounted])), (aM_numbers, eI cI 12 M_numbers), (aM_ranks, eI cI 16 M_ranks), (aM_ahead, eI cI 12 M_ahead), (aA, .inr (0, [.ref aA_row, .int A_length])), (aA_row, eI cI 16 A_row)]) (ws2 := [(aK, .inr (3, [.ref aL, .ref aM, .ref aA, .ref aK_ranks, .ref aK_clashes, .int o9, .int o13, .int o48.1, .int o48.2.1, .int o48.2.2])), (aK_ranks, eI cI 16 o1), (aK_clashes, eI cI 16 o5), (aL, .inr (1, [.ref aL_kinds, .ref aL_vs, .ref aL_ws, .ref aL_roles, .ref aL_mates, .int L_many])), (aL_roles, eI cI 16 L_roles), (aL_mates, eI cI 16 L_mates), (aM, .inr (4, [.ref aM_numbers, .ref aM_ranks, .ref aM_ahead, .int M_length, .ref aM_ways, .int M_waysCounted])), (aM_numbers, eI cI 12 M_numbers), (aM_ranks, eI cI 16 M_ranks), (aM_ahead, eI cI 12 M_ahead), (aA, .inr (0, [.ref aA_row, .int A_length])), (aA_row, eI cI 16 A_row)]) ⟨hx, hb, hml, hown, hts⟩ (tX3_hintAt l D cI cJ cG aK aL aM aA aK_ranks aK_clashes H.size (-1 : Int32) (-1 : Int32) (-1 : Int32) o9 o13 o38.2.1 o38.2.2.1 o38.2.2.2 o48 e48) (cwV 3 hts gX3_study_X3_hintAt rfl rfl rfl (by decide +kernel) ⟨Nat.le_of_ble_eq_true rfl, Nat.le_of_ble_eq_true rfl⟩) (va_recv (ci := 3) (q0 := 0) hK.1 hP rfl rfl) hK hP hD hS hA [0] [1, 2, 3, 4, 5, 6, 7, 8, 9, 10, 11] [11, 0, 1, 2, 3, 4, 5, 6, 7, 8, 9, 10] rfl rfl rfl (by decide) (by decide) (by decide) (by decide) rfl hl.1 rfl (lv_room (Nat.le_of_ble_eq_true rfl)) dX3_study_48 ⟨Nat.le_of_ble_eq_true rfl, Nat.le_of_ble_eq_true rfl⟩ (fun H locs hP hD hS => ?_)
          rw [hQQ]
          exact W.vret hx hb hr (fun t ht hW => by rw [← Option.some.inj hf]; rw [← hAe] at hD hS; exact ⟨⟨(), rfl, trivial, by rw [ht]; exact hP, hD⟩, hS.F ht⟩) hS.2.2 dX3_study_51

