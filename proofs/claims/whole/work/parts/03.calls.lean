/-! own words: cells, calls of methods that read or write -/
def DEP : Nat := 20
abbrev eI (cI : ClassId) (n : Nat) (f : Nat → Int32) : va_E := .inl (cI, n, .inl f)
abbrev eJ (cJ : ClassId) (n : Nat) (f : Nat → Int64) : va_E := .inl (cJ, n, .inr (.inl f))
def gF (r0 r1 r2 r3 r4 r5 r6 r7 : Nat) : Nat → Option Nat := fun i => if i = 0 then some r0 else if i = 1 then some r1 else if i = 2 then some r2 else if i = 3 then some r3 else if i = 4 then some r4 else if i = 5 then some r5 else if i = 6 then some r6 else if i = 7 then some r7 else none
abbrev eG (cG : ClassId) (r0 r1 r2 r3 r4 r5 r6 r7 : Nat) : va_E := .inl (cG, 8, .inr (.inr (.inr (.inr (gF r0 r1 r2 r3 r4 r5 r6 r7)))))
theorem rF {s t : State} (h : t.heap = s.heap) : va_F (fun _ => False) s t := ⟨by rw [h]; exact Nat.le_refl _, fun q _ _ => by rw [h]⟩
theorem z01 {v : Int32} (h : is01 v = true) : narrow .boolean (.int v) = .int v := by
  rcases of_decide_eq_true h with rfl | rfl <;> rfl
section OWNC
variable {p : Program} {l : Launch} {e : Env} {R : Room} {s : State} {m : MethodId} {args : Array Value} {below : List Frame} {meth : Method} {c : Code} {H : Heap} {locs : List Loc} {cells slots : Nat} {Q : State → Prop}
variable {cc : ByteArray} {pc : Nat} {ls : Array Slot} {rest st0 : List Value} {D : va_G} {cl : List vw_C} {A : Nat → Prop} {a : Nat} {tys : List (ClassId × FieldType)} {ws : va_W} {H0 : Heap}
theorem aldA (hexec : p.tables.exec = Jvm.exec) (hb : c.code = cc) (hK : va_K D cl tys s) (hP : va_P D cl ws H) (q0 t0 : Nat) {cA : ClassId} {ty : FieldType} {n : Nat} {f : Nat → Option Nat} (ha : ws[q0]? = some (a, .inl (cA, n, .inr (.inr (.inr (.inr f)))))) (ht : tys[t0]? = some (cA, .array ty)) {i : Int32} (hin : vp_in i n) (hdg : decode cc pc = .ok (.aaload, 1))
    (kk : W p l e R s m args below meth c H locs cells slots Q (F0 m (pc + 1) ls (va_rf (f i.toNatClampNeg) :: rest))) : W p l e R s m args below meth c H locs cells slots Q (F0 m pc ls (.int i :: .ref a :: rest)) := by
  have hlt : i.toNatClampNeg < n := Nat.not_le.mp fun q => hin (Or.inr q)
  exact W.aald (v := va_rf (f i.toNatClampNeg)) (ty := .array ty) hexec hb (hP q0 _ ha) ((hK.2 t0 _ ht).1 n (fun j => va_rf (f j))) rfl (fun q => by cases q) (by show ¬ (i < 0 ∨ (arrV _ _ _).slots.size ≤ _); rw [arrV_size]; exact hin) (by show (arrV _ _ _).slots[_]? = _; rw [arrV_read _ _ hlt]) rfl rfl hdg kk
variable {y : MethodName} {bytes : ByteArray} {maxL nL n index : Nat} {ret : Option FieldType} {wsy Ts : List Cond} {rm : Room} {own C : String} {b : Addr} {As : List Value} {cw cw' wr ws2 : va_W}
theorem rdVi {r : Int32} (S : CallFix p m c cc nL s args Ts own) (hM : Met l y wsy rm (va_Pc (.ref b :: As) (rP D tys cw H)) (rQi r H) 0 0 (fun _ => False)) (cwv : CallW R s args own C index y bytes maxL ret wsy rm 0 0 n) (hrc : ∃ cell : Cell, H[b]? = some cell ∧ cell.vm.isStatics = false ∧ s.vm.findClass C = some cell.cls) (hK : kK D tys s) (hP : va_P D vwCl cw H)
    (hn : As.length = n) (hsize : ls.size = nL) (hst : st0 = As.reverse ++ .ref b :: rest) (hW : 2 * (F0 m pc ls st0).monitorRoom + (rest.map fun v => v.category).sum ≤ 8) (hdg : decode cc pc = .ok (.invokevirtual index, 3)) (hf : cells ≤ R.cells ∧ slots ≤ R.slots) (hS : va_S A H0 H locs)
    (kk : ∀ locs1 : List Loc, va_S A H0 H locs1 → W p l e R s m args below meth c H locs1 cells slots Q (F0 m (pc + 3) ls (.int r :: rest))) : W p l e R s m args below meth c H locs cells slots Q (F0 m pc ls st0) := by
  refine va_calli (va_runV (g := F0 m pc ls st0) S hM cwv ⟨rBlind, hrc, fun U hU hW => ⟨rfl, hU, hP, hK.warm hW⟩⟩ rfl hn hsize hst hW hdg hf) hS (fun _ _ h => h.elim) (fun _ h => h.elim) ?_
  intro r' u t H1 locs1 ht hvm hw hB hz hk hS1
  obtain rfl : H1 = H := ht.symm.trans hB
  subst hw
  exact kk locs1 hS1
theorem rdVl {r : Int64} (S : CallFix p m c cc nL s args Ts own) (hM : Met l y wsy rm (va_Pc (.ref b :: As) (rP D tys cw H)) (rQl r H) 0 0 (fun _ => False)) (cwv : CallW R s args own C index y bytes maxL ret wsy rm 0 0 n) (hrc : ∃ cell : Cell, H[b]? = some cell ∧ cell.vm.isStatics = false ∧ s.vm.findClass C = some cell.cls) (hK : kK D tys s) (hP : va_P D vwCl cw H)
    (hn : As.length = n) (hsize : ls.size = nL) (hst : st0 = As.reverse ++ .ref b :: rest) (hW : 2 * (F0 m pc ls st0).monitorRoom + (rest.map fun v => v.category).sum ≤ 8) (hdg : decode cc pc = .ok (.invokevirtual index, 3)) (hf : cells ≤ R.cells ∧ slots ≤ R.slots) (hS : va_S A H0 H locs)
    (kk : ∀ locs1 : List Loc, va_S A H0 H locs1 → W p l e R s m args below meth c H locs1 cells slots Q (F0 m (pc + 3) ls (.long r :: rest))) : W p l e R s m args below meth c H locs cells slots Q (F0 m pc ls st0) := by
  refine va_calll (va_runV (g := F0 m pc ls st0) S hM cwv ⟨rBlind, hrc, fun U hU hW => ⟨rfl, hU, hP, hK.warm hW⟩⟩ rfl hn hsize hst hW hdg hf) hS (fun _ _ h => h.elim) (fun _ h => h.elim) ?_
  intro r' u t H1 locs1 ht hvm hw hB hz hk hS1
  obtain rfl : H1 = H := ht.symm.trans hB
  subst hw
  exact kk locs1 hS1
theorem rdSi {r : Int32} (S : CallFix p m c cc nL s args Ts own) (hM : Met l y wsy rm (va_Pc As (rP D tys cw H)) (rQi r H) 0 0 (fun _ => False)) (cwv : CallB R s args own index y bytes maxL ret wsy rm 0 0 n ∧ (Cond.static y).before args s = true) (hK : kK D tys s) (hP : va_P D vwCl cw H)
    (hn : As.length = n) (hsize : ls.size = nL) (hst : st0 = As.reverse ++ rest) (hW : 2 * (F0 m pc ls st0).monitorRoom + (rest.map fun v => v.category).sum ≤ 8) (hdg : decode cc pc = .ok (.invokestatic index, 3)) (hf : cells ≤ R.cells ∧ slots ≤ R.slots) (hS : va_S A H0 H locs)
    (kk : ∀ locs1 : List Loc, va_S A H0 H locs1 → W p l e R s m args below meth c H locs1 cells slots Q (F0 m (pc + 3) ls (.int r :: rest))) : W p l e R s m args below meth c H locs cells slots Q (F0 m pc ls st0) := by
  refine va_calli (va_runS (g := F0 m pc ls st0) S hM cwv ⟨rBlind, fun U hU hW => ⟨rfl, hU, hP, hK.warm hW⟩⟩ rfl hn hsize hst hW hdg hf) hS (fun _ _ h => h.elim) (fun _ h => h.elim) ?_
  intro r' u t H1 locs1 ht hvm hw hB hz hk hS1
  obtain rfl : H1 = H := ht.symm.trans hB
  subst hw
  exact kk locs1 hS1
theorem fm_of {l : List Nat} {w w1 : va_W} (h : l.map (fun i => w[i]?) = w1.map some) : l.filterMap (fun i => w[i]?) = w1 := by
  induction l generalizing w1 with
  | nil => cases w1 with
    | nil => rfl
    | cons x w1 => cases h
  | cons i l ih => cases w1 with
    | nil => cases h
    | cons x w1 =>
      rw [List.map_cons, List.map_cons] at h
      injection h with h1 h2
      rw [List.filterMap_cons, h1]
      show x :: _ = x :: _
      rw [ih h2]
theorem wJoin {t : State} {H1 : Heap} (hP : va_P D vwCl ws H) (hD : va_D A ws) (isC isR perm : List Nat) (hC : isC.map (fun i => ws[i]?) = cw.map some) (hR : isR.map (fun i => ws[i]?) = wr.map some) (hQ : perm.map (fun i => (wr ++ cw')[i]?) = ws2.map some) (hnR : va_nd isR = true) (hdis : ∀ i ∈ isR, i ∉ isC) (hnP : va_nd perm = true)
    (hk : ∀ q : Nat, q < H.size → ¬ va_A cw H.size q → H1[q]? = H[q]?) (hF : ∀ q, va_A cw H.size q → A q) (ht : t.heap = H1) (hB : wB D cw cw' H.size t) : va_P D vwCl ws2 H1 ∧ va_D A ws2 := by
  obtain ⟨hP1, hD1⟩ := hB
  rw [ht] at hP1
  obtain ⟨h1, h2⟩ := va_join hP hD isC isR hC hR hnR hdis hk hF hP1 hD1
  exact ⟨va_P.sub h1 perm (fm_of hQ), va_D.sub h2 perm hnP hQ⟩
theorem wrVi {r : Int32} (S : CallFix p m c cc nL s args Ts own) (hM : Met l y wsy rm (va_Pc (.ref b :: As) (wP D tys cw H.size)) (wQi D r cw cw' H.size) 0 0 (va_A cw H.size)) (cwv : CallW R s args own C index y bytes maxL ret wsy rm 0 0 n) (hrc : ∃ cell : Cell, H[b]? = some cell ∧ cell.vm.isStatics = false ∧ s.vm.findClass C = some cell.cls) (hK : kK D tys s) (hP : va_P D vwCl ws H) (hD : va_D A ws) (hS : va_S A H0 H locs) (hA : ∀ q : Nat, H0.size ≤ q → A q)
    (isC isR perm : List Nat) (hC : isC.map (fun i => ws[i]?) = cw.map some) (hR : isR.map (fun i => ws[i]?) = wr.map some) (hQ : perm.map (fun i => (wr ++ cw')[i]?) = ws2.map some) (hnC : va_nd isC = true) (hnR : va_nd isR = true) (hdis : ∀ i ∈ isR, i ∉ isC) (hnP : va_nd perm = true)
    (hn : As.length = n) (hsize : ls.size = nL) (hst : st0 = As.reverse ++ .ref b :: rest) (hW : 2 * (F0 m pc ls st0).monitorRoom + (rest.map fun v => v.category).sum ≤ 8) (hdg : decode cc pc = .ok (.invokevirtual index, 3)) (hf : cells ≤ R.cells ∧ slots ≤ R.slots)
    (kk : ∀ (H1 : Heap) (locs1 : List Loc), va_P D vwCl ws2 H1 → va_D A ws2 → va_S A H0 H1 locs1 → W p l e R s m args below meth c H1 locs1 cells slots Q (F0 m (pc + 3) ls (.int r :: rest))) : W p l e R s m args below meth c H locs cells slots Q (F0 m pc ls st0) := by
  have hF := va_free hD hS hA isC hC
  refine va_calli (va_runV (g := F0 m pc ls st0) S hM cwv ⟨wBlind, hrc, fun U hU hW => ⟨rfl, by rw [hU], by rw [hU]; exact va_P.sub hP isC (fm_of hC), hK.warm hW, (va_D.sub hD isC hnC hC).weaken (fun _ _ _ _ => trivial)⟩⟩ rfl hn hsize hst hW hdg hf) hS (fun q _ h => hF q h) hF ?_
  intro r' u t H1 locs1 ht hvm hw hB hz hk hS1
  subst hw
  obtain ⟨g1, g2⟩ := wJoin hP hD isC isR perm hC hR hQ hnR hdis hnP hk hF ht hB
  exact kk H1 locs1 g1 g2 hS1
theorem wrVl {r : Int64} (S : CallFix p m c cc nL s args Ts own) (hM : Met l y wsy rm (va_Pc (.ref b :: As) (wP D tys cw H.size)) (wQl D r cw cw' H.size) 0 0 (va_A cw H.size)) (cwv : CallW R s args own C index y bytes maxL ret wsy rm 0 0 n) (hrc : ∃ cell : Cell, H[b]? = some cell ∧ cell.vm.isStatics = false ∧ s.vm.findClass C = some cell.cls) (hK : kK D tys s) (hP : va_P D vwCl ws H) (hD : va_D A ws) (hS : va_S A H0 H locs) (hA : ∀ q : Nat, H0.size ≤ q → A q)
    (isC isR perm : List Nat) (hC : isC.map (fun i => ws[i]?) = cw.map some) (hR : isR.map (fun i => ws[i]?) = wr.map some) (hQ : perm.map (fun i => (wr ++ cw')[i]?) = ws2.map some) (hnC : va_nd isC = true) (hnR : va_nd isR = true) (hdis : ∀ i ∈ isR, i ∉ isC) (hnP : va_nd perm = true)
    (hn : As.length = n) (hsize : ls.size = nL) (hst : st0 = As.reverse ++ .ref b :: rest) (hW : 2 * (F0 m pc ls st0).monitorRoom + (rest.map fun v => v.category).sum ≤ 8) (hdg : decode cc pc = .ok (.invokevirtual index, 3)) (hf : cells ≤ R.cells ∧ slots ≤ R.slots)
    (kk : ∀ (H1 : Heap) (locs1 : List Loc), va_P D vwCl ws2 H1 → va_D A ws2 → va_S A H0 H1 locs1 → W p l e R s m args below meth c H1 locs1 cells slots Q (F0 m (pc + 3) ls (.long r :: rest))) : W p l e R s m args below meth c H locs cells slots Q (F0 m pc ls st0) := by
  have hF := va_free hD hS hA isC hC
  refine va_calll (va_runV (g := F0 m pc ls st0) S hM cwv ⟨wBlind, hrc, fun U hU hW => ⟨rfl, by rw [hU], by rw [hU]; exact va_P.sub hP isC (fm_of hC), hK.warm hW, (va_D.sub hD isC hnC hC).weaken (fun _ _ _ _ => trivial)⟩⟩ rfl hn hsize hst hW hdg hf) hS (fun q _ h => hF q h) hF ?_
  intro r' u t H1 locs1 ht hvm hw hB hz hk hS1
  subst hw
  obtain ⟨g1, g2⟩ := wJoin hP hD isC isR perm hC hR hQ hnR hdis hnP hk hF ht hB
  exact kk H1 locs1 g1 g2 hS1
theorem wrVv (S : CallFix p m c cc nL s args Ts own) (hM : Met l y wsy rm (va_Pc (.ref b :: As) (wP D tys cw H.size)) (wQv D cw cw' H.size) 0 0 (va_A cw H.size)) (cwv : CallW R s args own C index y bytes maxL ret wsy rm 0 0 n) (hrc : ∃ cell : Cell, H[b]? = some cell ∧ cell.vm.isStatics = false ∧ s.vm.findClass C = some cell.cls) (hK : kK D tys s) (hP : va_P D vwCl ws H) (hD : va_D A ws) (hS : va_S A H0 H locs) (hA : ∀ q : Nat, H0.size ≤ q → A q)
    (isC isR perm : List Nat) (hC : isC.map (fun i => ws[i]?) = cw.map some) (hR : isR.map (fun i => ws[i]?) = wr.map some) (hQ : perm.map (fun i => (wr ++ cw')[i]?) = ws2.map some) (hnC : va_nd isC = true) (hnR : va_nd isR = true) (hdis : ∀ i ∈ isR, i ∉ isC) (hnP : va_nd perm = true)
    (hn : As.length = n) (hsize : ls.size = nL) (hst : st0 = As.reverse ++ .ref b :: rest) (hW : 2 * (F0 m pc ls st0).monitorRoom + (rest.map fun v => v.category).sum ≤ 8) (hdg : decode cc pc = .ok (.invokevirtual index, 3)) (hf : cells ≤ R.cells ∧ slots ≤ R.slots)
    (kk : ∀ (H1 : Heap) (locs1 : List Loc), va_P D vwCl ws2 H1 → va_D A ws2 → va_S A H0 H1 locs1 → W p l e R s m args below meth c H1 locs1 cells slots Q (F0 m (pc + 3) ls rest)) : W p l e R s m args below meth c H locs cells slots Q (F0 m pc ls st0) := by
  have hF := va_free hD hS hA isC hC
  refine va_callv (va_runV (g := F0 m pc ls st0) S hM cwv ⟨wBlind, hrc, fun U hU hW => ⟨rfl, by rw [hU], by rw [hU]; exact va_P.sub hP isC (fm_of hC), hK.warm hW, (va_D.sub hD isC hnC hC).weaken (fun _ _ _ _ => trivial)⟩⟩ rfl hn hsize hst hW hdg hf) hS (fun q _ h => hF q h) hF ?_
  intro u t H1 locs1 ht hvm hw hB hz hk hS1
  obtain ⟨g1, g2⟩ := wJoin hP hD isC isR perm hC hR hQ hnR hdis hnP hk hF ht hB
  exact kk H1 locs1 g1 g2 hS1
theorem wrSv (S : CallFix p m c cc nL s args Ts own) (hM : Met l y wsy rm (va_Pc As (wP D tys cw H.size)) (wQv D cw cw' H.size) 0 0 (va_A cw H.size)) (cwv : CallB R s args own index y bytes maxL ret wsy rm 0 0 n ∧ (Cond.static y).before args s = true) (hK : kK D tys s) (hP : va_P D vwCl ws H) (hD : va_D A ws) (hS : va_S A H0 H locs) (hA : ∀ q : Nat, H0.size ≤ q → A q)
    (isC isR perm : List Nat) (hC : isC.map (fun i => ws[i]?) = cw.map some) (hR : isR.map (fun i => ws[i]?) = wr.map some) (hQ : perm.map (fun i => (wr ++ cw')[i]?) = ws2.map some) (hnC : va_nd isC = true) (hnR : va_nd isR = true) (hdis : ∀ i ∈ isR, i ∉ isC) (hnP : va_nd perm = true)
    (hn : As.length = n) (hsize : ls.size = nL) (hst : st0 = As.reverse ++ rest) (hW : 2 * (F0 m pc ls st0).monitorRoom + (rest.map fun v => v.category).sum ≤ 8) (hdg : decode cc pc = .ok (.invokestatic index, 3)) (hf : cells ≤ R.cells ∧ slots ≤ R.slots)
    (kk : ∀ (H1 : Heap) (locs1 : List Loc), va_P D vwCl ws2 H1 → va_D A ws2 → va_S A H0 H1 locs1 → W p l e R s m args below meth c H1 locs1 cells slots Q (F0 m (pc + 3) ls rest)) : W p l e R s m args below meth c H locs cells slots Q (F0 m pc ls st0) := by
  have hF := va_free hD hS hA isC hC
  refine va_callv (va_runS (g := F0 m pc ls st0) S hM cwv ⟨wBlind, fun U hU hW => ⟨rfl, by rw [hU], by rw [hU]; exact va_P.sub hP isC (fm_of hC), hK.warm hW, (va_D.sub hD isC hnC hC).weaken (fun _ _ _ _ => trivial)⟩⟩ rfl hn hsize hst hW hdg hf) hS (fun q _ h => hF q h) hF ?_
  intro u t H1 locs1 ht hvm hw hB hz hk hS1
  obtain ⟨g1, g2⟩ := wJoin hP hD isC isR perm hC hR hQ hnR hdis hnP hk hF ht hB
  exact kk H1 locs1 g1 g2 hS1
end OWNC
