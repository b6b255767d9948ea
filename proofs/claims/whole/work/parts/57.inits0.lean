/-! own words: what a constructor leaves; calls of constructors -/
theorem ty_int {D : va_G} {cl : List vw_C} {tys : tyT} {U : State} {c1 c2 : ClassId} (h : va_K D cl tys U) (k1 k2 : Nat) (h1 : tys[k1]? = some (c1, .int)) (h2 : tys[k2]? = some (c2, .int)) : c1 = c2 := by
  have a : U.vm.findClass ("[" ++ FieldType.toString .int) = some c1 := (h.2 k1 _ h1).2
  have b : U.vm.findClass ("[" ++ FieldType.toString .int) = some c2 := (h.2 k2 _ h2).2
  exact Option.some.inj (a.symm.trans b)
theorem ty_long {D : va_G} {cl : List vw_C} {tys : tyT} {U : State} {c1 c2 : ClassId} (h : va_K D cl tys U) (k1 k2 : Nat) (h1 : tys[k1]? = some (c1, .long)) (h2 : tys[k2]? = some (c2, .long)) : c1 = c2 := by
  have a : U.vm.findClass ("[" ++ FieldType.toString .long) = some c1 := (h.2 k1 _ h1).2
  have b : U.vm.findClass ("[" ++ FieldType.toString .long) = some c2 := (h.2 k2 _ h2).2
  exact Option.some.inj (a.symm.trans b)
abbrev wQn (D : va_G) (cw : va_W) (cwf : (Nat → Nat) → va_W) (sz : Nat) : Array Value → State → Outcome → State → Prop := va_Qv (S := Nat → Nat) (fun _ => True) (fun r t => wB D cw (cwf r) sz t) (va_A cw sz)
section OWNI
variable {p : Program} {l : Launch} {e : Env} {R : Room} {s : State} {m : MethodId} {args : Array Value} {below : List Frame} {meth : Method} {c : Code} {H : Heap} {locs : List Loc} {cells slots : Nat} {Q : State → Prop}
variable {cc : ByteArray} {pc : Nat} {ls : Array Slot} {rest st0 : List Value} {D : va_G} {A : Nat → Prop} {tys : List (ClassId × FieldType)} {ws : va_W} {H0 : Heap}
variable {y : MethodName} {bytes : ByteArray} {maxL nL n index mc ms : Nat} {wsy Ts : List Cond} {rm : Room} {own host : String} {b : Addr} {As : List Value} {cw wr : va_W} {cwf : (Nat → Nat) → va_W}
theorem wrI (S : CallFix p m c cc nL s args Ts own) (hM : Met l y wsy rm (va_Pc (.ref b :: As) (wP D tys cw H.size)) (wQn D cw cwf H.size) mc ms (va_A cw H.size)) (cwv : CallB R s args own index y bytes maxL none wsy rm mc ms n ∧ y.name = "<init>" ∧ (Cond.instanceMethod y).before args s = true) (hK : kK D tys s) (hP : va_P D vwCl ws H) (hD : va_D A ws) (hS : va_S A H0 H locs) (hA : ∀ q : Nat, H0.size ≤ q → A q)
    (isC isR : List Nat) (hC : isC.map (fun i => ws[i]?) = cw.map some) (hR : isR.map (fun i => ws[i]?) = wr.map some) (hnC : va_nd isC = true) (hnR : va_nd isR = true) (hdis : ∀ i ∈ isR, i ∉ isC)
    (hn : As.length = n) (hsize : ls.size = nL) (hst : st0 = As.reverse ++ .ref b :: rest) (hW : 2 * (F0 m pc ls st0).monitorRoom + (rest.map fun v => v.category).sum ≤ 8) (hdg : decode cc pc = .ok (.invokespecial index, 3)) (hf : cells + mc ≤ R.cells ∧ slots + ms ≤ R.slots)
    (kk : ∀ (r : Nat → Nat) (H1 : Heap) (locs1 : List Loc), va_P D vwCl (wr ++ cwf r) H1 → va_D A (wr ++ cwf r) → va_S A H0 H1 locs1 → W p l e R s m args below meth c H1 locs1 (cells + mc) (slots + ms) Q (F0 m (pc + 3) ls rest)) : W p l e R s m args below meth c H locs cells slots Q (F0 m pc ls st0) := by
  have hF := va_free hD hS hA isC hC
  refine va_callv (va_runI (g := F0 m pc ls st0) S hM cwv ⟨wBlind, fun U hU hW => ⟨rfl, by rw [hU], by rw [hU]; exact va_P.sub hP isC (fm_of hC), hK.warm hW, (va_D.sub hD isC hnC hC).weaken (fun _ _ _ _ => trivial)⟩⟩ rfl hn hsize hst hW hdg hf) hS (fun q _ h => hF q h) hF ?_
  intro u t H1 locs1 ht hvm hw hB hz hk hS1
  obtain ⟨hP1, hD1⟩ := hB
  rw [ht] at hP1
  obtain ⟨h1, h2⟩ := va_join hP hD isC isR hC hR hnR hdis hk hF hP1 hD1
  exact kk u H1 locs1 h1 h2 hS1
theorem wrIN (S : CallFix p m c cc nL s args Ts own) (hM : Met l y wsy rm (va_Pc (.ref b :: As) (wP D tys cw H.size)) (wQn D cw cwf H.size) mc ms (va_A cw H.size)) (cwv : va_CN R s args own index y host bytes maxL none wsy rm mc ms n ∧ y.name = "<init>" ∧ (Cond.instanceMethod y).before args s = true) (hK : kK D tys s) (hP : va_P D vwCl ws H) (hD : va_D A ws) (hS : va_S A H0 H locs) (hA : ∀ q : Nat, H0.size ≤ q → A q)
    (isC isR : List Nat) (hC : isC.map (fun i => ws[i]?) = cw.map some) (hR : isR.map (fun i => ws[i]?) = wr.map some) (hnC : va_nd isC = true) (hnR : va_nd isR = true) (hdis : ∀ i ∈ isR, i ∉ isC)
    (hn : As.length = n) (hsize : ls.size = nL) (hst : st0 = As.reverse ++ .ref b :: rest) (hW : 2 * (F0 m pc ls st0).monitorRoom + (rest.map fun v => v.category).sum ≤ 8) (hdg : decode cc pc = .ok (.invokespecial index, 3)) (hf : cells + mc ≤ R.cells ∧ slots + ms ≤ R.slots)
    (kk : ∀ (r : Nat → Nat) (H1 : Heap) (locs1 : List Loc), va_P D vwCl (wr ++ cwf r) H1 → va_D A (wr ++ cwf r) → va_S A H0 H1 locs1 → W p l e R s m args below meth c H1 locs1 (cells + mc) (slots + ms) Q (F0 m (pc + 3) ls rest)) : W p l e R s m args below meth c H locs cells slots Q (F0 m pc ls st0) := by
  have hF := va_free hD hS hA isC hC
  refine va_callv (va_runIN (g := F0 m pc ls st0) S hM cwv ⟨wBlind, fun U hU hW => ⟨rfl, by rw [hU], by rw [hU]; exact va_P.sub hP isC (fm_of hC), hK.warm hW, (va_D.sub hD isC hnC hC).weaken (fun _ _ _ _ => trivial)⟩⟩ rfl hn hsize hst hW hdg hf) hS (fun q _ h => hF q h) hF ?_
  intro u t H1 locs1 ht hvm hw hB hz hk hS1
  obtain ⟨hP1, hD1⟩ := hB
  rw [ht] at hP1
  obtain ⟨h1, h2⟩ := va_join hP hD isC isR hC hR hnR hdis hk hF hP1 hD1
  exact kk u H1 locs1 h1 h2 hS1
end OWNI
