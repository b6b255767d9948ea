/-! orders, right, which; the answer's calls; runs -/
section ORDERS
variable {n k a : Nat} {rl mt mr fr num row ah be bf mw : Nat → Int32} {wy : Nat → Int64} {wc : Int32}
theorem orders_c (hk : k ≤ 12) (hwc : WcOK ah k wc mw) (hwy : ∀ p, p < 2 ^ k → wy p = lN (wT ah k p)) : ∃ v wc' mw', fX5_orders (nI k) wc ah mw = some (v, wc', mw') ∧ fX6_orders wy = some v ∧ WcOK ah k wc' mw' := by
  obtain ⟨mw', h1, h2⟩ := manyOrders_v hk hwc
  refine ⟨lN (wT ah k 0), 1, mw', ?_, ?_, Or.inr ⟨rfl, h1⟩⟩
  · unfold fX5_orders
    exact bind_v h2 rfl
  · unfold fX6_orders
    rw [inB0, cl0, hwy 0 (pw_pos k)]
theorem zc_0 : ∀ k, zc 0 k = k
  | 0 => rfl
  | k + 1 => by
    show zc 0 k + (if (0 : Nat).testBit k = true then 0 else 1) = k + 1
    rw [zc_0 k, Nat.zero_testBit, if_neg (by decide)]
theorem lN_of {x : Int64} {w : Nat} (hw : w < 2 ^ 31) (h0 : ¬ x < 0) (h1 : x < lN w) : ∃ L, L < w ∧ x = lN L := by
  rw [Int64.lt_iff_toInt_lt] at h0 h1
  rw [pk_lT (by omega)] at h1
  rw [show (0 : Int64).toInt = 0 from rfl] at h0
  refine ⟨x.toInt.toNat, by omega, Int64.toInt_inj.mp ?_⟩
  rw [pk_lT (by omega)]
  omega
theorem right_c (x : Int64) (y : Int32) (hk : k ≤ 12) (hwc : WcOK ah k wc mw) (hbf : ∀ r, r < k → bf r = ah r) (hwy : ∀ p, p < 2 ^ k → wy p = lN (wT ah k p)) : ∃ v wc' mw', fX5_right x y (nI k) wc num ah mw = some (v, wc', mw') ∧ fX6_right x y (nI k) num bf wy = some v ∧ WcOK ah k wc' mw' := by
  unfold fX5_right fX4_lineOfOrder fX6_right
  rw [in6_eq y (by omega), inB0, cl0, hwy 0 (pw_pos k)]
  by_cases hx : x < 0
  · refine ⟨-1, wc, mw, bind_v (ite_v (fun _ => rfl) (fun _ => ite_v (fun _ => rfl) (fun _ => if_p ((lg_cmp_lt _ _).mpr hx) rfl))) rfl, if_p ((lg_cmp_lt _ _).mpr hx) rfl, hwc⟩
  have hx' : ¬ lg_cmp x 0 < 0 := fun h => hx ((lg_cmp_lt _ _).mp h)
  rcases hasPlace_v y (show k < 2 ^ 31 by omega) with ⟨j, hj, rfl, e⟩ | ⟨h, e⟩
  · obtain ⟨mw', h1, h2⟩ := manyOrders_v hk hwc
    by_cases hxo : x < lN (wT ah k 0)
    · obtain ⟨L, hL, rfl⟩ := lN_of (wT_small hk (pw_pos k)) hx hxo
      obtain ⟨v, r1, r2⟩ := right_loop (num := num) hk hbf hwy h1 hj FU FU (j + 1) 0 0 L (-1) (by omega) (by rw [FU_eq]; omega) (by rw [FU_eq]; omega) (pw_pos k) (by rw [zc_0]; rfl) hL (Or.inl rfl)
      refine ⟨v, 1, mw', bind_v (if_n (nI_pos (by omega)) (if_n (nI_ge hj (by omega)) (if_n hx' (bind_v h2 (if_p ((lg_cmp_lt _ _).mpr hxo) r1))))) rfl, if_n hx' (if_n (fun q => Int64.not_le.mpr hxo ((lg_cmp_ge _ _).mp q)) (bind_v e (if_n (by decide) r2))), Or.inr ⟨rfl, h1⟩⟩
    · refine ⟨-1, 1, mw', bind_v (if_n (nI_pos (by omega)) (if_n (nI_ge hj (by omega)) (if_n hx' (bind_v h2 (if_n (fun q => hxo ((lg_cmp_lt _ _).mp q)) rfl))))) rfl, if_n hx' (if_p ((lg_cmp_ge _ _).mpr (Int64.not_lt.mp hxo)) rfl), Or.inr ⟨rfl, h1⟩⟩
  · refine ⟨-1, wc, mw, bind_v (ite_v (fun _ => rfl) (fun g => if_p (hp_ge (by omega) h g) rfl)) rfl, if_n hx' (ite_v (fun _ => rfl) (fun _ => bind_v e (if_p rfl rfl))), hwc⟩
theorem which_c (hE : EnvOK n k rl mt mr fr num ah be) (hr : RowOK n a row) (hwc : WcOK ah k wc mw) (hbf : ∀ r, r < k → bf r = ah r) (hwy : ∀ p, p < 2 ^ k → wy p = lN (wT ah k p)) : ∃ v wc' mw', fX5_which (nI k) wc mr ah mw (nI a) row = some (v, wc', mw') ∧ fX6_which (nI k) (nI a) rl fr bf wy row = some v ∧ WcOK ah k wc' mw' := by
  obtain ⟨hn, hk, hrk, hnum, hmt, hab⟩ := hE
  have ha := hr.1
  unfold fX5_which fX4_orderOf fX6_which
  by_cases hak : a = k
  · subst hak
    obtain ⟨mw', h1, h2⟩ := count_any hk hwc
    obtain ⟨v, r1, r2⟩ := which_loop (num := num) (row := row) (xr := fun i => (row i).toNatClampNeg) hk hn hbf hwy h1 hrk (fun i hi => by
      obtain ⟨l, hl, e⟩ := hr.2.1 i hi
      refine ⟨?_, ?_⟩
      · show row i = nI (row i).toNatClampNeg
        rw [e, nI_clamp (by omega)]
      · show (row i).toNatClampNeg < n
        rw [e, nI_clamp (by omega)]; exact hl) (fun i j hi hj e => by
      obtain ⟨l, hl, e1⟩ := hr.2.1 i hi
      obtain ⟨l', hl', e2⟩ := hr.2.1 j hj
      have e' : (row i).toNatClampNeg = (row j).toNatClampNeg := e
      rw [e1, e2, nI_clamp (by omega), nI_clamp (by omega)] at e'
      subst e'
      rcases Nat.lt_trichotomy i j with q | q | q
      · exact absurd (e1.trans e2.symm) (hr.2.2 i j q hj)
      · exact q
      · exact absurd (e2.trans e1.symm) (hr.2.2 j i q hi)) FU FU a 0 0 0 (by omega) (by rw [FU_eq]; omega) (by rw [FU_eq]; omega) (pw_pos a) (by rw [zc_0]; rfl) (fun r _ h => by rw [Nat.zero_testBit] at h; cases h)
    exact ⟨v, 1, mw', bind_v (if_p rfl (bind_v h2 r1)) rfl, if_p rfl r2, Or.inr ⟨rfl, h1⟩⟩
  · have hne : ¬ nI a = nI k := fun h => hak (nI_i (by omega) (by omega) h)
    exact ⟨-1, wc, mw, bind_v (if_n hne rfl) rfl, if_n hne rfl, hwc⟩
theorem lay_c (x y : Int32) (hn : n ≤ 16) (hr : RowOK n a row) : ∃ v a' row', fX5_lay x y (nI n) (nI a) row = some (v, nI a', row') ∧ fX6_lay x y (nI n) (nI a) row = some (v, nI a', row') ∧ RowOK n a' row' := by
  have ha := hr.1
  have hin : fX6_in y 0 (nI a) = fX0_hasPlace y (nI (a + 1)) := by
    rw [← nI_pred a]
    exact in6_eq y (by omega)
  unfold fX5_lay fX6_lay
  rw [isLine_eq x (by omega), hin]
  rcases has_v x (show n < 2 ^ 31 by omega) with ⟨l, hl, rfl, e⟩ | ⟨_, e⟩
  · rcases hasPlace_v y (show a + 1 < 2 ^ 31 by omega) with ⟨p, hp, rfl, e'⟩ | ⟨h, e'⟩
    · by_cases hpl : pl row (nI l) 0 a = -1
      · have hroom := row_room hn hr hl hpl
        refine ⟨nI (a + 1), a + 1, ins row p a (nI l), bind_v e (if_n (by decide) (if_n (nI_pos (by omega)) (if_p (nI_le (by omega) (by omega)) (bind_v (holds_v ha) ?_)))), bind_v e (if_n (by decide) (bind_v e' (if_n (by decide) (bind_v ((e_placeOf _ _ _).trans (placeOf_v ha)) (if_p hpl (bind_v (insert6_v (by omega) (by omega)) rfl)))))), row_ins hr (by omega) (by omega) hl hpl⟩
        rw [if_pos hpl]
        exact if_p rfl (bind_v (insert_v (by omega) (by omega)) rfl)
      · refine ⟨-103, a, row, bind_v e (if_n (by decide) (if_n (nI_pos (by omega)) (if_p (nI_le (by omega) (by omega)) (bind_v (holds_v ha) ?_)))), bind_v e (if_n (by decide) (bind_v e' (if_n (by decide) (bind_v ((e_placeOf _ _ _).trans (placeOf_v ha)) (if_n hpl rfl))))), hr⟩
        rw [if_neg hpl]
        exact if_n (by decide) rfl
    · refine ⟨-102, a, row, bind_v e (if_n (by decide) (ite_v (fun _ => rfl) (fun g => if_n (fun q => ?_) rfl))), bind_v e (if_n (by decide) (bind_v e' (if_p rfl rfl))), hr⟩
      have g2 := hp_ge (show a + 1 < 2 ^ 31 by omega) h g
      rw [i32le] at g2 q
      rw [nI_toInt (by omega)] at g2 q
      omega
  · exact ⟨-101, a, row, bind_v e (if_p rfl rfl), bind_v e (if_p rfl rfl), hr⟩
theorem take_c (x : Int32) (hr : RowOK n a row) : ∃ v a' row', fX5_take x (nI a) row = some (v, nI a', row') ∧ fX6_take x (nI a) row = some (v, nI a', row') ∧ RowOK n a' row' := by
  have ha := hr.1
  unfold fX5_take fX6_take
  rw [in6_eq x (by omega)]
  rcases hasPlace_v x (show a < 2 ^ 31 by omega) with ⟨p, hp, rfl, e⟩ | ⟨_, e⟩
  · obtain ⟨b, rfl⟩ : ∃ b, a = b + 1 := ⟨a - 1, by omega⟩
    exact ⟨row p, b, rem row p b, bind_v e (if_n (by decide) (bind_v (remove_v (by omega) hp) rfl)), bind_v e (if_n (by decide) (bind_v (remove6_v (by omega) hp) rfl)), row_rem hr⟩
  · exact ⟨-102, a, row, bind_v e (if_p rfl rfl), bind_v e (if_p rfl rfl), hr⟩
theorem move_c (x y : Int32) (hr : RowOK n a row) : ∃ v a' row', fX5_move x y (nI a) row = some (v, nI a', row') ∧ fX6_move x y (nI a) row = some (v, nI a', row') ∧ RowOK n a' row' := by
  have ha := hr.1
  unfold fX5_move fX6_move
  rw [in6_eq x (by omega), in6_eq y (by omega)]
  rcases hasPlace_v x (show a < 2 ^ 31 by omega) with ⟨p, hp, rfl, e⟩ | ⟨_, e⟩
  · rcases hasPlace_v y (show a < 2 ^ 31 by omega) with ⟨t, ht, rfl, e'⟩ | ⟨_, e'⟩
    · obtain ⟨b, rfl⟩ : ∃ b, a = b + 1 := ⟨a - 1, by omega⟩
      obtain ⟨l, hl, el⟩ := hr.2.1 p hp
      have hno := rem_no hr hp
      rw [el] at hno
      have hri := row_ins (p := t) (row_rem (p := p) hr) (by omega) (by omega) hl hno
      rw [← el] at hri
      exact ⟨row p, b + 1, ins (rem row p b) t b (row p), bind_v e (if_n (by decide) (bind_v e' (if_n (by decide) (bind_v (remove_v (by omega) hp) (bind_v (insert_v (by omega) (by omega)) rfl))))), bind_v e (if_n (by decide) (bind_v e' (if_n (by decide) (bind_v (remove6_v (by omega) hp) (bind_v (insert6_v (by omega) (by omega)) rfl))))), hri⟩
    · exact ⟨-102, a, row, bind_v e (if_n (by decide) (bind_v e' (if_p rfl rfl))), bind_v e (if_n (by decide) (bind_v e' (if_p rfl rfl))), hr⟩
  · exact ⟨-102, a, row, bind_v e (if_p rfl rfl), bind_v e (if_p rfl rfl), hr⟩
theorem row_clear : RowOK n 0 row := ⟨by omega, fun i hi => absurd hi (Nat.not_lt_zero i), fun i j _ hj => absurd hj (Nat.not_lt_zero j)⟩
theorem at_c (x : Int32) (ha : a ≤ 16) : ∃ v, fX5_at x (nI a) row = some v ∧ fX6_at x (nI a) row = some v := by
  unfold fX5_at fX0_lineAt fX6_at
  rw [in6_eq x (by omega)]
  rcases hasPlace_v x (show a < 2 ^ 31 by omega) with ⟨p, hp, rfl, e⟩ | ⟨_, e⟩
  · exact ⟨_, bind_v (bind_v e (if_n (by decide) (ck_m (by omega) (by omega) rfl))) rfl, bind_v e (if_n (by decide) (ck_m (by omega) (by omega) rfl))⟩
  · exact ⟨-1, bind_v (bind_v e (if_p rfl rfl)) rfl, bind_v e (if_p rfl rfl)⟩
end ORDERS
def RunOK (m : Nat) (hr : Int32) (cv cp fv fp : Nat → Int32) : Prop := m ≤ 16 ∧ pEq m cp fp ∧ ((hr = 0 ∧ ∀ v, v < 6 → cv v = 0) ∨ (hr = 1 ∧ vEq cv fv))
section RUNS
variable {n k a q m : Nat} {kd vs ws rl mt num row : Nat → Int32} {B : Nat → Nat → Int32} {iof cv cp fv fp : Nat → Int32} {hr : Int32}
theorem run_c (x fl : Int32) (hn : n ≤ 16) (hk : k ≤ 12) (ha : a ≤ 16) (hrow : rowOK n a row kd vs ws) (hnum : rowOK n k num kd vs ws) (hin : InOK q B iof) (hq : q ≤ 8) (hR : RunOK m hr cv cp fv fp) :
    ∃ v m' cv' cp' hr' fv' fp', fX5_run x fl (nI q) B (nI n) kd vs ws rl mt (nI k) num (nI a) row (nI m) cv cp = some (v, nI m', cv', cp') ∧ fX6_run x fl (nI k) (nI q) (nI a) hr (nI m) kd vs ws num iof row fv fp = some (v, hr', nI m', fv', fp') ∧ RunOK m' hr' cv' cp' fv' fp' := by
  unfold fX5_run fX6_run
  rw [in6_eq x (by omega)]
  rcases hasPlace_v x (show q < 2 ^ 31 by omega) with ⟨j, hj, rfl, e⟩ | ⟨h, e⟩
  · obtain ⟨m', cv', cp', fv', fp', r1, r2, r3, r4, r5⟩ := perf_v (rl := rl) (mt := mt) (fl := fl) (m0 := nI m) (m1 := nI m) (cv := cv) (cp := cp) (fv := fv) (fp := fp) hn hk ha hrow hnum hin hq hj
    exact ⟨nI m', m', cv', cp', 1, fv', fp', if_n (nI_pos (by omega)) (if_p (nI_lt hj (by omega)) (bind_v r1 rfl)), bind_v e (if_n (by decide) (bind_v r2 rfl)), r3, r5, Or.inr ⟨rfl, r4⟩⟩
  · refine ⟨-101, m, cv, cp, hr, fv, fp, ite_v (fun _ => rfl) (fun g => if_n (fun g2 => ?_) rfl), bind_v e (if_p rfl rfl), hR⟩
    have g3 := hp_ge (show q < 2 ^ 31 by omega) h g
    rw [i32le] at g3
    rw [i32lt] at g2
    omega
theorem printed_c (x : Int32) (hR : RunOK m hr cv cp fv fp) : ∃ v, fX5_printed x (nI m) cp = some v ∧ fX6_printed x (nI m) fp = some v := by
  obtain ⟨hm, hp, _⟩ := hR
  unfold fX5_printed fX2_printAt fX6_printed
  rw [in6_eq x (by omega)]
  rcases hasPlace_v x (show m < 2 ^ 31 by omega) with ⟨j, hj, rfl, e⟩ | ⟨h, e⟩
  · refine ⟨fp j, bind_v (a := fp j) (if_n (nI_pos (by omega)) (if_n (nI_ge hj (by omega)) (ck_m (by omega) (by omega) ?_))) rfl, bind_v e (if_n (by decide) (ck_m (by omega) (by omega) ?_))⟩
    · rw [nI_clamp (by omega), hp j hj]
    · rw [nI_clamp (by omega)]
  · exact ⟨0, bind_v (a := 0) (ite_v (fun _ => rfl) (fun g => if_p (hp_ge (by omega) h g) rfl)) rfl, bind_v e (if_p rfl rfl)⟩
theorem value_c (x : Int32) (hR : RunOK m hr cv cp fv fp) : ∃ v, fX5_value x cv = some v ∧ fX6_value x hr fv = some v := by
  obtain ⟨hm, _, hv⟩ := hR
  unfold fX5_value fX2_valueOf fX6_value
  rcases isVar_01 x with e | e
  · obtain ⟨j, hj, rfl⟩ := var_ok e
    have e6 := (isVar_eq (nI j)).symm.trans e
    refine ⟨cv j, bind_v (a := cv j) (bind_v e (if_n (by decide) (ck_m (by omega) (by omega) ?_))) rfl, ?_⟩
    · rw [nI_clamp (by omega)]
    · rcases hv with ⟨rfl, h⟩ | ⟨rfl, h⟩
      · exact if_p rfl (by rw [h j hj])
      · refine if_n (by decide) (bind_v e6 (if_n (by decide) (ck_m (by omega) (by omega) ?_)))
        rw [nI_clamp (by omega), h j hj]
  · have e6 := (isVar_eq x).symm.trans e
    refine ⟨0, bind_v (a := 0) (bind_v e (if_p rfl rfl)) rfl, ite_v (fun _ => rfl) (fun _ => bind_v e6 (if_p rfl rfl))⟩
theorem alike_c (hn : n ≤ 16) (hk : k ≤ 12) (ha : a ≤ 16) (hrow : rowOK n a row kd vs ws) (hnum : rowOK n k num kd vs ws) (hin : InOK q B iof) (hq : q ≤ 8) (hR : RunOK m hr cv cp fv fp) (m2 m3 : Int32) (cv2 cp2 cv3 cp3 wv wp due : Nat → Int32) :
    ∃ v m2' cv2' cp2' m3' cv3' cp3' fv' fp' wv' wp' due', fX5_alike (nI q) B (nI n) kd vs ws rl mt (nI k) num (nI a) row m2 cv2 cp2 m3 cv3 cp3 = some (v, m2', cv2', cp2', m3', cv3', cp3') ∧ fX6_alike (nI k) (nI q) (nI a) (nI m) kd vs ws num iof row fv fp wv wp due = some (v, nI m, fv', fp', wv', wp', due') ∧ RunOK m hr cv cp fv' fp' := by
  obtain ⟨hm, hp, hv⟩ := hR
  unfold fX5_alike fX6_alike
  obtain ⟨wv', wp', w1, w2, e⟩ := al7 (k := k) (a := a) (q := q) (kd := kd) (vs := vs) (ws := ws) (num := num) (iof := iof) (row := row) (pm := nI m) (fv := fv) (fp := fp) (wp := wp) (due := due) FU 6 0 wv (by omega) (by rw [FU_eq]; omega) (fun u hu => absurd hu (Nat.not_lt_zero u))
  obtain ⟨v, m2', cv2', cp2', m3', cv3', cp3', fv', fp', due', r1, r2, r3, r4⟩ := alike_loop (rl := rl) (mt := mt) hn hk ha hrow hnum hin hq (pm := nI m) (wv := wv') (wp := wp') FU FU q 0 m2 m3 (nI m) cv2 cp2 cv3 cp3 fv fp due (by omega) (by rw [FU_eq]; omega) (by rw [FU_eq]; omega)
  refine ⟨v, m2', cv2', cp2', m3', cv3', cp3', fv', fp', wv', wp', due', r1, e.trans r2, hm, fun j hj => ?_, ?_⟩
  · rw [r4 j (by omega), w2 j (by omega)]; exact hp j hj
  · rcases hv with h | ⟨h1, h2⟩
    · exact Or.inl h
    · refine Or.inr ⟨h1, fun u hu => ?_⟩
      rw [r3 u hu, w1 u hu]; exact h2 u hu
end RUNS
