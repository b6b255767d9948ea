/-! the law's loop ends in 1 for every script -/
theorem row_mono {n n' a : Nat} {row : Nat → Int32} (h : n ≤ n') (hr : RowOK n a row) : RowOK n' a row := ⟨hr.1, fun i hi => let ⟨l, h1, h2⟩ := hr.2.1 i hi; ⟨l, by omega, h2⟩, hr.2.2⟩
theorem in_none {B : Nat → Nat → Int32} {iof : Nat → Int32} : InOK 0 B iof := fun i v hi _ => absurd hi (Nat.not_lt_zero i)
theorem run_none {cv cp fv fp : Nat → Int32} (h : ∀ j, j < 6 → cv j = 0) : RunOK 0 0 cv cp fv fp := ⟨by omega, fun j hj => absurd hj (Nat.not_lt_zero j), Or.inl ⟨rfl, h⟩⟩
theorem num_row {n k : Nat} {kd vs ws rl mr num : Nat → Int32} (hok : ∀ l, l < n → okLine (kd l) (vs l) (ws l)) (h : NumOK n k rl mr num) : rowOK n k num kd vs ws := fun r hr => let ⟨l, g1, g2, _⟩ := h r hr; ⟨l, g1, g2, hok l g1⟩
theorem row_row {n a : Nat} {kd vs ws row : Nat → Int32} (hok : ∀ l, l < n → okLine (kd l) (vs l) (ws l)) (h : RowOK n a row) : rowOK n a row kd vs ws := fun r hr => let ⟨l, g1, g2⟩ := h.2.1 r hr; ⟨l, g1, g2, hok l g1⟩
set_option maxRecDepth 16000 in
set_option maxHeartbeats 4000000 in
theorem law_step {f L j : Nat} {xs : Nat → Int32} (hL : L ≤ 3584) (hj : j + 7 ≤ L) (hlt : ¬ Int32.ofNat L - 7 < nI j) (ih : ∀ {n k a q m : Nat} {hd kp ch hc hl hp wc c2m c3m hr kb km tm fc fw fx : Int32} {fh : Int64} {KR KC kd vs ws rl mt num mr ah mw row cv cp c2v c2p c3v c3p fr be bf iof fv fp wv wp due tp ag : Nat → Int32} {wy : Nat → Int64} {B : Nat → Nat → Int32}, LinesOK n k kd vs ws rl mt wc num mr fr ah mw be bf wy → RowOK n a row → q ≤ 8 → InOK q B iof → RunOK m hr cv cp fv fp → fL_law_h18 f L xs (nI j + 7) (nI q) hd B kp ch hc hl hp KR KC (nI n) kd vs ws rl mt (nI k) wc num mr ah mw (nI a) row (nI m) cv cp c2m c2v c2p c3m c3v c3p (nI n) (nI k) (nI q) (nI a) hd hr (nI m) kb km tm fc fw fx fh kd vs ws rl mt num fr be bf wy iof row fv fp wv wp due tp ag = some 1) {n k a q m : Nat} {hd kp ch hc hl hp wc c2m c3m hr kb km tm fc fw fx : Int32} {fh : Int64} {KR KC kd vs ws rl mt num mr ah mw row cv cp c2v c2p c3v c3p fr be bf iof fv fp wv wp due tp ag : Nat → Int32} {wy : Nat → Int64} {B : Nat → Nat → Int32} (h1 : LinesOK n k kd vs ws rl mt wc num mr fr ah mw be bf wy) (h2 : RowOK n a row) (h3 : q ≤ 8) (h4 : InOK q B iof) (h5 : RunOK m hr cv cp fv fp) : fL_law_h18 (f + 1) L xs (nI j) (nI q) hd B kp ch hc hl hp KR KC (nI n) kd vs ws rl mt (nI k) wc num mr ah mw (nI a) row (nI m) cv cp c2m c2v c2p c3m c3v c3p (nI n) (nI k) (nI q) (nI a) hd hr (nI m) kb km tm fc fw fx fh kd vs ws rl mt num fr be bf wy iof row fv fp wv wp due tp ag = some 1 := by
  have hcc : ∀ c, c ≤ 6 → inB (nI j + nI c) L = true := fun c h => by rw [nI_add]; exact inB_nI (by omega) (by omega)
  have c1 : inB (nI j + 1) L = true := hcc 1 (by omega)
  have c2 : inB (nI j + 2) L = true := hcc 2 (by omega)
  have c3 : inB (nI j + 3) L = true := hcc 3 (by omega)
  have c4 : inB (nI j + 4) L = true := hcc 4 (by omega)
  have c5 : inB (nI j + 5) L = true := hcc 5 (by omega)
  have c6 : inB (nI j + 6) L = true := hcc 6 (by omega)
  have hE := lines_env h1
  have hlow := lines_low h1
  have hn := h1.1
  have hk := h1.2.1
  have hrow := row_row h1.2.2.1 h2
  have hnum := num_row h1.2.2.1 h1.2.2.2.2.2.1
  have hbf := h1.2.2.2.2.2.2.2.2.2.1
  have hwy := h1.2.2.2.2.2.2.2.2.2.2.1
  have hwc := h1.2.2.2.2.2.2.2.2.2.2.2
  show uL_law_h18 (fL_law_h18 f) L xs (nI j) (nI q) hd B kp ch hc hl hp KR KC (nI n) kd vs ws rl mt (nI k) wc num mr ah mw (nI a) row (nI m) cv cp c2m c2v c2p c3m c3v c3p (nI n) (nI k) (nI q) (nI a) hd hr (nI m) kb km tm fc fw fx fh kd vs ws rl mt num fr be bf wy iof row fv fp wv wp due tp ag = some 1
  unfold uL_law_h18
  refine if_n hlt (ck_m (by omega) (by omega) ?_)
  refine ite_v (fun e => ?_) (fun e0 => ?_)
  · obtain ⟨v, n1, k1, kd1, vs1, ws1, rl1, mt1, wc1, num1, mr1, fr1, ah1, be1, bf1, wy1, q1, q2, q3, q4⟩ := line_c (xs (nI j + 1).toNatClampNeg) (xs (nI j + 2).toNatClampNeg) (xs (nI j + 3).toNatClampNeg) h1 h2.1
    refine (ck_v c1 (ck_v c2 (ck_v c3 (bind_v q1 (ck_v c1 (ck_v c2 (ck_v c3 (bind_v q2 (if_p rfl ?_)))))))))
    exact ih q3 (row_mono q4 h2) h3 h4 h5
  refine ite_v (fun e => ?_) (fun e1 => ?_)
  · obtain ⟨v, n1, kd1, vs1, ws1, rl1, mt1, q1, q2, q3, q4⟩ := decoy_c (xs (nI j + 1).toNatClampNeg) (xs (nI j + 2).toNatClampNeg) (xs (nI j + 3).toNatClampNeg) h1 h2.1
    refine (ck_v c1 (ck_v c2 (ck_v c3 (bind_v q1 (ck_v c1 (ck_v c2 (ck_v c3 (bind_v q2 (if_p rfl ?_)))))))))
    exact ih q3 (row_mono q4 h2) h3 h4 h5
  refine ite_v (fun e => ?_) (fun e2 => ?_)
  · obtain ⟨v, n1, kd1, vs1, ws1, rl1, mt1, q1, q2, q3, q4⟩ := wrong_c (xs (nI j + 1).toNatClampNeg) (xs (nI j + 2).toNatClampNeg) (xs (nI j + 3).toNatClampNeg) (xs (nI j + 4).toNatClampNeg) h1 h2.1
    refine (ck_v c1 (ck_v c2 (ck_v c3 (ck_v c4 (bind_v q1 (ck_v c1 (ck_v c2 (ck_v c3 (ck_v c4 (bind_v q2 (if_p rfl ?_)))))))))))
    exact ih q3 (row_mono q4 h2) h3 h4 h5
  refine ite_v (fun e => ?_) (fun e3 => ?_)
  · obtain ⟨v, q0, B1, iof1, q1, q2, q3, q4⟩ := input_c (xs (nI j + 1).toNatClampNeg) (xs (nI j + 2).toNatClampNeg) (xs (nI j + 3).toNatClampNeg) (xs (nI j + 4).toNatClampNeg) (xs (nI j + 5).toNatClampNeg) (xs (nI j + 6).toNatClampNeg) h3 h2.1 h4
    refine (ck_v c1 (ck_v c2 (ck_v c3 (ck_v c4 (ck_v c5 (ck_v c6 (bind_v q1 (ck_v c1 (ck_v c2 (ck_v c3 (ck_v c4 (ck_v c5 (ck_v c6 (bind_v q2 (if_p rfl ?_)))))))))))))))
    exact ih h1 h2 q4 q3 h5
  refine ite_v (fun e => ?_) (fun e4 => ?_)
  · obtain ⟨mr1, cv1, b1, bf1, wy1, q1, q2, q3, q4⟩ := wipe_c (kd := kd) (vs := vs) (ws := ws) (rl := rl) (mt := mt) (mr := mr) (fr := fr) (num := num) (ah := ah) (mw := mw) (be := be) (bf := bf) (wy := wy) (nI n) (nI q) (nI k) wc (nI a) (nI m) cv (nI q) (nI a) hr (nI m)
    refine (bind_v q1 (bind_v q2 (if_p rfl ?_)))
    exact ih (n := 0) (k := 0) (a := 0) (q := 0) (m := 0) q3 row_clear (by omega) in_none (run_none q4)
  refine ite_v (fun e => ?_) (fun e5 => ?_)
  · obtain ⟨v, q1, q2⟩ := told_c (kd := kd) (vs := vs) (ws := ws) (rl := rl) (mt := mt) (xs (nI j + 1).toNatClampNeg) (xs (nI j + 2).toNatClampNeg) hn
    refine (ck_v c1 (ck_v c2 (bind_v q1 (ck_v c1 (ck_v c2 (bind_v q2 (if_p rfl ?_)))))))
    exact ih h1 h2 h3 h4 h5
  refine ite_v (fun e => ?_) (fun e6 => ?_)
  · obtain ⟨v, q1, q2⟩ := needs_c (xs (nI j + 1).toNatClampNeg) (xs (nI j + 2).toNatClampNeg) hE
    refine (ck_v c1 (ck_v c2 (bind_v q1 (ck_v c1 (ck_v c2 (bind_v q2 (if_p rfl ?_)))))))
    exact ih h1 h2 h3 h4 h5
  refine ite_v (fun e => ?_) (fun e7 => ?_)
  · obtain ⟨v, wc1, mw1, q1, q2, q3⟩ := orders_c hk hwc hwy
    refine (bind_v q1 (bind_v q2 (if_p ((lg_cmp_eq _ _).mpr rfl) ?_)))
    exact ih (lines_wc h1 q3) h2 h3 h4 h5
  refine ite_v (fun e => ?_) (fun e8 => ?_)
  · obtain ⟨v, wc1, mw1, q1, q2, q3⟩ := right_c (num := num) (((xs (nI j + 1).toNatClampNeg).toInt64 <<< ((32 : Int32).toInt64 &&& 63)) ||| ((xs (nI j + 2).toNatClampNeg).toInt64 &&& (4294967295 : Int64))) (xs (nI j + 3).toNatClampNeg) hk hwc hbf hwy
    refine (ck_v c1 (ck_v c2 (ck_v c3 (bind_v q1 (ck_v c1 (ck_v c2 (ck_v c3 (bind_v q2 (if_p rfl ?_)))))))))
    exact ih (lines_wc h1 q3) h2 h3 h4 h5
  refine ite_v (fun e => ?_) (fun e9 => ?_)
  · obtain ⟨v, wc1, mw1, q1, q2, q3⟩ := which_c hE h2 hwc hbf hwy
    refine (bind_v q1 (bind_v q2 (if_p ((lg_cmp_eq _ _).mpr rfl) ?_)))
    exact ih (lines_wc h1 q3) h2 h3 h4 h5
  refine ite_v (fun e => ?_) (fun e10 => ?_)
  · obtain ⟨v, a1, row1, q1, q2, q3⟩ := lay_c (xs (nI j + 1).toNatClampNeg) (xs (nI j + 2).toNatClampNeg) hn h2
    refine (ck_v c1 (ck_v c2 (bind_v q1 (ck_v c1 (ck_v c2 (bind_v q2 (if_p rfl ?_)))))))
    exact ih h1 q3 h3 h4 h5
  refine ite_v (fun e => ?_) (fun e11 => ?_)
  · obtain ⟨v, a1, row1, q1, q2, q3⟩ := take_c (xs (nI j + 1).toNatClampNeg) h2
    refine (ck_v c1 (bind_v q1 (ck_v c1 (bind_v q2 (if_p rfl ?_)))))
    exact ih h1 q3 h3 h4 h5
  refine ite_v (fun e => ?_) (fun e12 => ?_)
  · obtain ⟨v, a1, row1, q1, q2, q3⟩ := move_c (xs (nI j + 1).toNatClampNeg) (xs (nI j + 2).toNatClampNeg) h2
    refine (ck_v c1 (ck_v c2 (bind_v q1 (ck_v c1 (ck_v c2 (bind_v q2 (if_p rfl ?_)))))))
    exact ih h1 q3 h3 h4 h5
  refine ite_v (fun e => ?_) (fun e13 => ?_)
  · have q1 : fX5_clear (nI a) = some (nI a, 0) := rfl
    have q2 : fX6_clear (nI a) = some (nI a, 0) := rfl
    refine (bind_v q1 (bind_v q2 (if_p rfl ?_)))
    exact ih (a := 0) h1 row_clear h3 h4 h5
  refine ite_v (fun e => ?_) (fun e14 => ?_)
  · obtain ⟨v, q1, q2⟩ := at_c (row := row) (xs (nI j + 1).toNatClampNeg) h2.1
    refine (ck_v c1 (bind_v q1 (ck_v c1 (bind_v q2 (if_p rfl ?_)))))
    exact ih h1 h2 h3 h4 h5
  refine ite_v (fun e => ?_) (fun e15 => ?_)
  · have q1 : fX5_size (nI a) = some (nI a) := rfl
    have q2 : fX6_size (nI a) = some (nI a) := rfl
    refine (bind_v q1 (bind_v q2 (if_p rfl ?_)))
    exact ih h1 h2 h3 h4 h5
  refine ite_v (fun e => ?_) (fun e16 => ?_)
  · refine ck_v c1 (ck_v c2 (ite_v (fun g => ?_) (fun g => ?_)))
    · obtain ⟨v, m1, cv1, cp1, hr1, fv1, fp1, q1, q2, q3⟩ := run_c (rl := rl) (mt := mt) (xs (nI j + 1).toNatClampNeg) 0 hn hk h2.1 hrow hnum h4 h3 h5
      refine bind_v q1 (ck_v c1 (ck_v c2 (if_p g (bind_v q2 (if_p rfl ?_)))))
      exact ih h1 h2 h3 h4 q3
    · obtain ⟨v, m1, cv1, cp1, hr1, fv1, fp1, q1, q2, q3⟩ := run_c (rl := rl) (mt := mt) (xs (nI j + 1).toNatClampNeg) 1 hn hk h2.1 hrow hnum h4 h3 h5
      refine bind_v q1 (ck_v c1 (ck_v c2 (if_n g (bind_v q2 (if_p rfl ?_)))))
      exact ih h1 h2 h3 h4 q3
  refine ite_v (fun e => ?_) (fun e17 => ?_)
  · obtain ⟨v, q1, q2⟩ := printed_c (xs (nI j + 1).toNatClampNeg) h5
    refine (ck_v c1 (bind_v q1 (ck_v c1 (bind_v q2 (if_p rfl ?_)))))
    exact ih h1 h2 h3 h4 h5
  refine ite_v (fun e => ?_) (fun e18 => ?_)
  · obtain ⟨v, q1, q2⟩ := value_c (xs (nI j + 1).toNatClampNeg) h5
    refine (ck_v c1 (bind_v q1 (ck_v c1 (bind_v q2 (if_p rfl ?_)))))
    exact ih h1 h2 h3 h4 h5
  refine ite_v (fun e => ?_) (fun e19 => ?_)
  · obtain ⟨v, m2, cv2, cp2, m3, cv3, cp3, fv1, fp1, wv1, wp1, due1, q1, q2, q3⟩ := alike_c (rl := rl) (mt := mt) hn hk h2.1 hrow hnum h4 h3 h5 c2m c3m c2v c2p c3v c3p wv wp due
    refine (bind_v q1 (bind_v q2 (if_p rfl ?_)))
    exact ih h1 h2 h3 h4 q3
  refine ite_v (fun e => ?_) (fun e20 => ?_)
  · obtain ⟨v, kp1, ch1, hc1, hl1, hp1, R1, CL1, kb1, km1, tm1, tp1, ag1, q1, q2⟩ := mark_c hE h2 kp ch hc hl hp KR KC kb km tm tp ag
    refine (bind_v q1 (bind_v q2 (if_p rfl ?_)))
    exact ih h1 h2 h3 h4 h5
  refine ite_v (fun e => ?_) (fun e21 => ?_)
  · obtain ⟨v, kp1, ch1, hc1, hl1, hp1, R1, CL1, kb1, km1, tm1, tp1, ag1, q1, q2⟩ := kept_c (xs (nI j + 1).toNatClampNeg) hE h2 kp ch hc hl hp KR KC kb km tm tp ag
    refine (ck_v c1 (bind_v q1 (ck_v c1 (bind_v q2 (if_p rfl ?_)))))
    exact ih h1 h2 h3 h4 h5
  refine ite_v (fun e => ?_) (fun e22 => ?_)
  · obtain ⟨v, kp1, ch1, hc1, hl1, hp1, R1, CL1, kb1, km1, tm1, fc1, fw1, fx1, tp1, ag1, q1, q2⟩ := hint_c (xs (nI j + 1).toNatClampNeg) hE h2 kp ch hc hl hp KR KC kb km tm fc fw fx tp ag
    refine (ck_v c1 (bind_v q1 (ck_v c1 (bind_v q2 (if_p rfl ?_)))))
    exact ih h1 h2 h3 h4 h5
  refine ite_v (fun e => ?_) (fun e23 => ?_)
  · obtain ⟨v, hd1, a1, row1, q3, ⟨kp1, ch1, hc1, hl1, hp1, R1, CL1, q1⟩, kb1, km1, tm1, fc1, fw1, fx1, tp1, ag1, q2⟩ := follow_v hE h2 hd kp ch hc hl hp KR KC kb km tm fc fw fx tp ag
    refine (bind_v q1 (bind_v q2 (if_p rfl ?_)))
    exact ih h1 q3 h3 h4 h5
  refine ite_v (fun e => ?_) (fun e24 => ?_)
  · obtain ⟨v, q1, q2⟩ := count_c (xs (nI j + 1).toNatClampNeg) (nI q) hd hE hlow.1 hlow.2
    refine (ck_v c1 (bind_v q1 (ck_v c1 (bind_v q2 (if_p rfl ?_)))))
    exact ih h1 h2 h3 h4 h5
  refine ite_v (fun e => ?_) (fun e25 => ?_)
  · obtain ⟨v, q1, q2⟩ := digest_c (kd := kd) (vs := vs) (ws := ws) (rl := rl) (mt := mt) (row := row) (hd := hd) hn h2.1 h3 h4 fh
    refine (bind_v q1 (bind_v q2 (if_p ((lg_cmp_eq _ _).mpr rfl) ?_)))
    exact ih h1 h2 h3 h4 h5
  exact ih h1 h2 h3 h4 h5
theorem law_sub (M : Nat) : Int32.ofNat (M + 7) - 7 = nI M := by
  show nI (M + 7) - 7 = nI M
  rw [← nI_add M 7]
  show nI M + 7 - 7 = nI M
  rw [Int32.add_sub_cancel]
theorem law_low : ∀ c, c < 7 → (Int32.ofNat c - 7).toInt < 0 := by decide
theorem law_end {L j : Nat} (h : L < j + 7) (hj : j < 2 ^ 20) : Int32.ofNat L - 7 < nI j := by
  rw [i32lt, nI_toInt (by omega)]
  by_cases h7 : L < 7
  · have := law_low L h7
    omega
  · obtain ⟨M, rfl⟩ : ∃ M, L = M + 7 := ⟨L - 7, by omega⟩
    rw [law_sub, nI_toInt (by omega)]
    omega
theorem law_all {L : Nat} {xs : Nat → Int32} (hL : L ≤ 3584) : ∀ (f j : Nat) {n k a q m : Nat} {hd kp ch hc hl hp wc c2m c3m hr kb km tm fc fw fx : Int32} {fh : Int64} {KR KC kd vs ws rl mt num mr ah mw row cv cp c2v c2p c3v c3p fr be bf iof fv fp wv wp due tp ag : Nat → Int32} {wy : Nat → Int64} {B : Nat → Nat → Int32}, 0 < f → L < j + 7 * f → j < 2 ^ 20 → LinesOK n k kd vs ws rl mt wc num mr fr ah mw be bf wy → RowOK n a row → q ≤ 8 → InOK q B iof → RunOK m hr cv cp fv fp → fL_law_h18 f L xs (nI j) (nI q) hd B kp ch hc hl hp KR KC (nI n) kd vs ws rl mt (nI k) wc num mr ah mw (nI a) row (nI m) cv cp c2m c2v c2p c3m c3v c3p (nI n) (nI k) (nI q) (nI a) hd hr (nI m) kb km tm fc fw fx fh kd vs ws rl mt num fr be bf wy iof row fv fp wv wp due tp ag = some 1 := by
  intro f
  induction f with
  | zero => intro j n k a q m hd kp ch hc hl hp wc c2m c3m hr kb km tm fc fw fx fh KR KC kd vs ws rl mt num mr ah mw row cv cp c2v c2p c3v c3p fr be bf iof fv fp wv wp due tp ag wy B h0; omega
  | succ f ih =>
    intro j n k a q m hd kp ch hc hl hp wc c2m c3m hr kb km tm fc fw fx fh KR KC kd vs ws rl mt num mr ah mw row cv cp c2v c2p c3v c3p fr be bf iof fv fp wv wp due tp ag wy B h0 hf hj h1 h2 h3 h4 h5
    by_cases hj7 : j + 7 ≤ L
    · refine law_step hL hj7 (fun g => ?_) (fun g1 g2 g3 g4 g5 => ?_) h1 h2 h3 h4 h5
      · obtain ⟨M, rfl⟩ : ∃ M, L = M + 7 := ⟨L - 7, by omega⟩
        rw [law_sub] at g
        exact nI_nlt (by omega) (by omega) g
      · rw [show (7 : Int32) = nI 7 from rfl, nI_add]
        exact ih (j + 7) (by omega) (by omega) (by omega) g1 g2 g3 g4 g5
    · show uL_law_h18 (fL_law_h18 f) L xs (nI j) (nI q) hd B kp ch hc hl hp KR KC (nI n) kd vs ws rl mt (nI k) wc num mr ah mw (nI a) row (nI m) cv cp c2m c2v c2p c3m c3v c3p (nI n) (nI k) (nI q) (nI a) hd hr (nI m) kb km tm fc fw fx fh kd vs ws rl mt num fr be bf wy iof row fv fp wv wp due tp ag = some 1
      unfold uL_law_h18
      exact if_p (law_end (by omega) (by omega)) rfl
