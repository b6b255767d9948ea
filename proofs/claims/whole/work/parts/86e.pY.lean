/-! line, decoy, wrong -/
section DEAL
variable {n k a : Nat} {kd vs ws rl mt mr fr num ah mw be bf : Nat → Int32} {wy : Nat → Int64} {wc : Int32}
theorem has_m1 : fX1_has (-1) (nI n) = some 0 := by
  unfold fX1_has
  exact if_p (by decide) rfl
theorem add_v {x y z c m5 : Int32} (hn : n < 16) (h5 : fX1_has m5 (nI n) = some 0) : fX1_add x y z c m5 (nI n) kd vs ws rl mt = some (nI n, nI (n + 1), upd kd n x, upd vs n y, upd ws n z, upd rl n c, upd mt n m5) := by
  unfold fX1_add
  refine if_p (nI_lt (b := 16) hn (by omega)) (ck_m hn (by omega) (ck_m hn (by omega) (ck_m hn (by omega) (ck_m hn (by omega) (ck_m hn (by omega) (bind_v h5 (if_p rfl ?_)))))))
  rw [nI_clamp (by omega), nI_1]
theorem add_w {x y z c : Int32} {i : Nat} (hn : n < 16) (hi : i < n) : fX1_add x y z c (nI i) (nI n) kd vs ws rl mt = some (nI n, nI (n + 1), upd kd n x, upd vs n y, upd ws n z, upd rl n c, upd (upd mt n (nI i)) i (nI n)) := by
  unfold fX1_add
  refine if_p (nI_lt (b := 16) hn (by omega)) (ck_m hn (by omega) (ck_m hn (by omega) (ck_m hn (by omega) (ck_m hn (by omega) (ck_m hn (by omega) (bind_v (has_lt hi (by omega)) (if_n (by decide) (ck_m (by omega) (by omega) ?_))))))))
  rw [nI_clamp (show n < 2 ^ 31 by omega), nI_clamp (show i < 2 ^ 31 by omega), nI_1]
theorem come_v {x y z c : Int32} (hn : n < 16) : fX6_come x y z c (nI n) kd vs ws rl mt = some (nI n, nI (n + 1), upd kd n x, upd vs n y, upd ws n z, upd rl n c, upd mt n (-1)) := by
  unfold fX6_come
  refine ck_m hn (by omega) (ck_m hn (by omega) (ck_m hn (by omega) (ck_m hn (by omega) (ck_m hn (by omega) ?_))))
  rw [nI_clamp (by omega), nI_1, nI_pred]
theorem ref_no {x y z t : Int32} (e : fX1_isAsTold x y z = some 0) : fX5_refusalOfLine x y z t (nI a) = some (-102) := by
  unfold fX5_refusalOfLine
  exact bind_v e (if_p rfl rfl)
theorem ref_late {x y z t : Int32} (e : fX1_isAsTold x y z = some 1) (h0 : 0 < a) (ha : a ≤ 16) : fX5_refusalOfLine x y z t (nI a) = some (-103) := by
  unfold fX5_refusalOfLine
  exact bind_v e (if_n (by decide) (if_n (nI_nle h0 (by omega)) rfl))
theorem ref_full {x y z : Int32} (e : fX1_isAsTold x y z = some 1) : fX5_refusalOfLine x y z 1 (nI 0) = some (-104) := by
  unfold fX5_refusalOfLine
  exact bind_v e (if_n (by decide) (if_p (by decide) (if_n (by decide) rfl)))
theorem ref_ok {x y z : Int32} (e : fX1_isAsTold x y z = some 1) : fX5_refusalOfLine x y z 0 (nI 0) = some 0 := by
  unfold fX5_refusalOfLine
  exact bind_v e (if_n (by decide) (if_p (by decide) (if_p rfl rfl)))
theorem mt_add {c : Int32} (h : MtOK n rl mt) (hc : ¬ c = 2) : MtOK (n + 1) (upd rl n c) (upd mt n (-1)) := by
  intro l hl h2
  by_cases e : l = n
  · rw [e, upd_s] at h2
    exact absurd h2 hc
  · rw [upd_n e] at h2
    obtain ⟨p, p1, p2, p3, p4⟩ := h l (by omega) h2
    refine ⟨p, by omega, ?_, ?_, ?_⟩
    · rw [upd_n e]; exact p2
    · rw [upd_n (by omega)]; exact p3
    · rw [upd_n (by omega)]; exact p4
theorem mt_pair {i : Nat} (hn : n < 16) (h : MtOK n rl mt) (hi : i < n) (h0 : rl i = 0) (hm : mt i = -1) : MtOK (n + 1) (upd rl n 2) (upd (upd mt n (nI i)) i (nI n)) := by
  intro l hl h2
  by_cases e : l = n
  · refine ⟨i, by omega, ?_, ?_, ?_⟩
    · rw [e, upd_n (by omega), upd_s]
    · rw [upd_n (by omega)]; exact h0
    · rw [upd_s, e]
  · rw [upd_n e] at h2
    obtain ⟨p, p1, p2, p3, p4⟩ := h l (by omega) h2
    have e1 : l ≠ i := fun q => by rw [q, h0] at h2; exact absurd h2 (by decide)
    have e2 : p ≠ i := fun q => by rw [q, hm] at p4; exact ne_m1 (by omega) p4.symm
    refine ⟨p, by omega, ?_, ?_, ?_⟩
    · rw [upd_n e1, upd_n e]; exact p2
    · rw [upd_n (by omega)]; exact p3
    · rw [upd_n e2, upd_n (by omega)]; exact p4
theorem line_c (x y z : Int32) (h : LinesOK n k kd vs ws rl mt wc num mr fr ah mw be bf wy) (ha : a ≤ 16) :
    ∃ v n' k' kd' vs' ws' rl' mt' wc' num' mr' fr' ah' be' bf' wy', fX5_line x y z (nI n) kd vs ws rl mt (nI k) wc num mr ah (nI a) = some (v, nI n', kd', vs', ws', rl', mt', nI k', wc', num', mr', ah') ∧
      fX6_line x y z (nI n) (nI k) (nI a) kd vs ws rl mt num fr be bf wy = some (v, nI n', nI k', kd', vs', ws', rl', mt', num', fr', be', bf', wy') ∧ LinesOK n' k' kd' vs' ws' rl' mt' wc' num' mr' fr' ah' mw be' bf' wy' ∧ n ≤ n' := by
  have h' := h
  obtain ⟨hn, hk, h1, h2, h3, h4, h5, h6, h7, h8, h9, h10⟩ := h
  have hL : fX5_line x y z (nI n) kd vs ws rl mt (nI k) wc num mr ah (nI a) = fX5_line_b33 x y z x y z (if n = 16 ∨ k = 12 then 1 else 0) (nI n) kd vs ws rl mt (nI k) wc num mr ah (nI a) := by
    unfold fX5_line
    by_cases e1 : n = 16
    · rw [if_pos (Or.inl e1 : n = 16 ∨ k = 12)]
      exact if_p (nI_le (a := 16) (by omega) (by omega)) rfl
    · by_cases e2 : k = 12
      · rw [if_pos (Or.inr e2 : n = 16 ∨ k = 12)]
        exact if_n (nI_ge (b := 16) (by omega) (by omega)) (if_n (nI_nlt (b := 12) (by omega) (by omega)) rfl)
      · rw [if_neg (by omega : ¬ (n = 16 ∨ k = 12))]
        exact if_n (nI_ge (b := 16) (by omega) (by omega)) (if_p (nI_lt (b := 12) (by omega) (by omega)) rfl)
  rw [hL]
  unfold fX5_line_b33 fX6_line
  rw [fits_eq]
  rcases fits_01 x y z with e | e
  · by_cases ha0 : a = 0
    · subst ha0
      by_cases hf : n = 16 ∨ k = 12
      · rw [if_pos hf]
        refine ⟨-104, n, k, kd, vs, ws, rl, mt, wc, num, mr, fr, ah, be, bf, wy, bind_v (ref_full e) (if_n (by decide) rfl), bind_v e (if_n (by decide) (if_p (by decide) (ite_v (fun _ => rfl) (fun g => if_p ?_ rfl)))), h', Nat.le_refl n⟩
        rcases hf with q | q
        · exact absurd (by rw [q]; rfl) g
        · rw [q]; rfl
      · rw [if_neg hf]
        have hn16 : n < 16 := by omega
        have hk12 : k < 12 := by omega
        have hln := num_ln hn h4
        have hnum' : ∀ r, r < k → upd num k (nI n) r = num r := fun r hr => upd_n (by omega)
        have hln' : ∀ r, r < k + 1 → upd num k (nI n) r = nI (upd num k (nI n) r).toNatClampNeg ∧ (upd num k (nI n) r).toNatClampNeg < n + 1 := by
          intro r hr
          by_cases q : r = k
          · rw [q, upd_s, nI_clamp (by omega)]
            exact ⟨rfl, by omega⟩
          · rw [upd_n q]
            exact ⟨(hln r (by omega)).1, by have := (hln r (by omega)).2; omega⟩
        have hah : AhOK (TT (upd kd n x) (upd vs n y) (upd ws n z) (upd num k (nI n))) (k + 1) (upd ah k (jm (fun r => tB (upd kd n x) (upd vs n y) (upd ws n z) (num r).toNatClampNeg n) ah k)) := by
          intro q hq
          by_cases eq : q = k
          · rw [eq, upd_s]
            refine jm_congr k (fun r hr => ⟨?_, (upd_n (by omega)).symm⟩)
            show tB (upd kd n x) (upd vs n y) (upd ws n z) (num r).toNatClampNeg n = tB (upd kd n x) (upd vs n y) (upd ws n z) (upd num k (nI n) r).toNatClampNeg (upd num k (nI n) k).toNatClampNeg
            rw [upd_s, hnum' r hr, nI_clamp (by omega)]
          · rw [upd_n eq]
            exact (h6 q (by omega)).trans (jm_congr q (fun r hr => ⟨TT_upd hln hnum' (by omega) (by omega), (upd_n (by omega)).symm⟩))
        obtain ⟨b, be', wy', b1, b2, b3, b4⟩ := relate_v (k := k + 1) (kd := upd kd n x) (vs := upd vs n y) (ws := upd ws n z) (num := upd num k (nI n)) (b0 := be) (be0 := bf) (wy0 := wy) (ln := fun r => (upd num k (nI n) r).toNatClampNeg) (by omega) (fun r hr => ⟨(hln' r hr).1, by have := (hln' r hr).2; show (upd num k (nI n) r).toNatClampNeg < 16; omega⟩) hah
        refine ⟨nI n, n + 1, k + 1, upd kd n x, upd vs n y, upd ws n z, upd rl n 0, upd mt n (-1), 0, upd num k (nI n), upd mr n (nI k), upd fr n (nI k), _, b, be', wy', bind_v (ref_ok e) (if_p rfl (bind_v (add_v hn16 has_m1) (bind_v (join_v (n := n + 1) (l := n) (ln := fun r => (num r).toNatClampNeg) (by omega) hk12 (by omega) (fun r hr => ⟨(hln r hr).1, by have := (hln r hr).2; show (num r).toNatClampNeg < n + 1; omega⟩)) rfl))), bind_v e (if_n (by decide) (if_p (by decide) (if_n (fun q => ?_) (if_n (fun q => ?_) (bind_v (come_v hn16) (ck_m hk12 (by omega) (ck_m hn16 (by omega) ?_))))))), ?_, by omega⟩
        · have := nI_i (y := 16) (by omega) (by omega) q
          omega
        · have := nI_i (y := 12) (by omega) (by omega) q
          omega
        · dsimp only
          rw [nI_clamp (show k < 2 ^ 31 by omega), nI_clamp (show n < 2 ^ 31 by omega), nI_1]
          exact bind_v b4 rfl
        · refine ⟨by omega, by omega, ok_upd h1 (fits_ok e), fun l hl => ?_, fun l l1 l2 => ?_, fun r hr => ?_, mt_add h5 (by decide), hah, b1, b2, b3, Or.inl rfl⟩
          · by_cases q : l = n
            · refine Or.inl ⟨by rw [q, upd_s], k, by omega, by rw [q, upd_s], by rw [q, upd_s], by rw [upd_s, q]⟩
            · rw [upd_n q, upd_n q, upd_n q]
              rcases h2 l (by omega) with ⟨g1, r, g2, g3, g4, g5⟩ | g
              · exact Or.inl ⟨g1, r, by omega, g3, g4, by rw [hnum' r g2]; exact g5⟩
              · exact Or.inr g
          · rw [upd_n (by omega)]
            exact h3 l (by omega) l2
          · by_cases q : r = k
            · exact ⟨n, by omega, by rw [q, upd_s], by rw [upd_s], by rw [q, upd_s]⟩
            · obtain ⟨l, g1, g2, g3, g4⟩ := h4 r (by omega)
              exact ⟨l, by omega, by rw [upd_n q]; exact g2, by rw [upd_n (by omega)]; exact g3, by rw [upd_n (by omega)]; exact g4⟩
    · exact ⟨-103, n, k, kd, vs, ws, rl, mt, wc, num, mr, fr, ah, be, bf, wy, bind_v (ref_late e (by omega) ha) (if_n (by decide) rfl), bind_v e (if_n (by decide) (if_n (nI_nle (by omega) (by omega)) rfl)), h', Nat.le_refl n⟩
  · exact ⟨-102, n, k, kd, vs, ws, rl, mt, wc, num, mr, fr, ah, be, bf, wy, bind_v (ref_no e) (if_n (by decide) rfl), bind_v e (if_p rfl rfl), h', Nat.le_refl n⟩
theorem decoy_c (x y z : Int32) (h : LinesOK n k kd vs ws rl mt wc num mr fr ah mw be bf wy) (ha : a ≤ 16) :
    ∃ v n' kd' vs' ws' rl' mt', fX5_decoy x y z (nI n) kd vs ws rl mt (nI a) = some (v, nI n', kd', vs', ws', rl', mt') ∧
      fX6_decoy x y z (nI n) (nI a) kd vs ws rl mt = some (v, nI n', kd', vs', ws', rl', mt') ∧ LinesOK n' k kd' vs' ws' rl' mt' wc num mr fr ah mw be bf wy ∧ n ≤ n' := by
  have hn := h.1
  have h5 := h.2.2.2.2.2.2.1
  have hL : fX5_decoy x y z (nI n) kd vs ws rl mt (nI a) = fX5_decoy_b21 x y z x y z (if n = 16 then 1 else 0) (nI n) kd vs ws rl mt (nI a) := by
    unfold fX5_decoy
    by_cases e1 : n = 16
    · rw [if_pos e1]
      exact if_n (nI_nlt (b := 16) (by omega) (by omega)) rfl
    · rw [if_neg e1]
      exact if_p (nI_lt (b := 16) (by omega) (by omega)) rfl
  rw [hL]
  unfold fX5_decoy_b21 fX6_decoy
  rw [fits_eq]
  rcases fits_01 x y z with e | e
  · by_cases ha0 : a = 0
    · subst ha0
      by_cases hf : n = 16
      · rw [if_pos hf]
        exact ⟨-104, n, kd, vs, ws, rl, mt, bind_v (ref_full e) (if_n (by decide) rfl), bind_v e (if_n (by decide) (if_p (by decide) (if_p (by rw [hf]; rfl) rfl))), h, Nat.le_refl n⟩
      · rw [if_neg hf]
        have hn16 : n < 16 := by omega
        refine ⟨nI n, n + 1, upd kd n x, upd vs n y, upd ws n z, upd rl n 1, upd mt n (-1), bind_v (ref_ok e) (if_p rfl (bind_v (add_v hn16 has_m1) rfl)), bind_v e (if_n (by decide) (if_p (by decide) (if_n (fun q => ?_) (bind_v (come_v hn16) rfl)))), lines_add h hn16 (fits_ok e) (by decide) (mt_add h5 (by decide)), by omega⟩
        have := nI_i (y := 16) (by omega) (by omega) q
        omega
    · exact ⟨-103, n, kd, vs, ws, rl, mt, bind_v (ref_late e (by omega) ha) (if_n (by decide) rfl), bind_v e (if_n (by decide) (if_n (nI_nle (by omega) (by omega)) rfl)), h, Nat.le_refl n⟩
  · exact ⟨-102, n, kd, vs, ws, rl, mt, bind_v (ref_no e) (if_n (by decide) rfl), bind_v e (if_p rfl rfl), h, Nat.le_refl n⟩
theorem wrong_c (w x y z : Int32) (h : LinesOK n k kd vs ws rl mt wc num mr fr ah mw be bf wy) (ha : a ≤ 16) :
    ∃ v n' kd' vs' ws' rl' mt', fX5_wrong w x y z (nI n) kd vs ws rl mt (nI a) = some (v, nI n', kd', vs', ws', rl', mt') ∧
      fX6_wrong w x y z (nI n) (nI a) kd vs ws rl mt = some (v, nI n', kd', vs', ws', rl', mt') ∧ LinesOK n' k kd' vs' ws' rl' mt' wc num mr fr ah mw be bf wy ∧ n ≤ n' := by
  have hn := h.1
  have h5 := h.2.2.2.2.2.2.1
  unfold fX5_wrong fX6_wrong
  rw [isLine_eq _ (by omega), fits_eq]
  rcases has_v w (show n < 2 ^ 31 by omega) with ⟨i, hi, rfl, ei⟩ | ⟨_, ei⟩
  · have hL : (if nI n < 16 then fX5_wrong_b36 (nI i) x y z x y z 0 (nI n) kd vs ws rl mt (nI a) else fX5_wrong_b36 (nI i) x y z x y z 1 (nI n) kd vs ws rl mt (nI a)) = fX5_wrong_b36 (nI i) x y z x y z (if n = 16 then 1 else 0) (nI n) kd vs ws rl mt (nI a) := by
      by_cases e1 : n = 16
      · rw [if_pos e1]
        exact if_n (nI_nlt (b := 16) (by omega) (by omega)) rfl
      · rw [if_neg e1]
        exact if_p (nI_lt (b := 16) (by omega) (by omega)) rfl
    rw [hL]
    have ci : (nI i).toNatClampNeg = i := nI_clamp (by omega)
    rcases fits_01 x y z with e | e
    · by_cases ha0 : a = 0
      · subst ha0
        unfold fX5_wrong_b36
        by_cases hr0 : rl i = 0
        · by_cases hm : mt i = -1
          · by_cases hf : n = 16
            · rw [if_pos hf]
              refine ⟨-104, n, kd, vs, ws, rl, mt, bind_v ei (if_n (by decide) (bind_v (ref_full e) (if_n (by decide) (if_p rfl ?_)))), bind_v ei (if_n (by decide) (bind_v e (if_n (by decide) (if_n (by decide) (ck_m (by omega) (by omega) (if_p (by rw [ci]; exact hr0) (ck_m (by omega) (by omega) (if_p (by rw [ci]; exact hm) (if_p (by rw [hf]; rfl) rfl))))))))), h, Nat.le_refl n⟩
              unfold fX5_wrong_b53
              refine bind_v (roleOf_v hi hn) (if_p hr0 (bind_v (mateOf_v hi hn) (if_p hm ?_)))
              unfold fX5_wrong_b95
              exact if_n (by decide) rfl
            · rw [if_neg hf]
              have hn16 : n < 16 := by omega
              refine ⟨nI n, n + 1, upd kd n x, upd vs n y, upd ws n z, upd rl n 2, upd (upd mt n (nI i)) i (nI n), bind_v ei (if_n (by decide) (bind_v (ref_ok e) (if_p rfl ?_))), bind_v ei (if_n (by decide) (bind_v e (if_n (by decide) (if_n (by decide) (ck_m (by omega) (by omega) (if_p (by rw [ci]; exact hr0) (ck_m (by omega) (by omega) (if_p (by rw [ci]; exact hm) (if_n (fun q => ?_) (bind_v (come_v hn16) (ck_m hn16 (by omega) (ck_m (by omega) (by omega) ?_)))))))))))), lines_add h hn16 (fits_ok e) (by decide) (mt_pair hn16 h5 hi hr0 hm), by omega⟩
              · unfold fX5_wrong_b53
                refine bind_v (roleOf_v hi hn) (if_p hr0 (bind_v (mateOf_v hi hn) (if_p hm ?_)))
                unfold fX5_wrong_b95
                exact if_p rfl (bind_v (add_w hn16 hi) rfl)
              · have := nI_i (y := 16) (by omega) (by omega) q
                omega
              · dsimp only
                rw [ci, nI_clamp (show n < 2 ^ 31 by omega), upd_upd]
          · refine ⟨-103, n, kd, vs, ws, rl, mt, bind_v ei (if_n (by decide) ?_), bind_v ei (if_n (by decide) (bind_v e (if_n (by decide) (if_n (by decide) (ck_m (by omega) (by omega) (if_p (by rw [ci]; exact hr0) (ck_m (by omega) (by omega) (if_n (by rw [ci]; exact hm) rfl)))))))), h, Nat.le_refl n⟩
            have h53 : ∀ t, fX5_wrong_b53 (nI i) x y z t (nI n) kd vs ws rl mt (nI 0) = some (-103, nI n, kd, vs, ws, rl, mt) := by
              intro t
              unfold fX5_wrong_b53
              refine bind_v (roleOf_v hi hn) (if_p hr0 (bind_v (mateOf_v hi hn) (if_n hm ?_)))
              unfold fX5_wrong_b95
              exact if_n (by decide) rfl
            by_cases hf : n = 16
            · rw [if_pos hf]
              exact bind_v (ref_full e) (if_n (by decide) (if_p rfl (h53 _)))
            · rw [if_neg hf]
              exact bind_v (ref_ok e) (if_p rfl (h53 _))
        · refine ⟨-103, n, kd, vs, ws, rl, mt, bind_v ei (if_n (by decide) ?_), bind_v ei (if_n (by decide) (bind_v e (if_n (by decide) (if_n (by decide) (ck_m (by omega) (by omega) (if_n (by rw [ci]; exact hr0) rfl)))))), h, Nat.le_refl n⟩
          have h53 : ∀ t, fX5_wrong_b53 (nI i) x y z t (nI n) kd vs ws rl mt (nI 0) = some (-103, nI n, kd, vs, ws, rl, mt) := by
            intro t
            unfold fX5_wrong_b53
            refine bind_v (roleOf_v hi hn) (if_n hr0 ?_)
            unfold fX5_wrong_b95
            exact if_n (by decide) rfl
          by_cases hf : n = 16
          · rw [if_pos hf]
            exact bind_v (ref_full e) (if_n (by decide) (if_p rfl (h53 _)))
          · rw [if_neg hf]
            exact bind_v (ref_ok e) (if_p rfl (h53 _))
      · unfold fX5_wrong_b36
        exact ⟨-103, n, kd, vs, ws, rl, mt, bind_v ei (if_n (by decide) (bind_v (ref_late e (by omega) ha) (if_n (by decide) (if_n (by decide) (if_n (by decide) rfl))))), bind_v ei (if_n (by decide) (bind_v e (if_n (by decide) (if_p (nI_lt (a := 0) (by omega) (by omega)) rfl)))), h, Nat.le_refl n⟩
    · unfold fX5_wrong_b36
      exact ⟨-102, n, kd, vs, ws, rl, mt, bind_v ei (if_n (by decide) (bind_v (ref_no e) (if_n (by decide) (if_n (by decide) (if_n (by decide) rfl))))), bind_v ei (if_n (by decide) (bind_v e (if_p rfl rfl))), h, Nat.le_refl n⟩
  · exact ⟨-101, n, kd, vs, ws, rl, mt, bind_v ei (if_p rfl rfl), bind_v ei (if_p rfl rfl), h, Nat.le_refl n⟩
end DEAL
