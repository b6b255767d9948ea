/-! input, wipe -/
theorem up_at (i q v x0 x1 x2 x3 x4 x5 : Nat) (iof : Nat → Int32) (a b c d e f : Int32) (h : ∀ u, u < 6 → i ≠ 6 * q + u) : upd (upd (upd (upd (upd (upd iof (6 * q) a) (6 * q + 1) b) (6 * q + 2) c) (6 * q + 3) d) (6 * q + 4) e) (6 * q + 5) f i = iof i := by
  have h0 := h 0 (by omega)
  rw [Nat.add_zero] at h0
  rw [upd_n (h 5 (by omega)), upd_n (h 4 (by omega)), upd_n (h 3 (by omega)), upd_n (h 2 (by omega)), upd_n (h 1 (by omega)), upd_n h0]
section INPUT
variable {n k a q : Nat} {B : Nat → Nat → Int32} {iof : Nat → Int32}
theorem in_add (x1 x2 x3 x4 x5 x6 : Int32) (h : InOK q B iof) : InOK (q + 1) (va_up B q (upd (upd (upd (upd (upd (upd (B q) 0 x1) 1 x2) 2 x3) 3 x4) 4 x5) 5 x6)) (upd (upd (upd (upd (upd (upd iof (6 * q) x1) (6 * q + 1) x2) (6 * q + 2) x3) (6 * q + 3) x4) (6 * q + 4) x5) (6 * q + 5) x6) := by
  intro i v hi hv
  by_cases e : i = q
  · rw [e, va_up_self]
    obtain rfl | rfl | rfl | rfl | rfl | rfl : v = 0 ∨ v = 1 ∨ v = 2 ∨ v = 3 ∨ v = 4 ∨ v = 5 := by omega
    · rw [upd_n (by omega), upd_n (by omega), upd_n (by omega), upd_n (by omega), upd_n (by omega), upd_s, upd_n (by omega), upd_n (by omega), upd_n (by omega), upd_n (by omega), upd_n (by omega), Nat.add_zero, upd_s]
    · rw [upd_n (by omega), upd_n (by omega), upd_n (by omega), upd_n (by omega), upd_s, upd_n (by omega), upd_n (by omega), upd_n (by omega), upd_n (by omega), upd_s]
    · rw [upd_n (by omega), upd_n (by omega), upd_n (by omega), upd_s, upd_n (by omega), upd_n (by omega), upd_n (by omega), upd_s]
    · rw [upd_n (by omega), upd_n (by omega), upd_s, upd_n (by omega), upd_n (by omega), upd_s]
    · rw [upd_n (by omega), upd_s, upd_n (by omega), upd_s]
    · rw [upd_s, upd_s]
  · rw [va_up_ne B _ e, up_at (6 * i + v) q v 0 0 0 0 0 0 iof x1 x2 x3 x4 x5 x6 (fun u hu => by omega)]
    exact h i v (by omega) hv
theorem input_c (x1 x2 x3 x4 x5 x6 : Int32) (hq : q ≤ 8) (ha : a ≤ 16) (h : InOK q B iof) :
    ∃ v q' B' iof', fX5_input x1 x2 x3 x4 x5 x6 (nI q) B (nI a) = some (v, nI q', B') ∧ fX6_input x1 x2 x3 x4 x5 x6 (nI q) (nI a) iof = some (v, nI q', iof') ∧ InOK q' B' iof' ∧ q' ≤ 8 := by
  have h6 : (6 : Int32) * nI q = nI (6 * q) := (Int32.ofNat_mul 6 q).symm
  unfold fX5_input fX6_input
  by_cases ha0 : a = 0
  · subst ha0
    by_cases hf : q = 8
    · exact ⟨-104, q, B, iof, if_p (by decide) (if_n (nI_nlt (b := 8) (by omega) (by omega)) rfl), if_p (by decide) (if_p (by rw [hf]; rfl) rfl), h, hq⟩
    · have e : ∀ c : Nat, nI (6 * q) + nI c = nI (6 * q + c) := fun c => nI_add _ _
      refine ⟨nI q, q + 1, va_up B q (upd (upd (upd (upd (upd (upd (B q) 0 x1) 1 x2) 2 x3) 3 x4) 4 x5) 5 x6), upd (upd (upd (upd (upd (upd iof (6 * q) x1) (6 * q + 1) x2) (6 * q + 2) x3) (6 * q + 3) x4) (6 * q + 4) x5) (6 * q + 5) x6, if_p (by decide) (if_p (nI_lt (b := 8) (by omega) (by omega)) (ck_m (by omega) (by omega) (ck_v (by decide) (ck_v (by decide) (ck_v (by decide) (ck_v (by decide) (ck_v (by decide) (ck_v (by decide) ?_)))))))), if_p (by decide) (if_n (fun g => ?_) ?_), in_add x1 x2 x3 x4 x5 x6 h, by omega⟩
      · rw [nI_clamp (by omega), nI_1]
        rfl
      · have := nI_i (y := 8) (by omega) (by omega) g
        omega
      · rw [h6, nI_1 q, nI_pred, show nI (6 * q) + 1 = nI (6 * q + 1) from e 1, show nI (6 * q) + 2 = nI (6 * q + 2) from e 2, show nI (6 * q) + 3 = nI (6 * q + 3) from e 3, show nI (6 * q) + 4 = nI (6 * q + 4) from e 4, show nI (6 * q) + 5 = nI (6 * q + 5) from e 5]
        refine ck_m (by omega) (by omega) (ck_m (by omega) (by omega) (ck_m (by omega) (by omega) (ck_m (by omega) (by omega) (ck_m (by omega) (by omega) (ck_m (by omega) (by omega) ?_)))))
        rw [nI_clamp (show 6 * q < 2 ^ 31 by omega), nI_clamp (show 6 * q + 1 < 2 ^ 31 by omega), nI_clamp (show 6 * q + 2 < 2 ^ 31 by omega), nI_clamp (show 6 * q + 3 < 2 ^ 31 by omega), nI_clamp (show 6 * q + 4 < 2 ^ 31 by omega), nI_clamp (show 6 * q + 5 < 2 ^ 31 by omega)]
  · exact ⟨-103, q, B, iof, if_n (nI_nle (by omega) (by omega)) rfl, if_n (nI_nle (by omega) (by omega)) rfl, h, hq⟩
end INPUT
theorem fill_loop {ln : Nat} {x : Int32} (hl : ln < 2 ^ 20) : ∀ (f d i : Nat) (R : Nat → Int32), i + d = ln → d < f → (∀ j, j < i → R j = x) → ∃ R', (∀ j, j < ln → R' j = x) ∧ fJ7_fill_53178_h5 f ln x (nI i) (nI ln) R = some R' := by
  intro f
  induction f with
  | zero => intro d i R _ h; omega
  | succ f ih =>
    intro d i R hi hd hR
    show ∃ R', _ ∧ uJ7_fill_53178_h5 (fJ7_fill_53178_h5 f) ln x (nI i) (nI ln) R = some R'
    unfold uJ7_fill_53178_h5
    cases d with
    | zero =>
      obtain rfl : i = ln := by omega
      exact ⟨R, hR, if_p (nI_le (by omega) (by omega)) rfl⟩
    | succ d =>
      obtain ⟨R', r1, r2⟩ := ih d (i + 1) (upd R i x) (by omega) (by omega) (fun j hj => by
        by_cases e : j = i
        · rw [e, upd_s]
        · rw [upd_n e]; exact hR j (by omega))
      refine ⟨R', r1, if_n (nI_ge (by omega) (by omega)) (ck_m (by omega) (by omega) ?_)⟩
      rw [nI_clamp (by omega), nI_1]
      exact r2
theorem fill_v {ln : Nat} {x : Int32} (hl : ln < 60000) (R : Nat → Int32) : ∃ R', (∀ j, j < ln → R' j = x) ∧ fJ7_fill_53178 ln x R = some R' := by
  unfold fJ7_fill_53178
  exact fill_loop (by omega) FU ln 0 R (by omega) (by rw [FU_eq]; omega) (fun j hj => absurd hj (Nat.not_lt_zero j))
section WIPE
variable {kd vs ws rl mt mr fr num ah mw be bf : Nat → Int32} {wy : Nat → Int64}
theorem lines_none {wy' : Nat → Int64} {mr' b bf' : Nat → Int32} (h1 : ∀ j, j < 16 → mr' j = -1) (h2 : ∀ p, p < 2 ^ 0 → wy' p = lN (wT ah 0 p)) : LinesOK 0 0 kd vs ws rl mt 0 num mr' fr ah mw b bf' wy' :=
  ⟨by omega, by omega, fun l hl => absurd hl (Nat.not_lt_zero l), fun l hl => absurd hl (Nat.not_lt_zero l), fun l _ h => h1 l h, fun l hl => absurd hl (Nat.not_lt_zero l), fun l hl => absurd hl (Nat.not_lt_zero l), fun l hl => absurd hl (Nat.not_lt_zero l), fun l _ hl => absurd hl (Nat.not_lt_zero l), fun l hl => absurd hl (Nat.not_lt_zero l), h2, Or.inl rfl⟩
theorem wipe_c (v q k wc a c1 : Int32) (cv : Nat → Int32) (mq sz hr pm : Int32) :
    ∃ mr' cv' b bf' wy', fX5_wipe q v k wc mr a c1 cv = some (v, 0, 0, 0, 0, mr', 0, 0, cv') ∧ fX6_wipe v k mq sz hr pm kd vs ws num be bf wy = some (v, 0, 0, 0, 0, 0, 0, b, bf', wy') ∧ LinesOK 0 0 kd vs ws rl mt 0 num mr' fr ah mw b bf' wy' ∧ (∀ j, j < 6 → cv' j = 0) := by
  obtain ⟨mr', m1, m2⟩ := fill_v (ln := 16) (x := -1) (by omega) mr
  obtain ⟨cv', c2, c3⟩ := fill_v (ln := 6) (x := 0) (by omega) cv
  obtain ⟨b, bf', wy', b1, b2, b3, b4⟩ := relate_v (k := 0) (kd := kd) (vs := vs) (ws := ws) (num := num) (b0 := be) (be0 := bf) (wy0 := wy) (a := ah) (ln := fun _ => 0) (by omega) (fun r hr => absurd hr (Nat.not_lt_zero r)) (fun r hr => absurd hr (Nat.not_lt_zero r))
  refine ⟨mr', cv', b, bf', wy', ?_, ?_, lines_none m1 b3, c2⟩
  · unfold fX5_wipe fX1_forget fX4_forget fX2_forget
    exact bind_v rfl (bind_v (a := (0, 0, mr')) (bind_v m2 rfl) (bind_v (a := (0, cv')) (bind_v c3 rfl) rfl))
  · unfold fX6_wipe
    exact bind_v b4 rfl
end WIPE
