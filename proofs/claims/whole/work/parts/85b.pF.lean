/-! the class: mostKept, chooseKept -/
theorem b_z : ∀ (x : Int32), ¬ x = 0 → ∃ i, i < 32 ∧ bt x i = true := by
  intro x h
  apply Classical.byContradiction
  intro q
  refine h ((z_iff x).mpr (fun i hi => ?_))
  cases hb : bt x i
  · rfl
  · exact absurd ⟨i, hi, hb⟩ q
/-- a mask holds the places of F from p on -/
def mskOK (x : Int32) (p : Nat) (F : Nat → Bool) : Prop := ∀ j, j < 32 → bt x j = (decide (p ≤ j) && (decide (j < 16) && F j))
theorem msk_drop {x : Int32} {p : Nat} {F : Nat → Bool} (hp : p < 16) (h : mskOK x p F) : mskOK (x &&& (nI (2 ^ p) ^^^ (-1))) (p + 1) F := by
  intro j hj
  rw [b_and, b_not _ hj, bt_pow (by omega) hj, h j hj]
  by_cases e : p = j
  · subst e
    rw [decide_eq_true rfl, decide_eq_false (show ¬ p + 1 ≤ p by omega)]
    simp
  · rw [decide_eq_false e]
    by_cases h2 : p ≤ j
    · rw [decide_eq_true h2, decide_eq_true (show p + 1 ≤ j by omega)]
      simp
    · rw [decide_eq_false h2, decide_eq_false (show ¬ p + 1 ≤ j by omega)]
      simp
theorem msk_clash {x c : Int32} {p : Nat} {F : Nat → Bool} (h : mskOK x p F) : mskOK (x &&& (c ^^^ (-1))) p (fun j => F j && !bt c j) := by
  intro j hj
  rw [b_and, b_not _ hj, h j hj]
  show _ = (decide (p ≤ j) && (decide (j < 16) && (F j && !bt c j)))
  cases decide (p ≤ j) <;> cases decide (j < 16) <;> cases F j <;> cases bt c j <;> rfl
theorem mk_skip (cf : Nat → Nat → Bool) {d p : Nat} {F : Nat → Bool} (h : F p = false) : mkN cf (d + 1) p F = mkN cf d (p + 1) F := by
  show (if F p = true then _ else _) = _
  rw [h, if_neg (by decide)]
theorem one_add (m : Nat) : (1 : Int32) + nI m = nI (1 + m) := nI_add 1 m
theorem mostKept_v {CL : Nat → Int32} : ∀ (N d p : Nat) (x : Int32) (F : Nat → Bool), p + d = 16 → d < N → mskOK x p F → fX3_mostKept N (nI p) x CL = some (nI (mkN (fun i j => bt (CL i) j) d p F)) := by
  intro N
  induction N with
  | zero => intro d p x F _ h; omega
  | succ N ih =>
    intro d p x F hp hN hx
    show uX3_mostKept (fX3_mostKept N) (nI p) x CL = _
    unfold uX3_mostKept
    by_cases h0 : x = 0
    · rw [if_pos h0, mk_zero _ d p F (fun j h1 h2 => by
        have := hx j (by omega)
        rw [h0, b_0, decide_eq_true h1, decide_eq_true (show j < 16 by omega)] at this
        exact this.symm)]
      rfl
    · rw [if_neg h0]
      cases d with
      | zero =>
        exfalso
        obtain ⟨i, hi, hb⟩ := b_z x h0
        rw [hx i hi] at hb
        have h1 := of_decide_eq_true ((Bool.and_eq_true _ _).mp hb).1
        have h2 := of_decide_eq_true ((Bool.and_eq_true _ _).mp ((Bool.and_eq_true _ _).mp hb).2).1
        omega
      | succ d =>
        have hp16 : p < 16 := by omega
        have hbp : bt x p = F p := by rw [hx p (by omega), decide_eq_true (Nat.le_refl p), decide_eq_true hp16]; rfl
        have hand : x &&& nI (2 ^ p) = 0 ↔ F p = false := by
          rw [z_iff]
          constructor
          · intro h
            have := h p (by omega)
            rw [b_and, bt_pow (by omega) (by omega), decide_eq_true rfl, Bool.and_true, hbp] at this
            exact this
          · intro h i hi
            rw [b_and, bt_pow (by omega) hi]
            by_cases e : p = i
            · subst e; rw [hbp, h]; rfl
            · rw [decide_eq_false e, Bool.and_false]
        have hd := msk_drop hp16 hx
        have hdc := msk_clash (c := CL p) hd
        rw [if_pos (show nI p < (16 : Int32) from nI_lt (b := 16) hp16 (by omega)), nI_pow p (by omega), nI_1]
        have i1 := ih d (p + 1) _ F (by omega) (by omega) hd
        have i2 := ih d (p + 1) _ _ (by omega) (by omega) hdc
        simp only [ck_n hp16 (show (16 : Nat) < 2 ^ 31 by omega), nI_clamp (show p < 2 ^ 31 by omega), i1, i2, Option.bind_some, one_add]
        have l1 := mk_le (fun i j => bt (CL i) j) d (p + 1) (fun j => F j && !bt (CL p) j)
        have l2 := mk_le (fun i j => bt (CL i) j) d (p + 1) F
        by_cases hF : F p = false
        · rw [if_pos (hand.mpr hF), mk_skip _ hF]
        · rw [if_neg (fun q => hF (hand.mp q))]
          have hFt : F p = true := by cases h : F p; exact absurd h hF; rfl
          have e2 : mkN (fun i j => bt (CL i) j) (d + 1) p F = max (1 + mkN (fun i j => bt (CL i) j) d (p + 1) (fun j => F j && !bt (CL p) j)) (mkN (fun i j => bt (CL i) j) d (p + 1) F) := by
            show (if F p = true then _ else _) = _
            rw [if_pos hFt]
          rw [e2]
          by_cases hz : ((x &&& (nI (2 ^ p) ^^^ (-1))) &&& CL p) = 0
          · rw [if_pos hz]
            have e3 : mkN (fun i j => bt (CL i) j) d (p + 1) (fun j => F j && !bt (CL p) j) = mkN (fun i j => bt (CL i) j) d (p + 1) F := by
              refine mk_congr _ d (p + 1) _ _ (fun j h1 h2 => ?_)
              have h3 := (z_iff _).mp hz j (by omega)
              rw [b_and, hd j (by omega), decide_eq_true h1, decide_eq_true (show j < 16 by omega)] at h3
              cases hFj : F j
              · rfl
              · rw [hFj] at h3
                have h4 : bt (CL p) j = false := h3
                rw [h4]; rfl
            rw [e3, show max (1 + mkN (fun i j => bt (CL i) j) d (p + 1) F) (mkN (fun i j => bt (CL i) j) d (p + 1) F) = 1 + mkN (fun i j => bt (CL i) j) d (p + 1) F by omega]
          · rw [if_neg hz]
            by_cases hlt : 1 + mkN (fun i j => bt (CL i) j) d (p + 1) (fun j => F j && !bt (CL p) j) < mkN (fun i j => bt (CL i) j) d (p + 1) F
            · rw [if_pos (nI_lt hlt (by omega)), show max (1 + mkN (fun i j => bt (CL i) j) d (p + 1) (fun j => F j && !bt (CL p) j)) (mkN (fun i j => bt (CL i) j) d (p + 1) F) = mkN (fun i j => bt (CL i) j) d (p + 1) F by omega]
            · rw [if_neg (nI_nlt (by omega) (by omega)), show max (1 + mkN (fun i j => bt (CL i) j) d (p + 1) (fun j => F j && !bt (CL p) j)) (mkN (fun i j => bt (CL i) j) d (p + 1) F) = 1 + mkN (fun i j => bt (CL i) j) d (p + 1) (fun j => F j && !bt (CL p) j) by omega]
theorem DEP_eq : DEP = 20 := rfl
theorem gr_keep (cf : Nat → Nat → Bool) {d p : Nat} {F : Nat → Bool} (hF : F p = true) (hk : 1 + mkN cf d (p + 1) (fun j => F j && !cf p j) = mkN cf (d + 1) p F) (j : Nat) : gr cf (d + 1) p F j = (decide (j = p) || gr cf d (p + 1) (fun j => F j && !cf p j) j) := by
  show (if F p = true then _ else _) = _
  rw [if_pos hF, if_pos hk]
theorem gr_drop (cf : Nat → Nat → Bool) {d p : Nat} {F : Nat → Bool} (hF : F p = true) (hk : ¬ 1 + mkN cf d (p + 1) (fun j => F j && !cf p j) = mkN cf (d + 1) p F) (j : Nat) : gr cf (d + 1) p F j = gr cf d (p + 1) F j := by
  show (if F p = true then _ else _) = _
  rw [if_pos hF, if_neg hk]
theorem gr_skip (cf : Nat → Nat → Bool) {d p : Nat} {F : Nat → Bool} (hF : F p = false) (j : Nat) : gr cf (d + 1) p F j = gr cf d (p + 1) F j := by
  show (if F p = true then _ else _) = _
  rw [hF, if_neg (by decide)]
theorem choose48 {a : Nat} {R CL : Nat → Int32} (ha : a ≤ 16) : ∀ (f e d p : Nat) (x kp : Int32) (F : Nat → Bool), p + e = a → p + d = 16 → e < f → mskOK x p F → (∀ j, a ≤ j → F j = false) → ∃ kp', (∀ j, j < 32 → bt kp' j = (bt kp j || gr (fun i j => bt (CL i) j) d p F j)) ∧ fX3_chooseKept_h48 f x (nI p) kp R CL (nI a) = some kp' := by
  intro f
  induction f with
  | zero => intro e d p x kp F _ _ h; omega
  | succ f ih =>
    intro e d p x kp F he hd hf hx hFa
    cases e with
    | zero =>
      refine ⟨kp, fun j hj => ?_, ?_⟩
      · cases hg : gr (fun i j => bt (CL i) j) d p F j
        · rw [Bool.or_false]
        · have := gr_in _ d p F j hg
          rw [hFa j (by omega)] at this
          exact absurd this.2.2 (by decide)
      · show uX3_chooseKept_h48 (fX3_chooseKept_h48 f) x (nI p) kp R CL (nI a) = _
        unfold uX3_chooseKept_h48
        rw [if_pos (nI_le (by omega) (by omega))]
    | succ e =>
      cases d with
      | zero => omega
      | succ d =>
      have hp16 : p < 16 := by omega
      have hbp : bt x p = F p := by rw [hx p (by omega), decide_eq_true (Nat.le_refl p), decide_eq_true hp16]; rfl
      have hand : x &&& nI (2 ^ p) = 0 ↔ F p = false := by
        rw [z_iff]
        constructor
        · intro h
          have := h p (by omega)
          rw [b_and, bt_pow (by omega) (by omega), decide_eq_true rfl, Bool.and_true, hbp] at this
          exact this
        · intro h i hi
          rw [b_and, bt_pow (by omega) hi]
          by_cases e : p = i
          · subst e; rw [hbp, h]; rfl
          · rw [decide_eq_false e, Bool.and_false]
      have hdr := msk_drop hp16 hx
      have hdc := msk_clash (c := CL p) hdr
      have step : fX3_chooseKept_h48 (f + 1) x (nI p) kp R CL (nI a) = uX3_chooseKept_h48 (fX3_chooseKept_h48 f) x (nI p) kp R CL (nI a) := rfl
      rw [step]
      unfold uX3_chooseKept_h48
      rw [if_neg (nI_ge (by omega) (by omega)), nI_pow p (by omega), nI_1]
      have i1 := mostKept_v (CL := CL) DEP (d + 1) p x F (by omega) (by rw [DEP_eq]; omega) hx
      have i2 := mostKept_v (CL := CL) DEP d (p + 1) _ _ (by omega) (by rw [DEP_eq]; omega) hdc
      simp only [ck_n hp16 (show (16 : Nat) < 2 ^ 31 by omega), nI_clamp (show p < 2 ^ 31 by omega), i1, i2, Option.bind_some, one_add]
      have l1 := mk_le (fun i j => bt (CL i) j) d (p + 1) (fun j => F j && !bt (CL p) j)
      have l2 := mk_le (fun i j => bt (CL i) j) (d + 1) p F
      by_cases hF : F p = false
      · rw [if_pos (hand.mpr hF)]
        have hx' : mskOK x (p + 1) F := by
          intro j hj
          rw [hx j hj]
          by_cases e : j = p
          · subst e; rw [hF]; simp
          · by_cases h1 : p ≤ j
            · rw [decide_eq_true h1, decide_eq_true (show p + 1 ≤ j by omega)]
            · rw [decide_eq_false h1, decide_eq_false (show ¬ p + 1 ≤ j by omega)]
        obtain ⟨kp', g1, g2⟩ := ih e d (p + 1) x kp F (by omega) (by omega) (by omega) hx' hFa
        exact ⟨kp', fun j hj => by rw [g1 j hj, gr_skip _ hF], g2⟩
      · have hFt : F p = true := by cases h : F p; exact absurd h hF; rfl
        rw [if_neg (fun q => hF (hand.mp q))]
        by_cases hk : 1 + mkN (fun i j => bt (CL i) j) d (p + 1) (fun j => F j && !bt (CL p) j) = mkN (fun i j => bt (CL i) j) (d + 1) p F
        · rw [if_pos (by rw [hk])]
          obtain ⟨kp', g1, g2⟩ := ih e d (p + 1) _ (kp ||| nI (2 ^ p)) _ (by omega) (by omega) (by omega) hdc (fun j hj => by rw [hFa j hj]; rfl)
          refine ⟨kp', fun j hj => ?_, g2⟩
          rw [g1 j hj, gr_keep _ hFt hk, b_or, bt_pow (by omega) hj, Bool.or_assoc]
          congr 2
          exact decide_eq_decide.mpr ⟨Eq.symm, Eq.symm⟩
        · rw [if_neg (fun q => hk ((nI_eq (by omega) (by omega)).mp q))]
          obtain ⟨kp', g1, g2⟩ := ih e d (p + 1) _ kp F (by omega) (by omega) (by omega) hdr hFa
          exact ⟨kp', fun j hj => by rw [g1 j hj, gr_drop _ hFt hk], g2⟩
theorem choose4 {a : Nat} {R CL : Nat → Int32} {kp0 : Int32} (ha : a ≤ 16) : ∀ (f e p : Nat) (x : Int32), p + e = a → e < f → (∀ j, j < 32 → bt x j = (decide (j < p) && decide (¬ R j = -1))) → ∃ x', (∀ j, j < 32 → bt x' j = (decide (j < a) && decide (¬ R j = -1))) ∧ fX3_chooseKept_h4 f x (nI p) kp0 R CL (nI a) = fX3_chooseKept_h48 FU x' 0 0 R CL (nI a) := by
  intro f
  induction f with
  | zero => intro e p x _ h; omega
  | succ f ih =>
    intro e p x he hf hx
    cases e with
    | zero =>
      obtain rfl : p = a := by omega
      refine ⟨x, hx, ?_⟩
      show uX3_chooseKept_h4 (fX3_chooseKept_h4 f) x (nI p) kp0 R CL (nI p) = _
      unfold uX3_chooseKept_h4
      rw [if_pos (nI_le (by omega) (by omega))]
    | succ e =>
      have step : fX3_chooseKept_h4 (f + 1) x (nI p) kp0 R CL (nI a) = uX3_chooseKept_h4 (fX3_chooseKept_h4 f) x (nI p) kp0 R CL (nI a) := rfl
      rw [step]
      unfold uX3_chooseKept_h4
      rw [if_neg (nI_ge (by omega) (by omega)), ck_n (by omega) (by omega), nI_clamp (by omega), nI_pow p (by omega), nI_1]
      by_cases hR : R p = -1
      · rw [if_pos hR]
        refine ih e (p + 1) _ (by omega) (by omega) (fun j hj => ?_)
        rw [b_or, b_0, Bool.or_false, hx j hj]
        by_cases e : j = p
        · subst e; rw [hR]; simp
        · rw [show decide (j < p) = decide (j < p + 1) from decide_eq_decide.mpr (by omega)]
      · rw [if_neg hR]
        refine ih e (p + 1) _ (by omega) (by omega) (fun j hj => ?_)
        rw [b_or, bt_pow (by omega) hj, hx j hj]
        by_cases e : j = p
        · subst e
          rw [decide_eq_true rfl, decide_eq_true (show ¬ R j = -1 from hR), decide_eq_true (show j < j + 1 by omega)]
          simp
        · rw [decide_eq_false (show ¬ p = j by omega), Bool.or_false, show decide (j < p) = decide (j < p + 1) from decide_eq_decide.mpr (by omega)]
/-- what the class keeps -/
theorem chooseKept_v {a : Nat} {R CL : Nat → Int32} {kp0 : Int32} (ha : a ≤ 16) : ∃ kp, (∀ j, j < 32 → bt kp j = gr (fun i j => bt (CL i) j) 16 0 (fun j => decide (j < a) && decide (¬ R j = -1)) j) ∧ fX3_chooseKept kp0 R CL (nI a) = some kp := by
  obtain ⟨x, h1, h2⟩ := choose4 (CL := CL) (kp0 := kp0) (R := R) ha FU a 0 0 (by omega) (by rw [FU_eq]; omega) (fun j hj => by rw [b_0, decide_eq_false (show ¬ j < 0 by omega)]; rfl)
  obtain ⟨kp, h3, h4⟩ := choose48 (R := R) (CL := CL) ha FU a 16 0 x 0 (fun j => decide (j < a) && decide (¬ R j = -1)) (by omega) (by omega) (by rw [FU_eq]; omega) (fun j hj => by
    rw [h1 j hj, decide_eq_true (Nat.zero_le j), Bool.true_and]
    show _ = (decide (j < 16) && (decide (j < a) && decide (¬ R j = -1)))
    by_cases e : j < a
    · rw [decide_eq_true (show j < 16 by omega), Bool.true_and]
    · rw [decide_eq_false e, Bool.false_and, Bool.and_false]) (fun j hj => by rw [decide_eq_false (show ¬ j < a by omega)]; rfl)
  refine ⟨kp, fun j hj => by rw [h3 j hj, b_0, Bool.false_or], ?_⟩
  unfold fX3_chooseKept
  rw [show (0 : Int32) = nI 0 from rfl] at *
  rw [h2, h4]
