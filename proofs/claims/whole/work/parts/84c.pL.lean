/-! lines: the same on both sides -/
theorem i32lt {x y : Int32} : x < y ↔ x.toInt < y.toInt := Int32.lt_iff_toInt_lt
theorem i32le {x y : Int32} : x ≤ y ↔ x.toInt ≤ y.toInt := Int32.le_iff_toInt_le
theorem isVar_eq (v : Int32) : fX1_isVariable v = fX6_in v 0 5 := by
  unfold fX1_isVariable fX6_in
  by_cases h : v < 0
  · rw [if_pos h, if_pos h]
  · rw [if_neg h, if_neg h]
    have e : (6 : Int32) ≤ v ↔ (5 : Int32) < v := by
      rw [i32le, i32lt, show (6 : Int32).toInt = 6 by decide, show (5 : Int32).toInt = 5 by decide]
      omega
    by_cases h2 : (6 : Int32) ≤ v
    · rw [if_pos h2, if_pos (e.mp h2)]
    · rw [if_neg h2, if_neg (fun q => h2 (e.mpr q))]
theorem in6_01 (x y z : Int32) : fX6_in x y z = some 1 ∨ fX6_in x y z = some 0 := by
  unfold fX6_in
  by_cases h : x < y
  · rw [if_pos h]; exact Or.inr rfl
  · rw [if_neg h]
    by_cases h2 : z < x
    · rw [if_pos h2]; exact Or.inr rfl
    · rw [if_neg h2]; exact Or.inl rfl
theorem in6_v (x : Int32) {a : Nat} (ha : a < 2 ^ 30) : (∃ j, j < a ∧ x = nI j ∧ fX6_in x 0 (nI a - 1) = some 1) ∨ ((∀ j, j < a → ¬ x = nI j) ∧ fX6_in x 0 (nI a - 1) = some 0) := by
  have e : (nI a - 1).toInt = (a : Int) - 1 := pk_sub_toInt (b := 1) ha (by omega)
  unfold fX6_in
  rcases pk_ix x (n := a) (by omega) with h | h | ⟨j, hj, rfl⟩
  · refine Or.inr ⟨fun j hj q => ?_, by rw [if_pos h]⟩
    rw [q] at h
    exact nI_pos (by omega) h
  · refine Or.inr ⟨fun j hj q => ?_, ?_⟩
    · rw [q] at h
      exact nI_ge hj (by omega) h
    · by_cases h0 : x < 0
      · rw [if_pos h0]
      · rw [if_neg h0, if_pos]
        rw [i32lt, e]
        rw [i32le, nI_toInt (by omega)] at h
        omega
  · refine Or.inl ⟨j, hj, rfl, ?_⟩
    rw [if_neg (nI_pos (by omega)), if_neg]
    rw [i32lt, e, nI_toInt (by omega)]
    omega
theorem has_eq (x n : Int32) : fX1_has x n = fX0_hasPlace x n := rfl
theorem has_v (x : Int32) {a : Nat} (ha : a < 2 ^ 31) : (∃ j, j < a ∧ x = nI j ∧ fX1_has x (nI a) = some 1) ∨ ((∀ j, j < a → ¬ x = nI j) ∧ fX1_has x (nI a) = some 0) := hasPlace_v x ha
theorem isLine_v (x : Int32) {a : Nat} (ha : a < 2 ^ 30) : (∃ j, j < a ∧ x = nI j ∧ fX6_isLine x (nI a) = some 1) ∨ ((∀ j, j < a → ¬ x = nI j) ∧ fX6_isLine x (nI a) = some 0) := by
  unfold fX6_isLine
  rcases in6_v x ha with ⟨j, h1, h2, h3⟩ | ⟨h1, h2⟩
  · exact Or.inl ⟨j, h1, h2, by rw [h3]; rfl⟩
  · exact Or.inr ⟨h1, by rw [h2]; rfl⟩
theorem isLine_eq (x : Int32) {a : Nat} (ha : a < 2 ^ 30) : fX6_isLine x (nI a) = fX1_has x (nI a) := by
  rcases isLine_v x ha with ⟨j, h1, h2, h3⟩ | ⟨h1, h2⟩
  · rcases has_v x (a := a) (by omega) with ⟨_, _, _, g⟩ | ⟨g, _⟩
    · rw [h3, g]
    · exact absurd h2 (g j h1)
  · rcases has_v x (a := a) (by omega) with ⟨i, g1, g2, _⟩ | ⟨_, g⟩
    · exact absurd g2 (h1 i g1)
    · rw [h2, g]
theorem in6_eq (x : Int32) {a : Nat} (ha : a < 2 ^ 30) : fX6_in x 0 (nI a - 1) = fX0_hasPlace x (nI a) := by
  rcases in6_v x ha with ⟨j, h1, h2, h3⟩ | ⟨h1, h2⟩
  · rcases hasPlace_v x (a := a) (by omega) with ⟨_, _, _, g⟩ | ⟨g, _⟩
    · rw [h3, g]
    · exact absurd h2 (g j h1)
  · rcases hasPlace_v x (a := a) (by omega) with ⟨i, g1, g2, _⟩ | ⟨_, g⟩
    · exact absurd g2 (h1 i g1)
    · rw [h2, g]
theorem isVar_01 (v : Int32) : fX1_isVariable v = some 1 ∨ fX1_isVariable v = some 0 := by rw [isVar_eq]; exact in6_01 v 0 5
theorem fits_eq (k v w : Int32) : fX6_fits k v w = fX1_isAsTold k v w := by
  have hk : (k < 0 ∨ nI 7 ≤ k) ∨ ∃ j : Nat, j < 7 ∧ k = nI j := by
    rcases pk_ix k (n := 7) (by omega) with h | h | h
    · exact Or.inl (Or.inl h)
    · exact Or.inl (Or.inr h)
    · exact Or.inr h
  rcases hk with hk | ⟨j, hj, rfl⟩
  · have n0 : ∀ j : Nat, j < 7 → ¬ k = nI j := by
      intro j hj q
      rw [q] at hk
      rcases hk with h | h
      · exact nI_pos (by omega) h
      · exact nI_ge hj (by omega) h
    have e : fX6_in k 0 6 = some 0 := by
      unfold fX6_in
      by_cases h0 : k < 0
      · rw [if_pos h0]
      · rw [if_neg h0, if_pos]
        rcases hk with h | h
        · exact absurd h h0
        · rw [i32le, show (nI 7).toInt = 7 by decide] at h
          rw [i32lt, show (6 : Int32).toInt = 6 by decide]
          omega
    have b : ∀ t, fX6_fits_b28 k v t = some 0 := fun t => by unfold fX6_fits_b28; rw [e]; rfl
    have r : fX1_isAsTold k v w = some 0 := by
      unfold fX1_isAsTold
      rw [if_neg (show ¬ k = (0 : Int32) from n0 0 (by omega)), if_neg (show ¬ k = (1 : Int32) from n0 1 (by omega)), if_neg (show ¬ k = (2 : Int32) from n0 2 (by omega)), if_neg (show ¬ k = (3 : Int32) from n0 3 (by omega)), if_neg (show ¬ k = (4 : Int32) from n0 4 (by omega)), if_neg (show ¬ k = (5 : Int32) from n0 5 (by omega)), if_neg (show ¬ k = (6 : Int32) from n0 6 (by omega))]
    rw [r]
    unfold fX6_fits
    rw [if_neg (show ¬ k = (0 : Int32) from n0 0 (by omega)), if_neg (show ¬ k = (4 : Int32) from n0 4 (by omega)), if_neg (show ¬ k = (5 : Int32) from n0 5 (by omega)), b, b]
    rcases in6_01 w 0 5 with h | h <;> rw [h] <;> rfl
  · unfold fX6_fits fX6_fits_b28 fX1_isAsTold
    rw [isVar_eq, isVar_eq]
    rcases in6_01 v 0 5 with hv | hv <;> rcases in6_01 w 0 5 with hw | hw <;> rw [hv, hw] <;>
      rcases (show j = 0 ∨ j = 1 ∨ j = 2 ∨ j = 3 ∨ j = 4 ∨ j = 5 ∨ j = 6 by omega) with rfl | rfl | rfl | rfl | rfl | rfl | rfl <;> rfl
theorem fits_01 (k v w : Int32) : fX1_isAsTold k v w = some 1 ∨ fX1_isAsTold k v w = some 0 := by
  unfold fX1_isAsTold
  rcases isVar_01 v with hv | hv <;> rcases isVar_01 w with hw | hw <;> rw [hv, hw] <;>
    (repeat' split) <;> first | exact Or.inl rfl | exact Or.inr rfl
/-- what a line that was taken holds -/
def okLine (k v w : Int32) : Prop := ∃ j : Nat, j < 7 ∧ k = nI j ∧ (j ≠ 5 → ∃ x : Nat, x < 6 ∧ v = nI x) ∧ (j ≠ 0 → j ≠ 4 → j ≠ 5 → ∃ x : Nat, x < 6 ∧ w = nI x)
theorem var_ok {v : Int32} (h : fX1_isVariable v = some 1) : ∃ x : Nat, x < 6 ∧ v = nI x := by
  unfold fX1_isVariable at h
  rcases pk_ix v (n := 6) (by omega) with q | q | ⟨j, hj, q⟩
  · rw [if_pos q] at h; cases h
  · by_cases h0 : v < 0
    · rw [if_pos h0] at h; cases h
    · rw [if_neg h0, if_pos (show (6 : Int32) ≤ v from q)] at h; cases h
  · exact ⟨j, hj, q⟩
theorem fits_ok {k v w : Int32} (h : fX1_isAsTold k v w = some 1) : okLine k v w := by
  rcases pk_ix k (n := 7) (by omega) with q | q | ⟨j, hj, rfl⟩
  · exfalso
    unfold fX1_isAsTold at h
    have n0 : ∀ j : Nat, j < 7 → ¬ k = nI j := fun j hj e => by rw [e] at q; exact nI_pos (by omega) q
    rw [if_neg (show ¬ k = (0 : Int32) from n0 0 (by omega)), if_neg (show ¬ k = (1 : Int32) from n0 1 (by omega)), if_neg (show ¬ k = (2 : Int32) from n0 2 (by omega)), if_neg (show ¬ k = (3 : Int32) from n0 3 (by omega)), if_neg (show ¬ k = (4 : Int32) from n0 4 (by omega)), if_neg (show ¬ k = (5 : Int32) from n0 5 (by omega)), if_neg (show ¬ k = (6 : Int32) from n0 6 (by omega))] at h
    cases h
  · exfalso
    unfold fX1_isAsTold at h
    have n0 : ∀ j : Nat, j < 7 → ¬ k = nI j := fun j hj e => by rw [e] at q; exact nI_ge hj (by omega) q
    rw [if_neg (show ¬ k = (0 : Int32) from n0 0 (by omega)), if_neg (show ¬ k = (1 : Int32) from n0 1 (by omega)), if_neg (show ¬ k = (2 : Int32) from n0 2 (by omega)), if_neg (show ¬ k = (3 : Int32) from n0 3 (by omega)), if_neg (show ¬ k = (4 : Int32) from n0 4 (by omega)), if_neg (show ¬ k = (5 : Int32) from n0 5 (by omega)), if_neg (show ¬ k = (6 : Int32) from n0 6 (by omega))] at h
    cases h
  · have key : (j ≠ 5 → fX1_isVariable v = some 1) ∧ (j ≠ 0 → j ≠ 4 → j ≠ 5 → fX1_isVariable w = some 1) := by
      unfold fX1_isAsTold at h
      rcases isVar_01 v with hv | hv <;> rcases isVar_01 w with hw | hw <;> rw [hv, hw] at h <;> rw [hv, hw] <;>
        rcases (show j = 0 ∨ j = 1 ∨ j = 2 ∨ j = 3 ∨ j = 4 ∨ j = 5 ∨ j = 6 by omega) with rfl | rfl | rfl | rfl | rfl | rfl | rfl <;>
        first | exact ⟨fun _ => rfl, fun _ _ _ => rfl⟩ | exact ⟨fun _ => rfl, fun a b c => absurd rfl a⟩ | exact ⟨fun _ => rfl, fun a b c => absurd rfl b⟩ | exact ⟨fun a => absurd rfl a, fun a b c => absurd rfl c⟩ | (exact absurd h (by decide))
    exact ⟨j, hj, rfl, fun a => var_ok (key.1 a), fun a b c => var_ok (key.2 a b c)⟩
