/-! the answer's row -/
theorem e_placeOf_h : ∀ n, fX6_placeOf_h2 n = fX0_placeOf_h2 n
  | 0 => rfl
  | n + 1 => by
    show uX6_placeOf_h2 (fX6_placeOf_h2 n) = uX0_placeOf_h2 (fX0_placeOf_h2 n)
    rw [e_placeOf_h n]; rfl
theorem e_placeOf (x a : Int32) (row : Nat → Int32) : fX6_placeOf x a row = fX0_placeOf x a row := by
  unfold fX6_placeOf fX0_placeOf; rw [e_placeOf_h]
theorem e_insert_h : ∀ n, fX6_insert_h5 n = fX0_insert_h27 n
  | 0 => rfl
  | n + 1 => by
    show uX6_insert_h5 (fX6_insert_h5 n) = uX0_insert_h27 (fX0_insert_h27 n)
    rw [e_insert_h n]; rfl
theorem e_remove_h : ∀ (n : Nat) (x2 x3 a : Int32) (row : Nat → Int32), fX6_remove_h9 n x2 x3 a row = fX0_remove_h29 n x2 x3 (a - 1) row
  | 0, _, _, _, _ => rfl
  | n + 1, x2, x3, a, row => by
    show uX6_remove_h9 (fX6_remove_h9 n) x2 x3 a row = uX0_remove_h29 (fX0_remove_h29 n) x2 x3 (a - 1) row
    unfold uX6_remove_h9 uX0_remove_h29
    rw [e_remove_h n]
/-- where a line is, from place i on, d places to look at -/
def pl (row : Nat → Int32) (x : Int32) : Nat → Nat → Int32
  | _, 0 => -1
  | i, d + 1 => if row i = x then nI i else pl row x (i + 1) d
theorem placeOf_loop {row : Nat → Int32} {x : Int32} {a : Nat} (ha : a ≤ 16) : ∀ (n d i : Nat), i + d = a → d < n → fX0_placeOf_h2 n x (nI i) (nI a) row = some (pl row x i d) := by
  intro n
  induction n with
  | zero => intro d i _ h; omega
  | succ n ih =>
    intro d i hi hd
    show uX0_placeOf_h2 (fX0_placeOf_h2 n) x (nI i) (nI a) row = _
    unfold uX0_placeOf_h2
    cases d with
    | zero => rw [if_pos (nI_le (by omega) (by omega))]; rfl
    | succ d =>
      rw [if_neg (nI_ge (by omega) (by omega)), ck_n (by omega) (by omega), nI_clamp (by omega), nI_1, ih d (i + 1) (by omega) (by omega)]
      show _ = some (if row i = x then nI i else pl row x (i + 1) d)
      split <;> rfl
theorem placeOf_v {row : Nat → Int32} {x : Int32} {a : Nat} (ha : a ≤ 16) : fX0_placeOf x (nI a) row = some (pl row x 0 a) := by
  unfold fX0_placeOf
  exact placeOf_loop ha FU a 0 (by omega) (by rw [FU_eq]; omega)
theorem pl_none {row : Nat → Int32} {x : Int32} : ∀ (d i : Nat), i + d < 2 ^ 31 → (pl row x i d = -1 ↔ ∀ j, i ≤ j → j < i + d → ¬ row j = x)
  | 0, i, _ => ⟨fun _ j h1 h2 => by omega, fun _ => rfl⟩
  | d + 1, i, h => by
    show (if row i = x then nI i else pl row x (i + 1) d) = -1 ↔ _
    by_cases e : row i = x
    · rw [if_pos e]
      exact ⟨fun q => absurd q (ne_m1 (by omega)), fun q => absurd e (q i (by omega) (by omega))⟩
    · rw [if_neg e, pl_none d (i + 1) (by omega)]
      constructor
      · intro q j h1 h2
        by_cases hj : j = i
        · rw [hj]; exact e
        · exact q j (by omega) (by omega)
      · intro q j h1 h2
        exact q j (by omega) (by omega)
theorem pl_some {row : Nat → Int32} {x : Int32} : ∀ (d i : Nat), pl row x i d = -1 ∨ ∃ j, i ≤ j ∧ j < i + d ∧ pl row x i d = nI j ∧ row j = x
  | 0, i => Or.inl rfl
  | d + 1, i => by
    show (if row i = x then nI i else pl row x (i + 1) d) = -1 ∨ ∃ j, i ≤ j ∧ j < i + (d + 1) ∧ (if row i = x then nI i else pl row x (i + 1) d) = nI j ∧ row j = x
    by_cases e : row i = x
    · rw [if_pos e]
      exact Or.inr ⟨i, by omega, by omega, rfl, e⟩
    · rw [if_neg e]
      rcases pl_some d (i + 1) with h | ⟨j, h1, h2, h3, h4⟩
      · exact Or.inl h
      · exact Or.inr ⟨j, by omega, by omega, h3, h4⟩
/-- rows behind an insertion, behind a removal -/
def sh (row : Nat → Int32) (i a : Nat) : Nat → Int32 := fun j => if i < j ∧ j ≤ a then row (j - 1) else row j
def ins (row : Nat → Int32) (p a : Nat) (x : Int32) : Nat → Int32 := fun j => if j = p then x else if p < j ∧ j ≤ a then row (j - 1) else row j
def rem (row : Nat → Int32) (p a : Nat) : Nat → Int32 := fun j => if p ≤ j ∧ j < a then row (j + 1) else row j
theorem insert_loop {row : Nat → Int32} {x : Int32} {a p : Nat} (ha : a < 16) : ∀ (n d : Nat), d < n → p + d ≤ a → fX0_insert_h27 n x (nI p) (nI (p + d)) (nI a) (sh row (p + d) a) = some (nI (a + 1), ins row p a x) := by
  intro n
  induction n with
  | zero => intro d h; omega
  | succ n ih =>
    intro d hd hp
    show uX0_insert_h27 (fX0_insert_h27 n) x (nI p) (nI (p + d)) (nI a) (sh row (p + d) a) = _
    unfold uX0_insert_h27
    cases d with
    | zero =>
      rw [if_pos (nI_le (by omega) (by omega)), ck_n (by omega) (by omega), nI_clamp (by omega), nI_1]
      refine congrArg (fun f => some (nI (a + 1), f)) (funext fun j => ?_)
      show (if j = p then x else sh row (p + 0) a j) = ins row p a x j
      unfold sh ins
      rfl
    | succ d =>
      rw [if_neg (nI_ge (by omega) (by omega)), show p + (d + 1) = (p + d) + 1 by omega, nI_pred, pk_m1, ck_n (by omega) (by omega), ck_n (by omega) (by omega), nI_clamp (by omega), nI_clamp (by omega)]
      rw [show upd (sh row (p + d + 1) a) (p + d + 1) (sh row (p + d + 1) a (p + d)) = sh row (p + d) a from funext fun j => ?_]
      · exact ih d (by omega) (by omega)
      · unfold upd sh
        by_cases h1 : j = p + d + 1
        · subst h1
          rw [if_pos rfl, if_neg (by omega), if_pos ⟨by omega, by omega⟩]
          rfl
        · rw [if_neg h1]
          by_cases h2 : p + d < j ∧ j ≤ a
          · rw [if_pos h2, if_pos ⟨by omega, h2.2⟩]
          · rw [if_neg h2, if_neg (by omega)]
theorem insert_v {row : Nat → Int32} {x : Int32} {a p : Nat} (ha : a < 16) (hp : p ≤ a) : fX0_insert x (nI p) (nI a) row = some (nI (a + 1), ins row p a x) := by
  unfold fX0_insert
  rw [if_neg (show ¬ (16 : Int32) ≤ nI a from nI_ge (b := 16) (by omega) (by omega)), if_neg (nI_pos (by omega)), if_pos (nI_le (by omega) (by omega))]
  have h := insert_loop (row := row) (x := x) (p := p) ha FU (a - p) (by rw [FU_eq]; omega) (by omega)
  rw [show p + (a - p) = a by omega] at h
  rw [show sh row a a = row from funext fun j => by unfold sh; rw [if_neg (by omega)]] at h
  exact h
theorem insert6_v {row : Nat → Int32} {x : Int32} {a p : Nat} (ha : a < 16) (hp : p ≤ a) : fX6_insert x (nI p) (nI a) row = some (nI (a + 1), ins row p a x) := by
  rw [← insert_v ha hp]
  unfold fX6_insert fX0_insert
  rw [if_neg (show ¬ (16 : Int32) ≤ nI a from nI_ge (b := 16) (by omega) (by omega)), if_neg (nI_pos (by omega)), if_pos (nI_le (by omega) (by omega)), e_insert_h]
theorem remove_loop {row : Nat → Int32} {x : Int32} {a p : Nat} (ha : a < 16) : ∀ (n d i : Nat), d < n → i + d = a → p ≤ i → fX0_remove_h29 n x (nI i) (nI a) (rem row p i) = some (x, nI a, rem row p a) := by
  intro n
  induction n with
  | zero => intro d i h; omega
  | succ n ih =>
    intro d i hd hi hp
    show uX0_remove_h29 (fX0_remove_h29 n) x (nI i) (nI a) (rem row p i) = _
    unfold uX0_remove_h29
    cases d with
    | zero =>
      rw [if_pos (nI_le (by omega) (by omega))]
      obtain rfl : i = a := by omega
      rfl
    | succ d =>
      rw [if_neg (nI_ge (by omega) (by omega)), nI_1, ck_n (by omega) (by omega), ck_n (by omega) (by omega), nI_clamp (by omega), nI_clamp (by omega)]
      rw [show upd (rem row p i) i (rem row p i (i + 1)) = rem row p (i + 1) from funext fun j => ?_]
      · exact ih d (i + 1) (by omega) (by omega) (by omega)
      · unfold upd rem
        by_cases h1 : j = i
        · subst h1
          rw [if_pos rfl, if_neg (by omega), if_pos ⟨by omega, by omega⟩]
        · rw [if_neg h1]
          by_cases h2 : p ≤ j ∧ j < i + 1
          · rw [if_pos h2, if_pos ⟨h2.1, by omega⟩]
          · rw [if_neg h2, if_neg (by omega)]
theorem hasPlace_v (x : Int32) {a : Nat} (ha : a < 2 ^ 31) : (∃ j, j < a ∧ x = nI j ∧ fX0_hasPlace x (nI a) = some 1) ∨ ((∀ j, j < a → ¬ x = nI j) ∧ fX0_hasPlace x (nI a) = some 0) := by
  unfold fX0_hasPlace
  rcases pk_ix x ha with h | h | ⟨j, hj, rfl⟩
  · refine Or.inr ⟨fun j hj e => ?_, by rw [if_pos h]⟩
    rw [e] at h
    exact nI_pos (by omega) h
  · refine Or.inr ⟨fun j hj e => ?_, ?_⟩
    · rw [e] at h
      exact nI_ge hj ha h
    · by_cases h0 : x < 0
      · rw [if_pos h0]
      · rw [if_neg h0, if_pos h]
  · exact Or.inl ⟨j, hj, rfl, by rw [if_neg (nI_pos (by omega)), if_neg (nI_ge hj ha)]⟩
theorem remove_v {row : Nat → Int32} {a p : Nat} (ha : a < 16) (hp : p < a + 1) : fX0_remove (nI p) (nI (a + 1)) row = some (row p, nI a, rem row p a) := by
  unfold fX0_remove
  rcases hasPlace_v (nI p) (a := a + 1) (by omega) with ⟨j, hj, e, h⟩ | ⟨h, -⟩
  · rw [h, Option.bind_some, if_neg (by decide), ck_n (by omega) (by omega), nI_clamp (by omega), nI_pred]
    have h2 := remove_loop (row := row) (x := row p) (p := p) ha FU (a - p) p (by rw [FU_eq]; omega) (by omega) (by omega)
    rw [show rem row p p = row from funext fun j => by unfold rem; rw [if_neg (by omega)]] at h2
    exact h2
  · exact absurd rfl (h p hp)
theorem remove6_v {row : Nat → Int32} {a p : Nat} (ha : a < 16) (hp : p < a + 1) : fX6_remove (nI p) (nI (a + 1)) row = some (row p, nI a, rem row p a) := by
  unfold fX6_remove
  rw [ck_n (by omega) (by omega), nI_clamp (by omega), e_remove_h, nI_pred]
  have h2 := remove_loop (row := row) (x := row p) (p := p) ha FU (a - p) p (by rw [FU_eq]; omega) (by omega) (by omega)
  rw [show rem row p p = row from funext fun j => by unfold rem; rw [if_neg (by omega)]] at h2
  exact h2
