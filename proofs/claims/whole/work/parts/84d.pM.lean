/-! what a line reads and writes; which two are bound -/
def wrM (k v : Int32) : Int32 := if k = 4 then 0 else if k = 5 then 0 else (1 : Int32) <<< (v &&& 31)
def rdM (k v w : Int32) : Int32 := if k = 1 then (1 : Int32) <<< (w &&& 31) else if k = 2 then ((1 : Int32) <<< (v &&& 31)) ||| ((1 : Int32) <<< (w &&& 31)) else if k = 3 then ((1 : Int32) <<< (v &&& 31)) ||| ((1 : Int32) <<< (w &&& 31)) else if k = 6 then ((1 : Int32) <<< (v &&& 31)) ||| ((1 : Int32) <<< (w &&& 31)) else if k = 4 then (1 : Int32) <<< (v &&& 31) else 0
theorem writesOf_v (k v : Int32) : fX6_writesOf k v = some (wrM k v) := by
  unfold fX6_writesOf wrM
  repeat' split
  all_goals rfl
theorem readsOf_v (k v w : Int32) : fX6_readsOf k v w = some (rdM k v w) := by
  unfold fX6_readsOf rdM
  repeat' split
  all_goals rfl
theorem has_lt {n l : Nat} (hl : l < n) (hn : n ≤ 16) : fX1_has (nI l) (nI n) = some 1 := by
  rcases has_v (nI l) (a := n) (by omega) with ⟨_, _, _, h⟩ | ⟨h, _⟩
  · exact h
  · exact absurd rfl (h l hl)
theorem kindOf_v {n l : Nat} {kd : Nat → Int32} (hl : l < n) (hn : n ≤ 16) : fX1_kindOf (nI l) (nI n) kd = some (kd l) := by
  unfold fX1_kindOf
  rw [has_lt hl hn, Option.bind_some, if_neg (by decide), ck_n (by omega) (by omega), nI_clamp (by omega)]
theorem writes_v {n l : Nat} {kd vs : Nat → Int32} (hl : l < n) (hn : n ≤ 16) : fX1_writes (nI l) (nI n) kd vs = some (wrM (kd l) (vs l)) := by
  unfold fX1_writes wrM
  rw [kindOf_v hl hn, Option.bind_some, ck_n (by omega) (by omega), nI_clamp (by omega)]
  repeat' split
  all_goals rfl
theorem reads_v {n l : Nat} {kd vs ws : Nat → Int32} (hl : l < n) (hn : n ≤ 16) : fX1_reads (nI l) (nI n) kd vs ws = some (rdM (kd l) (vs l) (ws l)) := by
  unfold fX1_reads rdM
  simp only [kindOf_v hl hn, Option.bind_some, ck_n (show l < 16 by omega) (show 16 < 2 ^ 31 by omega), nI_clamp (show l < 2 ^ 31 by omega)]
  by_cases h1 : kd l = 1
  · rw [if_pos h1, if_pos h1]
  rw [if_neg h1, if_neg h1]
  by_cases h2 : kd l = 2
  · rw [if_pos h2, if_pos h2]
  rw [if_neg h2, if_neg h2]
  by_cases h3 : kd l = 3
  · rw [if_pos h3, if_pos h3]
  rw [if_neg h3, if_neg h3]
  by_cases h4 : kd l = 4
  · rw [if_pos h4, if_neg (by rw [h4]; decide), if_pos h4]
  rw [if_neg h4]
  by_cases h5 : kd l = 5
  · rw [if_pos h5, if_neg (by rw [h5]; decide), if_neg h4]
  rw [if_neg h5]
  by_cases h6 : kd l = 6
  · rw [if_pos h6, if_pos h6]
  rw [if_neg h6, if_neg h6, if_neg h4]
/-- two lines that may not change their order -/
def tB (kd vs ws : Nat → Int32) (a b : Nat) : Bool := decide ((kd a = 4 ∧ kd b = 4) ∨ ¬ (wrM (kd a) (vs a) &&& rdM (kd b) (vs b) (ws b)) = 0 ∨ ¬ (rdM (kd a) (vs a) (ws a) &&& wrM (kd b) (vs b)) = 0 ∨ ¬ (wrM (kd a) (vs a) &&& wrM (kd b) (vs b)) = 0)
theorem tB_iff {kd vs ws : Nat → Int32} {a b : Nat} : tB kd vs ws a b = true ↔ ((kd a = 4 ∧ kd b = 4) ∨ ¬ (wrM (kd a) (vs a) &&& rdM (kd b) (vs b) (ws b)) = 0 ∨ ¬ (rdM (kd a) (vs a) (ws a) &&& wrM (kd b) (vs b)) = 0 ∨ ¬ (wrM (kd a) (vs a) &&& wrM (kd b) (vs b)) = 0) := by
  unfold tB
  exact decide_eq_true_iff
theorem and_or0 (a b c : Int32) : a &&& (b ||| c) = 0 ↔ a &&& b = 0 ∧ a &&& c = 0 := by
  rw [z_iff, z_iff, z_iff]
  constructor
  · intro h
    constructor
    · intro i hi
      have := h i hi
      rw [b_and, b_or] at this
      rw [b_and]
      cases hA : bt a i <;> cases hB : bt b i <;> simp_all
    · intro i hi
      have := h i hi
      rw [b_and, b_or] at this
      rw [b_and]
      cases hA : bt a i <;> cases hB : bt c i <;> simp_all
  · intro h i hi
    have h1 := h.1 i hi
    have h2 := h.2 i hi
    rw [b_and] at h1 h2
    rw [b_and, b_or]
    cases hA : bt a i <;> simp_all
theorem bound_v {n a b : Nat} {kd vs ws : Nat → Int32} (ha : a < n) (hb : b < n) (hn : n ≤ 16) : fX1_areBound (nI a) (nI b) (nI n) kd vs ws = some (if tB kd vs ws a b = true then 1 else 0) := by
  have key : ¬ (kd a = 4 ∧ kd b = 4) → fX1_areBound_b20 (nI a) (nI b) (nI n) kd vs ws = some (if tB kd vs ws a b = true then 1 else 0) := by
    intro h4
    unfold fX1_areBound_b20
    rw [writes_v ha hn, Option.bind_some, writes_v hb hn, Option.bind_some, reads_v hb hn, Option.bind_some, reads_v ha hn, Option.bind_some]
    by_cases h1 : (wrM (kd a) (vs a) &&& (rdM (kd b) (vs b) (ws b) ||| wrM (kd b) (vs b))) = 0
    · rw [if_pos h1]
      have h2 := (and_or0 _ _ _).mp h1
      by_cases h3 : (rdM (kd a) (vs a) (ws a) &&& wrM (kd b) (vs b)) = 0
      · rw [if_pos h3, if_neg]
        intro q
        rcases tB_iff.mp q with q | q | q | q
        · exact h4 q
        · exact q h2.1
        · exact q h3
        · exact q h2.2
      · rw [if_neg h3, if_pos (tB_iff.mpr (Or.inr (Or.inr (Or.inl h3))))]
    · rw [if_neg h1, if_pos]
      apply tB_iff.mpr
      by_cases h2 : (wrM (kd a) (vs a) &&& rdM (kd b) (vs b) (ws b)) = 0
      · exact Or.inr (Or.inr (Or.inr (fun h3 => h1 ((and_or0 _ _ _).mpr ⟨h2, h3⟩))))
      · exact Or.inr (Or.inl h2)
  unfold fX1_areBound
  rw [kindOf_v ha hn, Option.bind_some, kindOf_v hb hn, Option.bind_some]
  by_cases h1 : kd a = 4
  · rw [if_pos h1]
    by_cases h2 : kd b = 4
    · rw [if_pos h2]
      have : tB kd vs ws a b = true := by unfold tB; exact decide_eq_true (Or.inl ⟨h1, h2⟩)
      rw [if_pos this]
    · rw [if_neg h2]
      exact key (fun q => h2 q.2)
  · rw [if_neg h1]
    exact key (fun q => h1 q.1)
theorem touch_v {a b : Nat} {kd vs ws : Nat → Int32} (ha : a < 16) (hb : b < 16) : fX6_touches (nI a) (nI b) kd vs ws = some (if tB kd vs ws a b = true then 1 else 0) := by
  have k16 : (16 : Nat) < 2 ^ 31 := by omega
  have key : ¬ (kd a = 4 ∧ kd b = 4) → fX6_touches_b58 (nI a) (nI b) (wrM (kd a) (vs a)) (wrM (kd b) (vs b)) 0 kd vs ws = some (if tB kd vs ws a b = true then 1 else 0) := by
    intro h4
    unfold fX6_touches_b58
    simp only [ck_n ha k16, ck_n hb k16, nI_clamp (show a < 2 ^ 31 by omega), nI_clamp (show b < 2 ^ 31 by omega), readsOf_v, Option.bind_some]
    rw [if_pos trivial]
    by_cases h1 : (wrM (kd a) (vs a) &&& rdM (kd b) (vs b) (ws b)) = 0
    · rw [if_pos h1]
      by_cases h3 : (rdM (kd a) (vs a) (ws a) &&& wrM (kd b) (vs b)) = 0
      · rw [if_pos h3]
        by_cases h2 : (wrM (kd a) (vs a) &&& wrM (kd b) (vs b)) = 0
        · rw [if_pos h2, if_neg]
          intro q
          rcases tB_iff.mp q with q | q | q | q
          · exact h4 q
          · exact q h1
          · exact q h3
          · exact q h2
        · rw [if_neg h2, if_pos (tB_iff.mpr (Or.inr (Or.inr (Or.inr h2))))]
      · rw [if_neg h3, if_pos (tB_iff.mpr (Or.inr (Or.inr (Or.inl h3))))]
    · rw [if_neg h1, if_pos (tB_iff.mpr (Or.inr (Or.inl h1)))]
  unfold fX6_touches
  simp only [ck_n ha k16, ck_n hb k16, nI_clamp (show a < 2 ^ 31 by omega), nI_clamp (show b < 2 ^ 31 by omega), writesOf_v, Option.bind_some]
  by_cases h1 : kd a = 4
  · rw [if_pos h1]
    by_cases h2 : kd b = 4
    · rw [if_pos h2]
      have : tB kd vs ws a b = true := by unfold tB; exact decide_eq_true (Or.inl ⟨h1, h2⟩)
      rw [if_pos this]
      rfl
    · rw [if_neg h2]
      exact key (fun q => h2 q.2)
  · rw [if_neg h1]
    exact key (fun q => h1 q.1)
/-! the class: a line joins the model -/
def jm (T : Nat → Bool) (ah : Nat → Int32) : Nat → Int32
  | 0 => 0
  | r + 1 => if T r = true then jm T ah r ||| (ah r ||| nI (2 ^ r)) else jm T ah r
theorem join_loop {n k l : Nat} {kd vs ws num rk ah : Nat → Int32} {ln : Nat → Nat} {wc : Int32} (hn : n ≤ 16) (hk : k < 12) (hl : l < n) (hnum : ∀ r, r < k → num r = nI (ln r) ∧ ln r < n) :
    ∀ (f d r : Nat), r + d = k → d < f → fX4_join_h25 f (nI l) (jm (fun r => tB kd vs ws (ln r) l) ah r) (nI r) (nI n) kd vs ws (nI k) wc num rk ah = some (nI (k + 1), 0, upd num k (nI l), upd rk l (nI k), upd ah k (jm (fun r => tB kd vs ws (ln r) l) ah k)) := by
  intro f
  induction f with
  | zero => intro d r _ h; omega
  | succ f ih =>
    intro d r hr hd
    show uX4_join_h25 (fX4_join_h25 f) (nI l) _ (nI r) (nI n) kd vs ws (nI k) wc num rk ah = _
    unfold uX4_join_h25
    cases d with
    | zero =>
      obtain rfl : r = k := by omega
      rw [if_pos (nI_le (by omega) (by omega)), ck_n (by omega) (by omega), ck_n (by omega) (by omega), ck_n (by omega) (by omega), nI_clamp (by omega), nI_clamp (by omega), nI_1]
    | succ d =>
      obtain ⟨e1, e2⟩ := hnum r (by omega)
      rw [if_neg (nI_ge (by omega) (by omega)), ck_n (by omega) (by omega), nI_clamp (by omega), e1, bound_v e2 hl hn, Option.bind_some, ck_n (by omega) (by omega), nI_1, nI_pow r (by omega)]
      have h2 := ih d (r + 1) (by omega) (by omega)
      rw [show jm (fun r => tB kd vs ws (ln r) l) ah (r + 1) = if tB kd vs ws (ln r) l = true then jm (fun r => tB kd vs ws (ln r) l) ah r ||| (ah r ||| nI (2 ^ r)) else jm (fun r => tB kd vs ws (ln r) l) ah r from rfl] at h2
      by_cases ht : tB kd vs ws (ln r) l = true
      · rw [if_pos ht] at h2
        rw [if_pos ht, if_neg (by decide)]
        exact h2
      · rw [if_neg ht] at h2
        rw [if_neg ht, if_pos rfl]
        exact h2
theorem join_v {n k l : Nat} {kd vs ws num rk ah : Nat → Int32} {ln : Nat → Nat} {wc : Int32} (hn : n ≤ 16) (hk : k < 12) (hl : l < n) (hnum : ∀ r, r < k → num r = nI (ln r) ∧ ln r < n) :
    fX4_join (nI l) (nI n) kd vs ws (nI k) wc num rk ah = some (nI (k + 1), 0, upd num k (nI l), upd rk l (nI k), upd ah k (jm (fun r => tB kd vs ws (ln r) l) ah k)) := by
  unfold fX4_join
  rw [if_neg (show ¬ (12 : Int32) ≤ nI k from nI_ge (b := 12) hk (by omega)), if_neg (nI_pos (by omega)), if_pos (show nI l < (16 : Int32) from nI_lt (b := 16) (by omega) (by omega))]
  exact join_loop (f := FU) hn hk hl hnum k 0 (by omega) (by rw [FU_eq]; omega)
theorem jm_bt (T : Nat → Bool) (ah : Nat → Int32) : ∀ (k i : Nat), k ≤ 12 → i < 32 → (bt (jm T ah k) i = true ↔ ∃ s, s < k ∧ T s = true ∧ (i = s ∨ bt (ah s) i = true))
  | 0, i, _, _ => by
    show bt 0 i = true ↔ _
    rw [b_0]
    constructor
    · intro h; cases h
    · rintro ⟨s, h, _⟩; omega
  | k + 1, i, hk, hi => by
    have ih := jm_bt T ah k i (by omega) hi
    show bt (if T k = true then jm T ah k ||| (ah k ||| nI (2 ^ k)) else jm T ah k) i = true ↔ _
    by_cases hT : T k = true
    · rw [if_pos hT, b_or, b_or, bt_pow (by omega) hi, Bool.or_eq_true, Bool.or_eq_true, ih, decide_eq_true_iff]
      constructor
      · rintro (⟨s, h1, h2, h3⟩ | h | h)
        · exact ⟨s, by omega, h2, h3⟩
        · exact ⟨k, by omega, hT, Or.inr h⟩
        · exact ⟨k, by omega, hT, Or.inl h.symm⟩
      · rintro ⟨s, h1, h2, h3⟩
        by_cases e : s = k
        · subst e
          rcases h3 with h3 | h3
          · exact Or.inr (Or.inr h3.symm)
          · exact Or.inr (Or.inl h3)
        · exact Or.inl ⟨s, by omega, h2, h3⟩
    · rw [if_neg hT, ih]
      constructor
      · rintro ⟨s, h1, h2, h3⟩
        exact ⟨s, by omega, h2, h3⟩
      · rintro ⟨s, h1, h2, h3⟩
        by_cases e : s = k
        · subst e; exact absurd h2 hT
        · exact ⟨s, by omega, h2, h3⟩
