/-! ranks, clashes, changes -/
def RowIn (n a : Nat) (row : Nat → Int32) : Prop := ∀ i, i < a → ∃ l, l < n ∧ row i = nI l
def RowDi (a : Nat) (row : Nat → Int32) : Prop := ∀ i j, i < j → j < a → ¬ row i = row j
def NumOK (n k : Nat) (rl mr num : Nat → Int32) : Prop := ∀ r, r < k → ∃ l, l < n ∧ num r = nI l ∧ rl l = 0 ∧ mr l = nI r
def MtOK (n : Nat) (rl mt : Nat → Int32) : Prop := ∀ l, l < n → rl l = 2 → ∃ p, p < n ∧ mt l = nI p ∧ rl p = 0 ∧ mt p = nI l
def tkI (a : Nat) (rl mt mr row : Nat → Int32) : Nat → Int32 := fun i => if rl (row i).toNatClampNeg = 2 ∧ pl row (mt (row i).toNatClampNeg) 0 a = -1 then mr (mt (row i).toNatClampNeg).toNatClampNeg else mr (row i).toNatClampNeg
theorem roleOf_v {n l : Nat} {rl : Nat → Int32} (hl : l < n) (hn : n ≤ 16) : fX1_roleOf (nI l) (nI n) rl = some (rl l) := by
  unfold fX1_roleOf
  rcases has_v (nI l) (a := n) (by omega) with ⟨j, hj, e, h⟩ | ⟨h, -⟩
  · rw [h, Option.bind_some, if_neg (by decide), ck_n (by omega) (by omega), nI_clamp (by omega)]
  · exact absurd rfl (h l hl)
theorem mateOf_v {n l : Nat} {mt : Nat → Int32} (hl : l < n) (hn : n ≤ 16) : fX1_mateOf (nI l) (nI n) mt = some (mt l) := by
  unfold fX1_mateOf
  rcases has_v (nI l) (a := n) (by omega) with ⟨j, hj, e, h⟩ | ⟨h, -⟩
  · rw [h, Option.bind_some, if_neg (by decide), ck_n (by omega) (by omega), nI_clamp (by omega)]
  · exact absurd rfl (h l hl)
theorem holds_v {row : Nat → Int32} {x : Int32} {a : Nat} (ha : a ≤ 16) : fX0_holds x (nI a) row = some (if pl row x 0 a = -1 then 0 else 1) := by
  unfold fX0_holds
  rw [placeOf_v ha, Option.bind_some]
  split <;> rfl
theorem e02 : ¬ (0 : Int32) = 2 := by decide
theorem isAhead_v {k r q : Nat} {ah : Nat → Int32} (hk : k ≤ 12) (hr : r < k) (hq : q < k) : fX4_isAhead (nI q) (nI r) (nI k) ah = some (if bt (ah r) q = true then 1 else 0) := by
  unfold fX4_isAhead
  rw [if_neg (nI_pos (by omega)), if_neg (nI_ge hq (by omega)), if_neg (nI_pos (by omega)), if_neg (nI_ge hr (by omega)), ck_n (by omega) (by omega), nI_clamp (by omega), shr_bit _ (by omega)]
  by_cases h : bt (ah r) q = true
  · rw [if_pos h, if_neg (by decide)]
  · rw [if_neg h, if_pos rfl]
theorem m1_lt : ((-1 : Int32) < 0) := by decide
theorem isAhead_l {x k : Int32} {ah : Nat → Int32} : fX4_isAhead (-1) x k ah = some 0 := by
  unfold fX4_isAhead
  rw [if_pos m1_lt]
theorem isAhead_r {q k : Nat} {ah : Nat → Int32} (hk : k ≤ 12) (hq : q < k) : fX4_isAhead (nI q) (-1) (nI k) ah = some 0 := by
  unfold fX4_isAhead
  rw [if_neg (nI_pos (by omega)), if_neg (nI_ge hq (by omega)), if_pos m1_lt]
section MARK
variable {n k a : Nat} {rl mt mr fr num row ah : Nat → Int32}
theorem tk_cases (hn : n ≤ 16) (ha : a ≤ 16) (hrow : RowIn n a row) (hrk : RkOK n k rl mr fr num) (hmt : MtOK n rl mt) {i : Nat} (hi : i < a) :
    ∃ l, l < n ∧ row i = nI l ∧ ((rl l = 0 ∧ ∃ r, r < k ∧ tkI a rl mt mr row i = nI r ∧ num r = nI l ∧ fr l = nI r) ∨ (rl l = 2 ∧ ∃ p r, p < n ∧ r < k ∧ mt l = nI p ∧ mt p = nI l ∧ rl p = 0 ∧ pl row (nI p) 0 a = -1 ∧ tkI a rl mt mr row i = nI r ∧ num r = nI p ∧ fr p = nI r) ∨ (rl l = 2 ∧ ∃ p, p < n ∧ mt l = nI p ∧ ¬ pl row (nI p) 0 a = -1 ∧ tkI a rl mt mr row i = -1) ∨ (¬ rl l = 0 ∧ ¬ rl l = 2 ∧ tkI a rl mt mr row i = -1)) := by
  obtain ⟨l, hl, e⟩ := hrow i hi
  have ec : (row i).toNatClampNeg = l := by rw [e, nI_clamp (by omega)]
  refine ⟨l, hl, e, ?_⟩
  unfold tkI
  rw [ec]
  rcases hrk l hl with ⟨h0, r, hr, h1, h2, h3⟩ | ⟨h0, h1⟩
  · refine Or.inl ⟨h0, r, hr, ?_, h3, h2⟩
    rw [if_neg (by rw [h0]; rintro ⟨q, _⟩; exact e02 q), h1]
  · by_cases h2 : rl l = 2
    · obtain ⟨p, hp, m1, m2, m3⟩ := hmt l hl h2
      rw [m1, nI_clamp (by omega)]
      by_cases hpl : pl row (nI p) 0 a = -1
      · rw [if_pos ⟨h2, hpl⟩]
        rcases hrk p hp with ⟨_, r, hr, g1, g2, g3⟩ | ⟨g0, _⟩
        · exact Or.inr (Or.inl ⟨h2, p, r, hp, hr, rfl, m3, m2, hpl, g1, g3, g2⟩)
        · exact absurd m2 g0
      · rw [if_neg (fun q => hpl q.2)]
        exact Or.inr (Or.inr (Or.inl ⟨h2, p, hp, rfl, hpl, h1⟩))
    · rw [if_neg (fun q => h2 q.1)]
      exact Or.inr (Or.inr (Or.inr ⟨h0, h2, h1⟩))
theorem takenFor_v (hn : n ≤ 16) (ha : a ≤ 16) (hrow : RowIn n a row) (hrk : RkOK n k rl mr fr num) (hmt : MtOK n rl mt) {i : Nat} (hi : i < a) : fX6_takenFor (nI i) (nI a) rl mt fr row = some (tkI a rl mt mr row i) := by
  obtain ⟨l, hl, e, hc⟩ := tk_cases hn ha hrow hrk hmt hi
  unfold fX6_takenFor
  rw [ck_n (by omega) (by omega), nI_clamp (by omega), e, nI_clamp (by omega), ck_n (by omega) (by omega), ck_n (by omega) (by omega), ck_n (by omega) (by omega), ck_n (by omega) (by omega)]
  rcases hc with ⟨h0, r, _, h1, _, h2⟩ | ⟨h0, p, r, hp, _, m1, _, m2, m3, h1, _, h2⟩ | ⟨h0, p, hp, m1, m3, h1⟩ | ⟨h0, h2, h1⟩
  · rw [if_pos h0, h1, h2]
  · rw [if_neg (by rw [h0]; decide), if_pos h0, m1, e_placeOf, placeOf_v ha, Option.bind_some, if_pos m3, nI_clamp (by omega), ck_n (by omega) (by omega), ck_n (by omega) (by omega), h1, h2]
  · rw [if_neg (by rw [h0]; decide), if_pos h0, m1, e_placeOf, placeOf_v ha, Option.bind_some, if_neg m3, h1]
  · rw [if_neg h0, if_neg h2, h1]
theorem ranks_step (hn : n ≤ 16) (ha : a ≤ 16) (hrow : RowIn n a row) (hrk : RkOK n k rl mr fr num) (hmt : MtOK n rl mt) {i : Nat} (hi : i < a) (K : Nat → Int32) (k2 : Int32 → (Nat → Int32) → Int32 → (Nat → Int32) → (Nat → Int32) → (Nat → Int32) → Int32 → (Nat → Int32) → Option (Nat → Int32)) :
    uX3_findRanks_h2 k2 (nI i) K (nI n) rl mt mr (nI a) row = k2 (nI (i + 1)) (upd K i (tkI a rl mt mr row i)) (nI n) rl mt mr (nI a) row := by
  obtain ⟨l, hl, e, hc⟩ := tk_cases hn ha hrow hrk hmt hi
  have ec : (row i).toNatClampNeg = l := by rw [e, nI_clamp (by omega)]
  unfold uX3_findRanks_h2
  rw [if_neg (nI_ge hi (by omega)), lineAt_v hi ha, Option.bind_some, e, mateOf_v hl hn, Option.bind_some, roleOf_v hl hn, Option.bind_some]
  by_cases h2 : rl l = 2
  · rw [if_pos h2, holds_v ha, Option.bind_some]
    obtain ⟨p, hp, m1, m2, m3⟩ := hmt l hl h2
    rw [m1]
    by_cases hpl : pl row (nI p) 0 a = -1
    · rw [if_pos hpl, if_pos rfl]
      unfold fX3_findRanks_b59
      rw [if_neg (by decide), rankOf_v (by omega), Option.bind_some, ck_n (by omega) (by omega), nI_clamp (by omega), nI_1]
      congr 1
      congr 1
      unfold tkI
      rw [ec, m1, if_pos ⟨h2, hpl⟩, nI_clamp (by omega)]
    · rw [if_neg hpl, if_neg (by decide)]
      unfold fX3_findRanks_b59
      rw [if_pos rfl, rankOf_v (by omega), Option.bind_some, ck_n (by omega) (by omega), nI_clamp (by omega), nI_1]
      congr 1
      congr 1
      unfold tkI
      rw [ec, m1, if_neg (fun q => hpl q.2)]
  · rw [if_neg h2]
    unfold fX3_findRanks_b59
    rw [if_pos rfl, rankOf_v (by omega), Option.bind_some, ck_n (by omega) (by omega), nI_clamp (by omega), nI_1]
    congr 1
    congr 1
    unfold tkI
    rw [ec, if_neg (fun q => h2 q.1)]
theorem ranks_loop (hn : n ≤ 16) (ha : a ≤ 16) (hrow : RowIn n a row) (hrk : RkOK n k rl mr fr num) (hmt : MtOK n rl mt) : ∀ (f d i : Nat) (K : Nat → Int32), i + d = a → d < f → (∀ j, j < i → K j = tkI a rl mt mr row j) → ∃ K', (∀ j, j < a → K' j = tkI a rl mt mr row j) ∧ fX3_findRanks_h2 f (nI i) K (nI n) rl mt mr (nI a) row = some K' := by
  intro f
  induction f with
  | zero => intro d i K _ h; omega
  | succ f ih =>
    intro d i K hi hd hK
    have step : fX3_findRanks_h2 (f + 1) (nI i) K (nI n) rl mt mr (nI a) row = uX3_findRanks_h2 (fX3_findRanks_h2 f) (nI i) K (nI n) rl mt mr (nI a) row := rfl
    rw [step]
    cases d with
    | zero =>
      obtain rfl : i = a := by omega
      refine ⟨K, hK, ?_⟩
      unfold uX3_findRanks_h2
      rw [if_pos (nI_le (by omega) (by omega))]
    | succ d =>
      rw [ranks_step hn ha hrow hrk hmt (by omega)]
      refine ih d (i + 1) _ (by omega) (by omega) (fun j hj => ?_)
      by_cases e : j = i
      · subst e; rw [upd_s]
      · rw [upd_n e]; exact hK j (by omega)
theorem findRanks_v (hn : n ≤ 16) (ha : a ≤ 16) (hrow : RowIn n a row) (hrk : RkOK n k rl mr fr num) (hmt : MtOK n rl mt) (K : Nat → Int32) : ∃ K', (∀ j, j < a → K' j = tkI a rl mt mr row j) ∧ fX3_findRanks K (nI n) rl mt mr (nI a) row = some K' :=
  ranks_loop hn ha hrow hrk hmt FU a 0 K (by omega) (by rw [FU_eq]; omega) (fun j hj => by omega)
/-- values that are -1 or ranks -/
def RVal (k a : Nat) (R : Nat → Int32) : Prop := ∀ i, i < a → R i = -1 ∨ ∃ r, r < k ∧ R i = nI r
def clB (ah R : Nat → Int32) (i j : Nat) : Bool := decide (¬ R i = -1) && (decide (¬ R j = -1) && bt (ah (R i).toNatClampNeg) (R j).toNatClampNeg)
theorem isAhead_R (hk : k ≤ 12) {R : Nat → Int32} (hR : RVal k a R) {i j : Nat} (hi : i < a) (hj : j < a) : fX4_isAhead (R j) (R i) (nI k) ah = some (if clB ah R i j = true then 1 else 0) := by
  unfold clB
  rcases hR j hj with q | ⟨r, hr, q⟩
  · rw [q, isAhead_l]
    simp
  · rcases hR i hi with q' | ⟨r', hr', q'⟩
    · rw [q, q', isAhead_r hk hr]
      simp
    · rw [q, q', isAhead_v hk hr' hr, nI_clamp (by omega), nI_clamp (by omega), decide_eq_true (ne_m1 (by omega)), decide_eq_true (ne_m1 (by omega)), Bool.true_and, Bool.true_and]
theorem clash19 (hk : k ≤ 12) (ha : a ≤ 16) {R : Nat → Int32} (hR : RVal k a R) {i : Nat} (hi : i < a) {CL : Nat → Int32} (k2 : Int32 → (Nat → Int32) → (Nat → Int32) → Int32 → (Nat → Int32) → Int32 → Option (Nat → Int32)) : ∀ (f d j : Nat) (m : Int32), j + d = a → d < f → ∃ m', (∀ b, b < 32 → bt m' b = (bt m b || (decide (j ≤ b) && (decide (b < a) && clB ah R i b)))) ∧ fX3_findClashes_h19 k2 f (nI i) m (nI j) R CL (nI k) ah (nI a) = k2 (nI (i + 1)) R (upd CL i m') (nI k) ah (nI a) := by
  intro f
  induction f with
  | zero => intro d j m _ h; omega
  | succ f ih =>
    intro d j m hj hd
    have step : fX3_findClashes_h19 k2 (f + 1) (nI i) m (nI j) R CL (nI k) ah (nI a) = uX3_findClashes_h19 k2 (fX3_findClashes_h19 k2 f) (nI i) m (nI j) R CL (nI k) ah (nI a) := rfl
    rw [step]
    unfold uX3_findClashes_h19
    cases d with
    | zero =>
      refine ⟨m, fun b hb => ?_, ?_⟩
      · have : (decide (j ≤ b) && (decide (b < a) && clB ah R i b)) = false := by
          by_cases h : j ≤ b
          · rw [decide_eq_false (show ¬ b < a by omega), Bool.false_and, Bool.and_false]
          · rw [decide_eq_false h, Bool.false_and]
        rw [this, Bool.or_false]
      · rw [if_pos (nI_le (by omega) (by omega)), ck_n (by omega) (by omega), nI_clamp (by omega), nI_1]
    | succ d =>
      rw [if_neg (nI_ge (by omega) (by omega)), ck_n (by omega) (by omega), ck_n (by omega) (by omega), nI_clamp (by omega), nI_clamp (by omega), isAhead_R hk hR hi (by omega), Option.bind_some, nI_1, nI_pow j (by omega)]
      by_cases hc : clB ah R i j = true
      · rw [if_pos hc, if_neg (by decide)]
        obtain ⟨m', g1, g2⟩ := ih d (j + 1) (m ||| nI (2 ^ j)) (by omega) (by omega)
        refine ⟨m', fun b hb => ?_, g2⟩
        rw [g1 b hb, b_or, bt_pow (by omega) hb]
        by_cases e : b = j
        · subst e
          rw [decide_eq_true (show b ≤ b by omega), decide_eq_true (show b < a by omega), hc]
          simp
        · rw [decide_eq_false (show ¬ j = b by omega), Bool.or_false]
          by_cases h : j ≤ b
          · rw [decide_eq_true h, decide_eq_true (show j + 1 ≤ b by omega)]
          · rw [decide_eq_false h, decide_eq_false (show ¬ j + 1 ≤ b by omega)]
      · rw [if_neg hc, if_pos rfl]
        obtain ⟨m', g1, g2⟩ := ih d (j + 1) m (by omega) (by omega)
        refine ⟨m', fun b hb => ?_, g2⟩
        rw [g1 b hb]
        by_cases e : b = j
        · subst e
          rw [(Bool.not_eq_true _).mp hc]
          simp
        · by_cases h : j ≤ b
          · rw [decide_eq_true h, decide_eq_true (show j + 1 ≤ b by omega)]
          · rw [decide_eq_false h, decide_eq_false (show ¬ j + 1 ≤ b by omega)]
def ClOK (a : Nat) (ah R : Nat → Int32) (e : Nat) (CL : Nat → Int32) : Prop := ∀ i, i < e → ∀ b, b < 32 → bt (CL i) b = (decide (i < b) && (decide (b < a) && clB ah R i b))
theorem clash2 (hk : k ≤ 12) (ha : a ≤ 16) {R : Nat → Int32} (hR : RVal k a R) : ∀ (f d i : Nat) (CL : Nat → Int32), i + d = a → d < f → ClOK a ah R i CL → ∃ CL', ClOK a ah R a CL' ∧ fX3_findClashes_h2 f (nI i) R CL (nI k) ah (nI a) = some CL' := by
  intro f
  induction f with
  | zero => intro d i CL _ h; omega
  | succ f ih =>
    intro d i CL hi hd hC
    have step : fX3_findClashes_h2 (f + 1) (nI i) R CL (nI k) ah (nI a) = uX3_findClashes_h2 (fX3_findClashes_h2 f) (nI i) R CL (nI k) ah (nI a) := rfl
    rw [step]
    unfold uX3_findClashes_h2
    cases d with
    | zero =>
      obtain rfl : i = a := by omega
      exact ⟨CL, hC, by rw [if_pos (nI_le (by omega) (by omega))]⟩
    | succ d =>
      rw [if_neg (nI_ge (by omega) (by omega)), nI_1]
      obtain ⟨m', g1, g2⟩ := clash19 (ah := ah) hk ha hR (i := i) (by omega) (CL := CL) (fX3_findClashes_h2 f) FU (a - (i + 1)) (i + 1) 0 (by omega) (by rw [FU_eq]; omega)
      rw [g2]
      refine ih d (i + 1) _ (by omega) (by omega) (fun i' hi' b hb => ?_)
      by_cases e : i' = i
      · subst e
        rw [upd_s, g1 b hb, b_0, Bool.false_or]
        rfl
      · rw [upd_n e]
        exact hC i' (by omega) b hb
theorem findClashes_v (hk : k ≤ 12) (ha : a ≤ 16) {R : Nat → Int32} (hR : RVal k a R) (CL : Nat → Int32) : ∃ CL', ClOK a ah R a CL' ∧ fX3_findClashes R CL (nI k) ah (nI a) = some CL' :=
  clash2 hk ha hR FU a 0 CL (by omega) (by rw [FU_eq]; omega) (fun i hi => by omega)
/-- lines in the row that are not of the model -/
def nmB (rl row : Nat → Int32) (i : Nat) : Bool := decide (¬ rl (row i).toNatClampNeg = 0)
theorem nI_a0 (x : Int32) : x + 0 = x := by
  apply Int32.toBitVec_inj.1
  show x.toBitVec + 0 = x.toBitVec
  exact BitVec.add_zero _
theorem i32_as (x y z : Int32) : x + y + z = x + (y + z) := Int32.add_assoc x y z
theorem changes_loop (hn : n ≤ 16) (ha : a ≤ 16) (hrow : RowIn n a row) {kp ch mk : Int32} : ∀ (f d i : Nat) (x : Int32), i + d = a → d < f → fX3_countChanges_h18 f x (nI i) kp ch (nI n) rl mk (nI a) row = some (x + nI (cn (nmB rl row) i d)) := by
  intro f
  induction f with
  | zero => intro d i x _ h; omega
  | succ f ih =>
    intro d i x hi hd
    show uX3_countChanges_h18 (fX3_countChanges_h18 f) x (nI i) kp ch (nI n) rl mk (nI a) row = _
    unfold uX3_countChanges_h18
    cases d with
    | zero =>
      rw [if_pos (nI_le (by omega) (by omega))]
      exact congrArg some (nI_a0 x).symm
    | succ d =>
      obtain ⟨l, hl, e⟩ := hrow i (by omega)
      rw [if_neg (nI_ge (by omega) (by omega)), lineAt_v (by omega) ha, Option.bind_some, e, roleOf_v hl hn, Option.bind_some]
      show _ = some (x + nI ((if nmB rl row i = true then 1 else 0) + cn (nmB rl row) (i + 1) d))
      have hnm : nmB rl row i = decide (¬ rl l = 0) := by
        unfold nmB
        rw [e, nI_clamp (by omega)]
      by_cases h : rl l = 0
      · rw [if_pos h]
        unfold fX3_countChanges_b52
        rw [if_neg (by decide), nI_1, nI_a0, ih d (i + 1) x (by omega) (by omega), hnm, decide_eq_false (fun q => q h), if_neg (by decide), Nat.zero_add]
      · rw [if_neg h]
        unfold fX3_countChanges_b52
        rw [if_pos rfl, nI_1, ih d (i + 1) (x + 1) (by omega) (by omega), hnm, decide_eq_true h, if_pos rfl, i32_as, one_add]
theorem mark_loop (hn : n ≤ 16) (ha : a ≤ 16) (hrow : RowIn n a row) {be tp ag : Nat → Int32} {mk kb km tm : Int32} : ∀ (f d i : Nat) (x : Int32), i + d = a → d < f → fX6_markOf_h26 f x (nI i) mk (nI a) kb km tm rl mt fr be row tp ag = some (x + nI (cn (nmB rl row) i d), kb, km, tm, tp, ag) := by
  intro f
  induction f with
  | zero => intro d i x _ h; omega
  | succ f ih =>
    intro d i x hi hd
    show uX6_markOf_h26 (fX6_markOf_h26 f) x (nI i) mk (nI a) kb km tm rl mt fr be row tp ag = _
    unfold uX6_markOf_h26
    cases d with
    | zero =>
      rw [if_pos (nI_le (by omega) (by omega))]
      show some (x, _) = some (x + 0, _)
      rw [nI_a0]
    | succ d =>
      obtain ⟨l, hl, e⟩ := hrow i (by omega)
      rw [if_neg (nI_ge (by omega) (by omega)), ck_n (by omega) (by omega), nI_clamp (by omega), e, ck_n (by omega) (by omega), nI_clamp (by omega), nI_1]
      show _ = some (x + nI ((if nmB rl row i = true then 1 else 0) + cn (nmB rl row) (i + 1) d), kb, km, tm, tp, ag)
      have hnm : nmB rl row i = decide (¬ rl l = 0) := by
        unfold nmB
        rw [e, nI_clamp (by omega)]
      by_cases h : rl l = 0
      · rw [if_pos h, nI_a0, ih d (i + 1) x (by omega) (by omega), hnm, decide_eq_false (fun q => q h), if_neg (by decide), Nat.zero_add]
      · rw [if_neg h, ih d (i + 1) (x + 1) (by omega) (by omega), hnm, decide_eq_true h, if_pos rfl, i32_as, one_add]
/-- a place behind kept ones -/
def pf (c : Nat → Bool) (g : Nat) : Nat → Nat → Nat → Nat
  | _, 0, to => to
  | j, d + 1, to => pf c g (j + 1) d (if c j = true then (if g < j then j else j + 1) else to)
theorem pf_le (c : Nat → Bool) (g : Nat) (hg : c g = false) {M : Nat} : ∀ (d j to : Nat), (if g < j + d then j + d - 1 else j + d) ≤ M → to ≤ M → pf c g j d to ≤ M
  | 0, j, to, _, h => h
  | d + 1, j, to, h, h2 => by
    refine pf_le c g hg d (j + 1) _ ?_ ?_
    · rw [show j + 1 + d = j + (d + 1) by omega]; exact h
    · by_cases hc : c j = true
      · rw [if_pos hc]
        have : j ≠ g := fun e => by rw [e, hg] at hc; cases hc
        by_cases h3 : g < j
        · rw [if_pos h3]
          rw [if_pos (by omega)] at h
          omega
        · rw [if_neg h3]
          by_cases h4 : g < j + (d + 1)
          · rw [if_pos h4] at h; omega
          · rw [if_neg h4] at h; omega
      · rw [if_neg hc]; exact h2
def GoOK (g : Nat) (x : Int32) : Prop := (x = nI g ∧ g < 16) ∨ (x = -1 ∧ g = 99)
theorem go_eq {g j : Nat} {x : Int32} (h : GoOK g x) (hj : j < 16) : nI j = x ↔ j = g := by
  rcases h with ⟨rfl, hg⟩ | ⟨rfl, rfl⟩
  · constructor
    · intro q
      have := congrArg Int32.toNatClampNeg q
      rw [nI_clamp (by omega), nI_clamp (by omega)] at this
      exact this
    · rintro rfl; rfl
  · constructor
    · intro q; exact absurd q (ne_m1 (by omega))
    · intro q; omega
theorem isKept_v {kp : Int32} {j : Nat} (ha : a ≤ 16) (hj : j < a) : fX3_isKept (nI j) kp (nI a) = some (if bt kp j = true then 1 else 0) := by
  unfold fX3_isKept
  rcases hasPlace_v (nI j) (a := a) (by omega) with ⟨i, hi, e, h⟩ | ⟨h, -⟩
  · rw [h, Option.bind_some, if_neg (by decide), shr_bit _ (by omega)]
    by_cases hb : bt kp j = true
    · rw [if_pos hb, if_neg (by decide)]
    · rw [if_neg hb, if_pos rfl]
  · exact absurd rfl (h j hj)
theorem pbk_loop (hk : k ≤ 12) (ha : a ≤ 16) {R : Nat → Int32} {kp : Int32} {c : Nat → Bool} {r g : Nat} {gx : Int32} (hr : r < k) (hg : GoOK g gx) (hkR : ∀ j, j < a → bt kp j = true → ∃ q, q < k ∧ R j = nI q ∧ c j = bt (ah r) q) (hk0 : ∀ j, j < a → bt kp j = false → c j = false) (hcg : c g = false) :
    ∀ (f d j to : Nat), j + d = a → d < f → fX3_placeBehindKept_h8 f (nI r) gx (nI to) (nI (if g < j then j - 1 else j)) (nI j) kp R (nI k) ah (nI a) = some (nI (pf c g j d to)) := by
  intro f
  induction f with
  | zero => intro d j to _ h; omega
  | succ f ih =>
    intro d j to hj hd
    show uX3_placeBehindKept_h8 (fX3_placeBehindKept_h8 f) (nI r) gx (nI to) (nI (if g < j then j - 1 else j)) (nI j) kp R (nI k) ah (nI a) = _
    unfold uX3_placeBehindKept_h8
    cases d with
    | zero => rw [if_pos (nI_le (by omega) (by omega))]; rfl
    | succ d =>
      rw [if_neg (nI_ge (by omega) (by omega)), nI_1]
      show _ = some (nI (pf c g (j + 1) d (if c j = true then (if g < j then j else j + 1) else to)))
      by_cases e : j = g
      · subst e
        rw [if_pos ((go_eq hg (by omega)).mpr rfl), hcg, if_neg (show ¬ j < j by omega), if_neg (show ¬ (false = true) by decide)]
        have := ih d (j + 1) to (by omega) (by omega)
        rw [if_pos (by omega)] at this
        exact this
      · have hp : nI (if g < j then j - 1 else j) + 1 = nI (if g < j + 1 then j + 1 - 1 else j + 1) := by
          rw [nI_1]
          congr 1
          by_cases h : g < j
          · rw [if_pos h, if_pos (by omega)]; omega
          · rw [if_neg h, if_neg (by omega)]
        have hp2 : (if g < j + 1 then j + 1 - 1 else j + 1) = (if g < j then j else j + 1) := by
          by_cases h : g < j
          · rw [if_pos h, if_pos (by omega)]; omega
          · rw [if_neg h, if_neg (by omega)]
        rw [if_neg (fun q => e ((go_eq hg (by omega)).mp q)), isKept_v ha (by omega), Option.bind_some, hp]
        by_cases hb : bt kp j = true
        · obtain ⟨q, hq, e1, e2⟩ := hkR j (by omega) hb
          rw [if_pos hb, if_neg (by decide), ck_n (by omega) (by omega), nI_clamp (by omega), e1, isAhead_v hk hr hq, Option.bind_some, e2]
          by_cases hah : bt (ah r) q = true
          · rw [if_pos hah, if_neg (by decide), if_pos hah, ih d (j + 1) _ (by omega) (by omega), hp2]
          · rw [if_neg hah, if_pos rfl, if_neg hah, ih d (j + 1) _ (by omega) (by omega)]
        · rw [if_neg hb, if_pos rfl, hk0 j (by omega) ((Bool.not_eq_true _).mp hb), if_neg (show ¬ (false = true) by decide), ih d (j + 1) _ (by omega) (by omega)]
theorem pfor_loop (hk : k ≤ 12) (ha : a ≤ 16) {R be : Nat → Int32} {kp : Int32} {c : Nat → Bool} {r g : Nat} {gx : Int32} (hr : r < k) (hg : GoOK g gx) (hkR : ∀ j, j < a → bt kp j = true → ∃ q, q < k ∧ R j = nI q ∧ c j = bt (be q) r) (hk0 : ∀ j, j < a → bt kp j = false → c j = false) (hcg : c g = false) (htk : ∀ i, i < a → fX6_takenFor (nI i) (nI a) rl mt fr row = some (R i)) :
    ∀ (f d j to : Nat), j + d = a → d < f → fX6_placeFor_h5 f (nI r) gx (nI to) (nI j) (nI a) kp rl mt fr be row = some (nI (pf c g j d to)) := by
  intro f
  induction f with
  | zero => intro d j to _ h; omega
  | succ f ih =>
    intro d j to hj hd
    show uX6_placeFor_h5 (fX6_placeFor_h5 f) (nI r) gx (nI to) (nI j) (nI a) kp rl mt fr be row = _
    unfold uX6_placeFor_h5
    cases d with
    | zero => rw [if_pos (nI_le (by omega) (by omega))]; rfl
    | succ d =>
      rw [if_neg (nI_ge (by omega) (by omega)), shr_bit _ (show j < 32 by omega), nI_1, nI_a0]
      show _ = some (nI (pf c g (j + 1) d (if c j = true then (if g < j then j else j + 1) else to)))
      by_cases hb : bt kp j = true
      · obtain ⟨q, hq, e1, e2⟩ := hkR j (by omega) hb
        rw [if_pos hb, if_pos rfl, htk j (by omega), Option.bind_some, e1, ck_n (by omega) (by omega), nI_clamp (by omega), shr_bit _ (show r < 32 by omega), e2]
        by_cases hah : bt (be q) r = true
        · rw [if_pos hah, if_pos rfl, if_pos hah]
          have hjg : j ≠ g := fun e => by rw [e, hcg] at e2; rw [← e2] at hah; cases hah
          rcases hg with ⟨rfl, hg⟩ | ⟨rfl, rfl⟩
          · rw [if_neg (nI_pos (by omega))]
            by_cases h : g < j
            · rw [if_neg (nI_ge h (by omega)), if_pos h]
              exact ih d (j + 1) _ (by omega) (by omega)
            · rw [if_pos (nI_le (by omega) (by omega)), if_neg h]
              exact ih d (j + 1) _ (by omega) (by omega)
          · rw [if_pos m1_lt, if_neg (by omega)]
            exact ih d (j + 1) _ (by omega) (by omega)
        · rw [if_neg hah, if_neg (by decide), if_neg hah]
          exact ih d (j + 1) _ (by omega) (by omega)
      · rw [if_neg hb, if_neg (by decide), hk0 j (by omega) ((Bool.not_eq_true _).mp hb), if_neg (by decide)]
        exact ih d (j + 1) _ (by omega) (by omega)
end MARK
