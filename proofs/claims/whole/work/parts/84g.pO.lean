/-! how large the table's numbers are -/
def fac : Nat → Nat
  | 0 => 1
  | n + 1 => (n + 1) * fac n
def zc (p : Nat) : Nat → Nat
  | 0 => 0
  | r + 1 => zc p r + (if p.testBit r = true then 0 else 1)
theorem fac_pos : ∀ n, 1 ≤ fac n
  | 0 => Nat.le_refl 1
  | n + 1 => by
    show 1 ≤ (n + 1) * fac n
    have := fac_pos n
    exact Nat.le_trans this (Nat.le_mul_of_pos_left _ (by omega))
theorem fac_mono {m : Nat} : ∀ n, m ≤ n → fac m ≤ fac n
  | 0, h => by
    obtain rfl : m = 0 := by omega
    exact Nat.le_refl _
  | n + 1, h => by
    by_cases e : m = n + 1
    · rw [e]; exact Nat.le_refl _
    · exact Nat.le_trans (fac_mono n (by omega)) (Nat.le_mul_of_pos_left _ (by omega))
theorem zc_le (p : Nat) : ∀ k, zc p k ≤ k
  | 0 => Nat.le_refl 0
  | k + 1 => by
    have := zc_le p k
    show zc p k + _ ≤ k + 1
    split <;> omega
theorem tb_or (p s r : Nat) : (p ||| 2 ^ s).testBit r = (p.testBit r || decide (s = r)) := by
  rw [Nat.testBit_or, Nat.testBit_two_pow]
theorem zc_or_lo {p s : Nat} : ∀ k, k ≤ s → zc (p ||| 2 ^ s) k = zc p k
  | 0, _ => rfl
  | k + 1, h => by
    show zc (p ||| 2 ^ s) k + _ = zc p k + _
    rw [zc_or_lo k (by omega), tb_or, decide_eq_false (by omega), Bool.or_false]
theorem zc_or {p s : Nat} (hb : p.testBit s = false) : ∀ k, s < k → zc (p ||| 2 ^ s) k + 1 = zc p k
  | 0, h => by omega
  | k + 1, h => by
    show zc (p ||| 2 ^ s) k + _ + 1 = zc p k + _
    by_cases e : s = k
    · subst e
      rw [zc_or_lo s (Nat.le_refl s), tb_or, decide_eq_true rfl, Bool.or_true, hb, if_pos rfl, if_neg (by decide)]
    · rw [← zc_or hb k (by omega), tb_or, decide_eq_false e, Bool.or_false]
      omega
theorem Sm_bound {a : Nat → Int32} {k p : Nat} {w : Nat → Nat} (hw : ∀ r, r < k → may a r p = true → w (p ||| 2 ^ r) ≤ fac (zc (p ||| 2 ^ r) k)) : ∀ e, e ≤ k → Sm (fun r => may a r p) w p e ≤ zc p e * fac (zc p k - 1)
  | 0, _ => Nat.zero_le _
  | e + 1, he => by
    have ih := Sm_bound hw e (by omega)
    show Sm (fun r => may a r p) w p e + (if may a e p = true then w (p ||| 2 ^ e) else 0) ≤ (zc p e + (if p.testBit e = true then 0 else 1)) * fac (zc p k - 1)
    rw [Nat.add_mul]
    by_cases hm : may a e p = true
    · have hb := may_bit hm
      have h1 := hw e (by omega) hm
      have h2 := zc_or hb k (by omega)
      rw [show zc (p ||| 2 ^ e) k = zc p k - 1 by omega] at h1
      rw [if_pos hm, hb, if_neg (by decide), Nat.one_mul]
      omega
    · rw [if_neg hm]
      omega
theorem wT_bound {a : Nat → Int32} {k : Nat} : ∀ (d p : Nat), p + d = 2 ^ k - 1 → wT a k p ≤ fac (zc p k) := by
  intro d
  induction d using Nat.strongRecOn with
  | _ d ih =>
    intro p hp
    have hps := pw_pos k
    by_cases e : p = 2 ^ k - 1
    · rw [e, wT_top]
      exact fac_pos _
    · rw [wT_rec a k p (by omega)]
      have h := Sm_bound (a := a) (k := k) (p := p) (w := wT a k) (fun r hr hm => by
        have h1 := or_gt (may_bit hm)
        have h2 := or_lt (show p < 2 ^ k by omega) hr
        exact ih (2 ^ k - 1 - (p ||| 2 ^ r)) (by omega) (p ||| 2 ^ r) (by omega)) k (Nat.le_refl k)
      refine Nat.le_trans h ?_
      cases hz : zc p k with
      | zero => rw [Nat.zero_mul]; exact Nat.zero_le _
      | succ z => exact Nat.le_refl _
theorem wT_small {a : Nat → Int32} {k p : Nat} (hk : k ≤ 12) (hp : p < 2 ^ k) : wT a k p < 2 ^ 31 := by
  have h1 := wT_bound (a := a) (k := k) (2 ^ k - 1 - p) p (by omega)
  have h2 := fac_mono 12 (Nat.le_trans (zc_le p k) hk)
  have h3 : fac 12 = 479001600 := by decide
  omega
theorem Sm_small {a : Nat → Int32} {k p e : Nat} (hk : k ≤ 12) (hp : p < 2 ^ k - 1) (he : e ≤ k) : Sm (fun r => may a r p) (wT a k) p e < 2 ^ 31 := by
  have h1 := Sm_mono (m := fun r => may a r p) (w := wT a k) (p := p) k he
  rw [← wT_rec a k p hp] at h1
  have h2 := wT_small (a := a) (k := k) (p := p) hk (by omega)
  omega
/-- the class's table is counted, or will be -/
def WcOK (a : Nat → Int32) (k : Nat) (wc : Int32) (mw : Nat → Int32) : Prop := wc = 0 ∨ (wc = 1 ∧ ∀ p, p < 2 ^ k → mw p = nI (wT a k p))
theorem count_any {a mw : Nat → Int32} {k : Nat} {wc : Int32} (hk : k ≤ 12) (h : WcOK a k wc mw) : ∃ mw', (∀ p, p < 2 ^ k → mw' p = nI (wT a k p)) ∧ fX4_countWays (nI k) wc a mw = some (1, mw') := by
  rcases h with rfl | ⟨rfl, h⟩
  · exact countWays_v hk
  · refine ⟨mw, h, ?_⟩
    unfold fX4_countWays
    rw [if_neg (by decide)]
theorem cl0 : ((0 : Int32)).toNatClampNeg = 0 := by decide
theorem inB0 {α : Type} (x : Option α) : ck (inB 0 4096) x = x := ck_n (i := 0) (by omega) (by omega)
theorem manyOrders_v {a mw : Nat → Int32} {k : Nat} {wc : Int32} (hk : k ≤ 12) (h : WcOK a k wc mw) : ∃ mw', (∀ p, p < 2 ^ k → mw' p = nI (wT a k p)) ∧ fX4_manyOrders (nI k) wc a mw = some (lN (wT a k 0), 1, mw') := by
  obtain ⟨mw', g1, g2⟩ := count_any hk h
  refine ⟨mw', g1, ?_⟩
  unfold fX4_manyOrders
  rw [g2, Option.bind_some, inB0, cl0]
  show some ((mw' 0).toInt64, 1, mw') = _
  rw [g1 0 (pw_pos k), nI_l (wT_small hk (pw_pos k))]
/-! which right order the answer is -/
theorem i64_add (x : Int64) (a b : Nat) : x + lN a + lN b = x + lN (a + b) := by
  rw [Int64.add_assoc, lN_add]
section WHICH
variable {k n : Nat} {a be mr fr rl row : Nat → Int32} {wy : Nat → Int64} {mw : Nat → Int32}
theorem which76 (hk : k ≤ 12) (hbe : ∀ r, r < k → be r = a r) (hwy : ∀ p, p < 2 ^ k → wy p = lN (wT a k p)) {p : Nat} (hp : p < 2 ^ k) {l r : Nat} (hl : l < 16) (hfr : fr l = nI r) (hr : r < k) {fs fm : Int32} {x4 : Int32} (x : Int64) (k22 : Int64 → Int32 → Int32 → Int32 → Int32 → (Nat → Int32) → (Nat → Int32) → (Nat → Int32) → (Nat → Int64) → (Nat → Int32) → Option Int64) :
    ∀ (f d i : Nat), i + d = r → d < f → fX6_which_h76 k22 f (x + lN (Sm (fun r => may a r p) (wT a k) p i)) (nI p) x4 (nI l) (nI i) fm fs rl fr be wy row = k22 (x + lN (Sm (fun r => may a r p) (wT a k) p r)) (nI (p ||| 2 ^ r)) (x4 + 1) fm fs rl fr be wy row := by
  intro f
  induction f with
  | zero => intro d i _ h; omega
  | succ f ih =>
    intro d i hi hd
    show uX6_which_h76 k22 (fX6_which_h76 k22 f) _ (nI p) x4 (nI l) (nI i) fm fs rl fr be wy row = _
    unfold uX6_which_h76
    rw [ck_n hl (by omega), nI_clamp (by omega), hfr]
    cases d with
    | zero =>
      obtain rfl : i = r := by omega
      rw [if_pos (nI_le (by omega) (by omega)), ck_n hl (by omega), nI_pow i (by omega), nI_or]
    | succ d =>
      have hpw := pw12 hk
      have hor := or_lt hp (show i < k by omega)
      have h2 := ih d (i + 1) (by omega) (by omega)
      rw [show Sm (fun r => may a r p) (wT a k) p (i + 1) = Sm (fun r => may a r p) (wT a k) p i + (if may a i p = true then wT a k (p ||| 2 ^ i) else 0) from rfl] at h2
      rw [if_neg (nI_ge (by omega) (by omega)), shr_bit _ (by omega), bt_n (by omega), nI_pow i (by omega), nI_or, ck_n (show i < 12 by omega) (by omega), nI_clamp (show i < 2 ^ 31 by omega), hbe i (by omega), nI_1, ck_n (show p ||| 2 ^ i < 4096 by omega) (by omega), nI_clamp (by omega), hwy _ hor, i64_add]
      cases hb : p.testBit i
      · rw [if_pos (by decide)]
        by_cases h : (a i &&& (nI p ^^^ (-1))) = 0
        · rw [if_pos (may_t hb h)] at h2
          rw [if_pos h]
          exact h2
        · rw [if_neg (may_f2 h), Nat.add_zero] at h2
          rw [if_neg h]
          exact h2
      · rw [if_neg (may_f1 hb), Nat.add_zero] at h2
        rw [if_neg (by decide)]
        exact h2
/-- a line's rank on both sides -/
def RkOK (n k : Nat) (rl mr fr num : Nat → Int32) : Prop := ∀ l, l < n → (rl l = 0 ∧ ∃ r, r < k ∧ mr l = nI r ∧ fr l = nI r ∧ num r = nI l) ∨ (¬ rl l = 0 ∧ mr l = -1)
theorem rankOf_v {mr : Nat → Int32} {l : Nat} (hl : l < 16) : fX4_rankOf (nI l) mr = some (mr l) := by
  unfold fX4_rankOf
  rw [if_neg (nI_pos (by omega)), if_neg (show ¬ (16 : Int32) ≤ nI l from nI_ge (b := 16) hl (by omega)), ck_n hl (by omega), nI_clamp (by omega)]
theorem lineAt_v {row : Nat → Int32} {i a : Nat} (hi : i < a) (ha : a ≤ 16) : fX0_lineAt (nI i) (nI a) row = some (row i) := by
  unfold fX0_lineAt
  rcases hasPlace_v (nI i) (a := a) (by omega) with ⟨_, _, _, h⟩ | ⟨h, _⟩
  · rw [h, Option.bind_some, if_neg (by decide), ck_n (by omega) (by omega), nI_clamp (by omega)]
  · exact absurd rfl (h i hi)
theorem mayCome_m1 {p k : Int32} {a : Nat → Int32} : fX4_mayCome (-1) p k a = some 0 := by
  unfold fX4_mayCome
  rw [if_pos (by decide)]
theorem which_loop {num : Nat → Int32} (hk : k ≤ 12) (hn : n ≤ 16) (hbe : ∀ r, r < k → be r = a r) (hwy : ∀ p, p < 2 ^ k → wy p = lN (wT a k p)) (hmw : ∀ p, p < 2 ^ k → mw p = nI (wT a k p)) (hrk : RkOK n k rl mr fr num)
    {xr : Nat → Nat} (hrow : ∀ i, i < k → row i = nI (xr i) ∧ xr i < n) (hinj : ∀ i j, i < k → j < k → xr i = xr j → i = j) :
    ∀ (f g d i p : Nat) (x : Int64), i + d = k → d < f → d < g → p < 2 ^ k → zc p k + i = k → (∀ r, r < k → p.testBit r = true → ∃ j, j < i ∧ num r = nI (xr j)) → ∃ v, fX4_orderOf_h27 f x (nI p) (nI i) (nI k) 1 mr a mw (nI k) row = some (v, 1, mw) ∧ fX6_which_h22 g x (nI p) (nI i) (nI k) (nI k) rl fr be wy row = some v := by
  intro f
  induction f with
  | zero => intro g d i p x _ h; omega
  | succ f ih =>
    intro g d i p x hi hd hg hp hz hset
    cases g with
    | zero => omega
    | succ g =>
    show ∃ v, uX4_orderOf_h27 (fX4_orderOf_h27 f) x (nI p) (nI i) (nI k) 1 mr a mw (nI k) row = some (v, 1, mw) ∧ uX6_which_h22 (fX6_which_h22 g) x (nI p) (nI i) (nI k) (nI k) rl fr be wy row = some v
    unfold uX4_orderOf_h27 uX6_which_h22
    cases d with
    | zero =>
      obtain rfl : i = k := by omega
      exact ⟨x, by rw [if_pos (nI_le (by omega) (by omega))], by rw [if_pos (nI_le (by omega) (by omega))]⟩
    | succ d =>
      obtain ⟨e1, e2⟩ := hrow i (by omega)
      rw [if_neg (nI_ge (show i < k by omega) (by omega)), if_neg (nI_ge (show i < k by omega) (by omega)), lineAt_v (show i < k by omega) (by omega), Option.bind_some, e1, rankOf_v (by omega), Option.bind_some, ck_n (show i < 16 by omega) (by omega), nI_clamp (show i < 2 ^ 31 by omega), e1, ck_n (show xr i < 16 by omega) (by omega), nI_clamp (show xr i < 2 ^ 31 by omega), ck_n (show xr i < 16 by omega) (by omega)]
      rcases hrk (xr i) e2 with ⟨h0, r, hr, g1, g2, g3⟩ | ⟨h0, g1⟩
      · have hb : p.testBit r = false := by
          cases hb : p.testBit r
          · rfl
          · exfalso
            obtain ⟨j, hj, q⟩ := hset r hr hb
            rw [g3] at q
            obtain ⟨-, hxj⟩ := hrow j (by omega)
            have := (nI_eq (by omega) (by omega)).mp q
            have := hinj i j (by omega) (by omega) this
            omega
        rw [g1, g2, mayCome_v hk hr, Option.bind_some, if_pos h0, ck_n (show r < 12 by omega) (by omega), nI_clamp (show r < 2 ^ 31 by omega), hbe r hr]
        by_cases h : (a r &&& (nI p ^^^ (-1))) = 0
        · have hm := may_t hb h
          have hor := or_lt hp hr
          have hgt := or_gt hb
          rw [if_pos hm, if_neg (by decide), if_pos h, waysBefore_v (w := wT a k) hk hp (show r ≤ k by omega) (fun r' hr' hm' => hmw _ (or_lt hp (by omega))), Option.bind_some, nI_pow r (by omega), nI_or, nI_1, nI_l (Sm_small hk (by omega) (by omega))]
          have h76 := which76 (rl := rl) (row := row) hk hbe hwy hp (show xr i < 16 by omega) g2 hr (fs := nI k) (fm := nI k) (x4 := nI i) x (fX6_which_h22 g) FU r 0 (by omega) (by rw [FU_eq]; omega)
          rw [show x + lN (Sm (fun r => may a r p) (wT a k) p 0) = x from by show x + lN 0 = x; exact Int64.add_zero x, nI_1] at h76
          rw [show (0 : Int32) = nI 0 from rfl, h76]
          refine ih g d (i + 1) (p ||| 2 ^ r) _ (by omega) (by omega) (by omega) hor (by have := zc_or hb k hr; omega) (fun r' hr' hb' => ?_)
          rw [tb_or] at hb'
          by_cases e : r = r'
          · subst e
            exact ⟨i, by omega, g3⟩
          · rw [decide_eq_false e, Bool.or_false] at hb'
            obtain ⟨j, hj, q⟩ := hset r' hr' hb'
            exact ⟨j, by omega, q⟩
        · rw [if_neg (may_f2 h), if_pos rfl, if_neg h]
          exact ⟨_, rfl, rfl⟩
      · rw [g1, mayCome_m1, Option.bind_some, if_pos rfl, if_neg h0]
        exact ⟨_, rfl, rfl⟩
end WHICH

/-! the i-th line of right order k -/
theorem Sm_find {m : Nat → Bool} {w : Nat → Nat} {p L : Nat} : ∀ e, L < Sm m w p e → ∃ g, g < e ∧ m g = true ∧ Sm m w p g ≤ L ∧ L < Sm m w p (g + 1)
  | 0, h => absurd h (Nat.not_lt_zero _)
  | e + 1, h => by
    by_cases h1 : L < Sm m w p e
    · obtain ⟨g, g1, g2⟩ := Sm_find e h1
      exact ⟨g, by omega, g2⟩
    · refine ⟨e, by omega, ?_, by omega, h⟩
      by_cases hm : m e = true
      · exact hm
      · exfalso
        have : Sm m w p (e + 1) = Sm m w p e + 0 := by
          show Sm m w p e + (if m e = true then w (p ||| 2 ^ e) else 0) = _
          rw [if_neg hm]
        omega
section RIGHT
variable {k : Nat} {a be num : Nat → Int32} {wy : Nat → Int64} {mw : Nat → Int32}
theorem next_hi (hk : k ≤ 12) (hmw : ∀ p, p < 2 ^ k → mw p = nI (wT a k p)) {p L g : Nat} (hp : p < 2 ^ k - 1) (hL : L < 2 ^ 31) (hg2 : L < Sm (fun r => may a r p) (wT a k) p (g + 1)) :
    ∀ (f d r : Nat), r + d = k → d < f → g < r → fX4_nextRank_h6 f (nI p) (lN L) (nI g) (nI r) (nI k) a mw = some (nI g) := by
  intro f
  induction f with
  | zero => intro d r _ h; omega
  | succ f ih =>
    intro d r hr hd hgr
    show uX4_nextRank_h6 (fX4_nextRank_h6 f) (nI p) (lN L) (nI g) (nI r) (nI k) a mw = _
    unfold uX4_nextRank_h6
    cases d with
    | zero =>
      obtain rfl : r = k := by omega
      rw [if_pos (nI_le (by omega) (by omega))]
    | succ d =>
      have h2 := ih d (r + 1) (by omega) (by omega) (by omega)
      have hs := Sm_small (a := a) hk hp (show r ≤ k by omega)
      have hge := Sm_mono (m := fun r => may a r p) (w := wT a k) (p := p) r (show g + 1 ≤ r by omega)
      rw [if_neg (nI_ge (by omega) (by omega)), mayCome_v hk (by omega), Option.bind_some, waysBefore_v (w := wT a k) hk (by omega) (show r ≤ k by omega) (fun r' hr' hm' => hmw _ (or_lt (by omega) (by omega))), Option.bind_some, nI_l hs, nI_1, if_pos ((lg_cmp_gt _ _).mpr ((pk_lLT (by omega) (by omega)).mpr (by omega))), h2]
      split <;> rfl
theorem next_lo (hk : k ≤ 12) (hmw : ∀ p, p < 2 ^ k → mw p = nI (wT a k p)) {p L g : Nat} (hp : p < 2 ^ k - 1) (hL : L < 2 ^ 31) (hgk : g < k) (hm : may a g p = true) (hg1 : Sm (fun r => may a r p) (wT a k) p g ≤ L) (hg2 : L < Sm (fun r => may a r p) (wT a k) p (g + 1)) :
    ∀ (f d r : Nat) (z : Int32), r + d = k → d < f → r ≤ g → fX4_nextRank_h6 f (nI p) (lN L) z (nI r) (nI k) a mw = some (nI g) := by
  intro f
  induction f with
  | zero => intro d r z _ h; omega
  | succ f ih =>
    intro d r z hr hd hgr
    show uX4_nextRank_h6 (fX4_nextRank_h6 f) (nI p) (lN L) z (nI r) (nI k) a mw = _
    unfold uX4_nextRank_h6
    cases d with
    | zero => omega
    | succ d =>
      have hs := Sm_small (a := a) hk hp (show r ≤ k by omega)
      rw [if_neg (nI_ge (by omega) (by omega)), mayCome_v hk (by omega), Option.bind_some, waysBefore_v (w := wT a k) hk (by omega) (show r ≤ k by omega) (fun r' hr' hm' => hmw _ (or_lt (by omega) (by omega))), Option.bind_some, nI_l hs, nI_1]
      by_cases e : r = g
      · subst e
        rw [if_pos hm, if_neg (by decide), if_neg (fun q => by have := (pk_lLT (by omega) (by omega)).mp ((lg_cmp_gt _ _).mp q); omega)]
        exact next_hi hk hmw hp hL hg2 f d (r + 1) (by omega) (by omega) (by omega)
      · have h2 := fun z => ih d (r + 1) z (by omega) (by omega) (by omega)
        rw [h2, h2]
        simp only [ite_self]
theorem right57 (hk : k ≤ 12) (hbe : ∀ r, r < k → be r = a r) (hwy : ∀ p, p < 2 ^ k → wy p = lN (wT a k p)) {p L g : Nat} (hp : p < 2 ^ k - 1) (hL : L < 2 ^ 31) (hgk : g < k) (hm : may a g p = true) (hg1 : Sm (fun r => may a r p) (wT a k) p g ≤ L) (hg2 : L < Sm (fun r => may a r p) (wT a k) p (g + 1)) {x3 x8 : Int32}
    (k45 : Int32 → Int64 → Int32 → Int32 → Int32 → Int32 → (Nat → Int32) → (Nat → Int32) → (Nat → Int64) → Option Int32) :
    ∀ (f d r : Nat), r + d = g → d + 1 < f → fX6_right_h57 k45 f x3 (lN (L - Sm (fun r => may a r p) (wT a k) p r)) (nI p) (-1) x8 (nI r) (nI k) num be wy = k45 x3 (lN (L - Sm (fun r => may a r p) (wT a k) p g)) (nI (p ||| 2 ^ g)) (nI g) (x8 + 1) (nI k) num be wy := by
  intro f
  induction f with
  | zero => intro d r _ h; omega
  | succ f ih =>
    intro d r hr hd
    have hpw := pw12 hk
    have hor := or_lt (show p < 2 ^ k by omega) (show r < k by omega)
    have hws := wT_small (a := a) hk hor
    show uX6_right_h57 k45 (fX6_right_h57 k45 f) x3 _ (nI p) (-1) x8 (nI r) (nI k) num be wy = _
    unfold uX6_right_h57
    rw [if_neg (nI_ge (show r < k by omega) (by omega)), if_pos rfl, shr_bit _ (by omega), bt_n (by omega), nI_pow r (by omega), nI_or, ck_n (show r < 12 by omega) (by omega), nI_clamp (show r < 2 ^ 31 by omega), hbe r (by omega), nI_1, ck_n (show p ||| 2 ^ r < 4096 by omega) (by omega), nI_clamp (by omega), hwy _ hor]
    have hSs : Sm (fun r => may a r p) (wT a k) p (r + 1) = Sm (fun r => may a r p) (wT a k) p r + (if may a r p = true then wT a k (p ||| 2 ^ r) else 0) := rfl
    have hmono := Sm_mono (m := fun r => may a r p) (w := wT a k) (p := p) g (show r ≤ g by omega)
    cases d with
    | zero =>
      obtain rfl : r = g := by omega
      have hb := may_bit hm
      rw [if_pos hm] at hSs
      have h0 : (a r &&& (nI p ^^^ (-1))) = 0 := by
        by_cases h : (a r &&& (nI p ^^^ (-1))) = 0
        · exact h
        · exact absurd hm (may_f2 h)
      rw [hb, if_pos (by decide), if_pos h0, if_neg (fun q => by have := (pk_lLE (by omega) (by omega)).mp ((lg_cmp_ge _ _).mp q); omega)]
      cases f with
      | zero => omega
      | succ f =>
        show uX6_right_h57 k45 (fX6_right_h57 k45 f) x3 _ (nI p) (nI r) x8 (nI (r + 1)) (nI k) num be wy = _
        unfold uX6_right_h57
        rw [nI_pow r (by omega), nI_or, if_neg (ne_m1 (show r < 2 ^ 31 by omega))]
        split <;> rfl
    | succ d =>
      have h2 := ih d (r + 1) (by omega) (by omega)
      have hmono2 := Sm_mono (m := fun r => may a r p) (w := wT a k) (p := p) g (show r + 1 ≤ g by omega)
      cases hb : p.testBit r
      · rw [if_pos (by decide)]
        by_cases h : (a r &&& (nI p ^^^ (-1))) = 0
        · rw [if_pos (may_t hb h)] at hSs
          rw [hSs] at h2 hmono2
          rw [if_pos h, if_pos ((lg_cmp_ge _ _).mpr ((pk_lLE (by omega) (by omega)).mpr (by omega))), lN_sub (by omega), show L - Sm (fun r => may a r p) (wT a k) p r - wT a k (p ||| 2 ^ r) = L - (Sm (fun r => may a r p) (wT a k) p r + wT a k (p ||| 2 ^ r)) by omega]
          exact h2
        · rw [if_neg (may_f2 h), Nat.add_zero] at hSs
          rw [hSs] at h2
          rw [if_neg h]
          exact h2
      · rw [if_neg (may_f1 hb), Nat.add_zero] at hSs
        rw [hSs] at h2
        rw [if_neg (by decide)]
        exact h2
theorem zc_top (k : Nat) : ∀ e, e ≤ k → zc (2 ^ k - 1) e = 0
  | 0, _ => rfl
  | e + 1, h => by
    show zc (2 ^ k - 1) e + _ = 0
    rw [zc_top k e (by omega), Nat.testBit_two_pow_sub_one, decide_eq_true (by omega), if_pos rfl]
theorem lineOf_v {num : Nat → Int32} {r : Nat} (hk : k ≤ 12) (hr : r < k) : fX4_lineOf (nI r) (nI k) num = some (num r) := by
  unfold fX4_lineOf
  rw [if_neg (nI_pos (by omega)), if_neg (nI_ge hr (by omega)), ck_n (by omega) (by omega), nI_clamp (by omega)]
theorem right_loop (hk : k ≤ 12) (hbe : ∀ r, r < k → be r = a r) (hwy : ∀ p, p < 2 ^ k → wy p = lN (wT a k p)) (hmw : ∀ p, p < 2 ^ k → mw p = nI (wT a k p)) {i : Nat} (hi : i < k) :
    ∀ (f h d st p L : Nat) (z : Int32), st + d = i + 1 → d < f → d < h → p < 2 ^ k → zc p k + st = k → L < wT a k p → (st = 0 ∨ ∃ r, r < k ∧ z = nI r) → ∃ v, fX4_lineOfOrder_h41 f (nI i) (lN L) (nI p) z (nI st) (nI k) 1 num a mw = some (v, 1, mw) ∧ fX6_right_h45 h (nI i) (lN L) (nI p) z (nI st) (nI k) num be wy = some v := by
  intro f
  induction f with
  | zero => intro h d st p L z _ q; omega
  | succ f ih =>
    intro h d st p L z hst hd hh hp hz hL hzr
    cases h with
    | zero => omega
    | succ h =>
    show ∃ v, uX4_lineOfOrder_h41 (fX4_lineOfOrder_h41 f) (nI i) (lN L) (nI p) z (nI st) (nI k) 1 num a mw = some (v, 1, mw) ∧ uX6_right_h45 (fX6_right_h45 h) (nI i) (lN L) (nI p) z (nI st) (nI k) num be wy = some v
    unfold uX4_lineOfOrder_h41 uX6_right_h45
    cases d with
    | zero =>
      rcases hzr with hzr | ⟨r, hr, rfl⟩
      · omega
      · rw [if_pos (nI_lt (show i < st by omega) (by omega)), if_pos (nI_lt (show i < st by omega) (by omega)), lineOf_v hk hr, ck_n (by omega) (by omega), nI_clamp (by omega)]
        exact ⟨_, rfl, rfl⟩
    | succ d =>
      have hpt : p < 2 ^ k - 1 := by
        rcases Nat.lt_or_ge p (2 ^ k - 1) with q | q
        · exact q
        · exfalso
          obtain rfl : p = 2 ^ k - 1 := by omega
          rw [zc_top k k (Nat.le_refl k)] at hz
          omega
      have hws := wT_small (a := a) hk hp
      have hL2 := hL
      rw [wT_rec a k p hpt] at hL2
      obtain ⟨g, g1, g2, g3, g4⟩ := Sm_find k hL2
      have hb := may_bit g2
      have hor := or_lt hp g1
      rw [if_neg (nI_nlt (show st ≤ i by omega) (by omega)), if_neg (nI_nlt (show st ≤ i by omega) (by omega)), show fX4_nextRank (nI p) (lN L) (nI k) a mw = some (nI g) from next_lo hk hmw hpt (by omega) g1 g2 g3 g4 FU k 0 0 (by omega) (by rw [FU_eq]; omega) (by omega), Option.bind_some, waysBefore_v (w := wT a k) hk hp (show g ≤ k by omega) (fun r' hr' hm' => hmw _ (or_lt hp (by omega))), Option.bind_some, nI_l (Sm_small hk hpt (by omega)), lN_sub g3, nI_pow g (by omega), nI_or, nI_1]
      have h57 := right57 (num := num) hk hbe hwy hpt (show L < 2 ^ 31 by omega) g1 g2 g3 g4 (x3 := nI i) (x8 := nI st) (fX6_right_h45 h) FU g 0 (by omega) (by rw [FU_eq]; omega)
      rw [show L - Sm (fun r => may a r p) (wT a k) p 0 = L from rfl, nI_1] at h57
      rw [show (0 : Int32) = nI 0 from rfl, h57]
      refine ih h d (st + 1) (p ||| 2 ^ g) (L - Sm (fun r => may a r p) (wT a k) p g) (nI g) (by omega) (by omega) (by omega) hor (by have := zc_or hb k g1; omega) ?_ (Or.inr ⟨g, g1, rfl⟩)
      have hSs : Sm (fun r => may a r p) (wT a k) p (g + 1) = Sm (fun r => may a r p) (wT a k) p g + (if may a g p = true then wT a k (p ||| 2 ^ g) else 0) := rfl
      rw [if_pos g2] at hSs
      omega
end RIGHT
