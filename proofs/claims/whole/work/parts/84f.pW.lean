/-! ways to go on -/
def may (a : Nat → Int32) (r p : Nat) : Bool := !p.testBit r && decide ((a r &&& (nI p ^^^ (-1))) = 0)
def Sm (m : Nat → Bool) (w : Nat → Nat) (p : Nat) : Nat → Nat
  | 0 => 0
  | r + 1 => Sm m w p r + (if m r = true then w (p ||| 2 ^ r) else 0)
theorem Sm_congr {m : Nat → Bool} {w w' : Nat → Nat} {p : Nat} : ∀ e, (∀ r, r < e → m r = true → w (p ||| 2 ^ r) = w' (p ||| 2 ^ r)) → Sm m w p e = Sm m w' p e
  | 0, _ => rfl
  | e + 1, h => by
    show Sm m w p e + _ = Sm m w' p e + _
    rw [Sm_congr e (fun r hr => h r (by omega))]
    by_cases hm : m e = true
    · rw [if_pos hm, if_pos hm, h e (by omega) hm]
    · rw [if_neg hm, if_neg hm]
theorem Sm_mono {m : Nat → Bool} {w : Nat → Nat} {p : Nat} {i : Nat} : ∀ e, i ≤ e → Sm m w p i ≤ Sm m w p e
  | 0, h => by
    obtain rfl : i = 0 := by omega
    exact Nat.le_refl _
  | e + 1, h => by
    by_cases hi : i = e + 1
    · rw [hi]; exact Nat.le_refl _
    · have := Sm_mono (m := m) (w := w) (p := p) e (show i ≤ e by omega)
      show _ ≤ Sm m w p e + _
      omega
theorem or_gt {p r : Nat} (h : p.testBit r = false) : p < p ||| 2 ^ r := by
  have h1 : p ≤ p ||| 2 ^ r := Nat.left_le_or
  rcases Nat.lt_or_ge p (p ||| 2 ^ r) with h2 | h2
  · exact h2
  · exfalso
    have e : p ||| 2 ^ r = p := by omega
    have h3 : (p ||| 2 ^ r).testBit r = true := by rw [Nat.testBit_or, Nat.testBit_two_pow_self, Bool.or_true]
    rw [e, h] at h3
    cases h3
theorem or_lt {p r k : Nat} (hp : p < 2 ^ k) (hr : r < k) : p ||| 2 ^ r < 2 ^ k := Nat.or_lt_two_pow hp (Nat.pow_lt_pow_right (by omega) hr)
theorem pw12 {k : Nat} (hk : k ≤ 12) : 2 ^ k ≤ 4096 := by
  have : 2 ^ k ≤ 2 ^ 12 := Nat.pow_le_pow_right (by omega) hk
  omega
theorem pw_pos (k : Nat) : 0 < 2 ^ k := Nat.pow_pos (by omega)
theorem may_bit {a : Nat → Int32} {r p : Nat} (h : may a r p = true) : p.testBit r = false := by
  unfold may at h
  rw [Bool.and_eq_true] at h
  have := h.1
  cases hb : p.testBit r
  · rfl
  · rw [hb] at this; cases this
theorem may_t {a : Nat → Int32} {r p : Nat} (hb : p.testBit r = false) (h : (a r &&& (nI p ^^^ (-1))) = 0) : may a r p = true := by
  unfold may
  rw [hb, decide_eq_true h]
  rfl
theorem may_f1 {a : Nat → Int32} {r p : Nat} (hb : p.testBit r = true) : ¬ may a r p = true := by
  unfold may
  rw [hb]
  intro q
  cases q
theorem may_f2 {a : Nat → Int32} {r p : Nat} (h : ¬ (a r &&& (nI p ^^^ (-1))) = 0) : ¬ may a r p = true := by
  unfold may
  rw [decide_eq_false h, Bool.and_false]
  intro q
  cases q
theorem mayCome_v {k r p : Nat} {a : Nat → Int32} (hk : k ≤ 12) (hr : r < k) : fX4_mayCome (nI r) (nI p) (nI k) a = some (if may a r p = true then 1 else 0) := by
  unfold fX4_mayCome
  rw [if_neg (nI_pos (by omega)), if_neg (nI_ge hr (by omega)), shr_bit _ (by omega), bt_n (by omega), ck_n (by omega) (by omega), nI_clamp (by omega)]
  cases hb : p.testBit r
  · rw [if_pos (by decide)]
    by_cases h : (a r &&& (nI p ^^^ (-1))) = 0
    · rw [if_pos h, if_pos (may_t hb h)]
    · rw [if_neg h, if_neg (may_f2 h)]
  · rw [if_neg (by decide), if_neg (may_f1 hb)]
theorem waysBefore_loop {k p e : Nat} {a mw : Nat → Int32} {w : Nat → Nat} (hk : k ≤ 12) (hp : p < 2 ^ k) (he : e ≤ k) (hw : ∀ r, r < e → may a r p = true → mw (p ||| 2 ^ r) = nI (w (p ||| 2 ^ r))) :
    ∀ (f d r : Nat), r + d = e → d < f → fX4_waysBefore_h5 f (nI p) (nI e) (nI (Sm (fun r => may a r p) w p r)) (nI r) (nI k) a mw = some (nI (Sm (fun r => may a r p) w p e)) := by
  intro f
  induction f with
  | zero => intro d r _ h; omega
  | succ f ih =>
    intro d r hr hd
    show uX4_waysBefore_h5 (fX4_waysBefore_h5 f) (nI p) (nI e) _ (nI r) (nI k) a mw = _
    unfold uX4_waysBefore_h5
    cases d with
    | zero =>
      obtain rfl : r = e := by omega
      rw [if_pos (nI_le (by omega) (by omega))]
    | succ d =>
      have hpw := pw12 hk
      have hor := or_lt hp (show r < k by omega)
      rw [if_neg (nI_ge (by omega) (by omega)), mayCome_v hk (by omega), Option.bind_some, nI_pow r (by omega), nI_or, ck_n (by omega) (by omega), nI_clamp (by omega), nI_1]
      have h2 := ih d (r + 1) (by omega) (by omega)
      rw [show Sm (fun r => may a r p) w p (r + 1) = Sm (fun r => may a r p) w p r + (if may a r p = true then w (p ||| 2 ^ r) else 0) from rfl] at h2
      by_cases hm : may a r p = true
      · rw [if_pos hm] at h2
        rw [if_pos hm, if_neg (by decide), hw r (by omega) hm, nI_add]
        exact h2
      · rw [if_neg hm, Nat.add_zero] at h2
        rw [if_neg hm, if_pos rfl]
        exact h2
theorem waysBefore_v {k p e : Nat} {a mw : Nat → Int32} {w : Nat → Nat} (hk : k ≤ 12) (hp : p < 2 ^ k) (he : e ≤ k) (hw : ∀ r, r < e → may a r p = true → mw (p ||| 2 ^ r) = nI (w (p ||| 2 ^ r))) :
    fX4_waysBefore (nI p) (nI e) (nI k) a mw = some (nI (Sm (fun r => may a r p) w p e)) := by
  unfold fX4_waysBefore
  exact waysBefore_loop hk hp he hw FU e 0 (by omega) (by rw [FU_eq]; omega)
/-- the table, row by row from the top -/
def wA (a : Nat → Int32) (k : Nat) : Nat → Nat → Nat
  | 0 => fun p => if p = 2 ^ k - 1 then 1 else 0
  | j + 1 => fun p => if p = 2 ^ k - 1 - (j + 1) then Sm (fun r => may a r p) (wA a k j) p k else wA a k j p
def wT (a : Nat → Int32) (k : Nat) : Nat → Nat := wA a k (2 ^ k - 1)
theorem wA_stable (a : Nat → Int32) (k p j : Nat) (hp : 2 ^ k - 1 - j ≤ p) : ∀ d, j + d ≤ 2 ^ k - 1 → wA a k (j + d) p = wA a k j p
  | 0, _ => rfl
  | d + 1, h => by
    show (if p = 2 ^ k - 1 - (j + d + 1) then Sm (fun r => may a r p) (wA a k (j + d)) p k else wA a k (j + d) p) = _
    rw [if_neg (by omega)]
    exact wA_stable a k p j hp d (by omega)
theorem wT_at (a : Nat → Int32) (k p j : Nat) (hj : j ≤ 2 ^ k - 1) (hp : 2 ^ k - 1 - j ≤ p) : wT a k p = wA a k j p := by
  unfold wT
  have := wA_stable a k p j hp (2 ^ k - 1 - j) (by omega)
  rw [show j + (2 ^ k - 1 - j) = 2 ^ k - 1 by omega] at this
  exact this
theorem wT_top (a : Nat → Int32) (k : Nat) : wT a k (2 ^ k - 1) = 1 := by
  rw [wT_at a k (2 ^ k - 1) 0 (by omega) (by omega)]
  show (if _ then _ else _) = _
  rw [if_pos rfl]
theorem wT_rec (a : Nat → Int32) (k p : Nat) (hp : p < 2 ^ k - 1) : wT a k p = Sm (fun r => may a r p) (wT a k) p k := by
  rw [wT_at a k p (2 ^ k - 1 - p - 1 + 1) (by omega) (by omega)]
  show (if p = 2 ^ k - 1 - (2 ^ k - 1 - p - 1 + 1) then Sm (fun r => may a r p) (wA a k (2 ^ k - 1 - p - 1)) p k else wA a k (2 ^ k - 1 - p - 1) p) = _
  rw [if_pos (by omega)]
  apply Sm_congr
  intro r hr hm
  have h1 := or_gt (may_bit hm)
  exact (wT_at a k (p ||| 2 ^ r) (2 ^ k - 1 - p - 1) (by omega) (by omega)).symm
theorem sub1 (x : Int32) : x + (-1) = x - 1 := by
  rw [Int32.sub_eq_add_neg]
theorem countWays_loop {k : Nat} {a : Nat → Int32} {wc : Int32} (hk : k ≤ 12) : ∀ (f i : Nat) (mw : Nat → Int32), i < f → i ≤ 2 ^ k - 1 → (∀ p, i ≤ p → p < 2 ^ k → mw p = nI (wT a k p)) → ∃ mw', (∀ p, p < 2 ^ k → mw' p = nI (wT a k p)) ∧ fX4_countWays_h28 f (nI i - 1) (nI k) wc a mw = some (1, mw') := by
  intro f
  induction f with
  | zero => intro i mw h; omega
  | succ f ih =>
    intro i mw hf hi hw
    cases i with
    | zero =>
      refine ⟨mw, fun p hp => hw p (by omega) hp, ?_⟩
      show uX4_countWays_h28 (fX4_countWays_h28 f) (nI 0 - 1) (nI k) wc a mw = _
      unfold uX4_countWays_h28
      rw [if_pos (by decide)]
    | succ i =>
      have hpw := pw12 hk
      obtain ⟨mw', g1, g2⟩ := ih i (upd mw i (nI (wT a k i))) (by omega) (by omega) (fun p h1 h2 => by
        by_cases e : p = i
        · subst e; rw [upd_s]
        · rw [upd_n e]; exact hw p (by omega) h2)
      refine ⟨mw', g1, ?_⟩
      rw [← g2]
      show uX4_countWays_h28 (fX4_countWays_h28 f) (nI (i + 1) - 1) (nI k) wc a mw = _
      rw [nI_pred]
      unfold uX4_countWays_h28
      rw [if_neg (nI_pos (by omega)), waysBefore_v (w := wT a k) hk (by omega) (Nat.le_refl k) (fun r hr hm => hw _ (by have := or_gt (may_bit hm); omega) (or_lt (by omega) hr)), Option.bind_some, ck_n (by omega) (by omega), nI_clamp (by omega), sub1, ← wT_rec a k i (by omega)]
theorem countWays_v {k : Nat} {a mw : Nat → Int32} (hk : k ≤ 12) : ∃ mw', (∀ p, p < 2 ^ k → mw' p = nI (wT a k p)) ∧ fX4_countWays (nI k) 0 a mw = some (1, mw') := by
  have hpw := pw12 hk
  have hps := pw_pos k
  have e1 : ((1 : Int32) <<< (nI k &&& 31)) - 1 = nI (2 ^ k - 1) := by
    rw [nI_pow k (by omega), show 2 ^ k = (2 ^ k - 1) + 1 by omega, nI_pred]
    rfl
  obtain ⟨mw', g1, g2⟩ := countWays_loop (a := a) (wc := 0) hk FU (2 ^ k - 1) (upd mw (2 ^ k - 1) 1) (by rw [FU_eq]; omega) (Nat.le_refl _) (fun p h1 h2 => by
    obtain rfl : p = 2 ^ k - 1 := by omega
    rw [upd_s, wT_top]
    rfl)
  refine ⟨mw', g1, ?_⟩
  unfold fX4_countWays
  rw [if_pos rfl, e1, ck_n (by omega) (by omega), nI_clamp (by omega)]
  exact g2
/-! the same table in the reference, as longs -/
theorem updL_upd (f : Nat → Int64) (k : Nat) (x y : Int64) : vp_updL (vp_updL f k x) k y = vp_updL f k y := by
  funext j
  unfold vp_updL
  by_cases h : j = k
  · rw [if_pos h, if_pos h]
  · rw [if_neg h, if_neg h, if_neg h]
section RELW
variable {k : Nat} {kd vs ws num b be a : Nat → Int32}
theorem rel179 (hk : k ≤ 12) (hbe : ∀ r, r < k → be r = a r) (k166 : Int32 → Int32 → (Nat → Int32) → (Nat → Int32) → (Nat → Int32) → (Nat → Int32) → (Nat → Int32) → (Nat → Int32) → (Nat → Int64) → Option ((Nat → Int32) × (Nat → Int32) × (Nat → Int64))) {p : Nat} (hp : p < 2 ^ k) {w : Nat → Nat} (wy : Nat → Int64) (hw : ∀ q, p < q → q < 2 ^ k → wy q = lN (w q)) :
    ∀ (f d r : Nat), r + d = k → d < f → fX6_relate_h179 k166 f (nI p) (nI r) (nI k) kd vs ws num b be (vp_updL wy p (lN (Sm (fun r => may a r p) w p r))) = k166 (nI p + (-1)) (nI k) kd vs ws num b be (vp_updL wy p (lN (Sm (fun r => may a r p) w p k))) := by
  intro f
  induction f with
  | zero => intro d r _ h; omega
  | succ f ih =>
    intro d r hr hd
    show uX6_relate_h179 k166 (fX6_relate_h179 k166 f) (nI p) (nI r) (nI k) kd vs ws num b be (vp_updL wy p (lN (Sm (fun r => may a r p) w p r))) = _
    unfold uX6_relate_h179
    cases d with
    | zero =>
      obtain rfl : r = k := by omega
      rw [if_pos (nI_le (by omega) (by omega))]
    | succ d =>
      have hpw := pw12 hk
      have hor := or_lt hp (show r < k by omega)
      have h2 := ih d (r + 1) (by omega) (by omega)
      rw [show Sm (fun r => may a r p) w p (r + 1) = Sm (fun r => may a r p) w p r + (if may a r p = true then w (p ||| 2 ^ r) else 0) from rfl] at h2
      have ct := fun (x : Option ((Nat → Int32) × (Nat → Int32) × (Nat → Int64))) => ck_n (x := x) (show p < 4096 by omega) (show 4096 < 2 ^ 31 by omega)
      have c2 := fun (x : Option ((Nat → Int32) × (Nat → Int32) × (Nat → Int64))) => ck_n (x := x) (show p ||| 2 ^ r < 4096 by omega) (show 4096 < 2 ^ 31 by omega)
      have c3 := fun (x : Option ((Nat → Int32) × (Nat → Int32) × (Nat → Int64))) => ck_n (x := x) (show r < 12 by omega) (show 12 < 2 ^ 31 by omega)
      rw [if_neg (nI_ge (by omega) (by omega)), shr_bit _ (by omega), bt_n (by omega), nI_pow r (by omega), nI_or, c3, nI_clamp (show r < 2 ^ 31 by omega), hbe r (by omega), nI_1]
      cases hb : p.testBit r
      · rw [if_pos (by decide)]
        have hgt := or_gt hb
        by_cases h : (a r &&& (nI p ^^^ (-1))) = 0
        · rw [if_pos (may_t hb h)] at h2
          rw [if_pos h, ct, c2, ct, nI_clamp (by omega), nI_clamp (by omega), updL_s, updL_n (show p ||| 2 ^ r ≠ p by omega), updL_upd, hw _ hgt hor, lN_add]
          exact h2
        · rw [if_neg (may_f2 h), Nat.add_zero] at h2
          rw [if_neg h]
          exact h2
      · rw [if_neg (may_f1 hb), Nat.add_zero] at h2
        rw [if_neg (by decide)]
        exact h2
theorem rel166 (hk : k ≤ 12) (hbe : ∀ r, r < k → be r = a r) : ∀ (f i : Nat) (wy : Nat → Int64), i < f → i ≤ 2 ^ k - 1 → (∀ p, i ≤ p → p < 2 ^ k → wy p = lN (wT a k p)) → ∃ wy', (∀ p, p < 2 ^ k → wy' p = lN (wT a k p)) ∧ fX6_relate_h166 f (nI i - 1) (nI k) kd vs ws num b be wy = some (b, be, wy') := by
  intro f
  induction f with
  | zero => intro i wy h; omega
  | succ f ih =>
    intro i wy hf hi hw
    cases i with
    | zero =>
      refine ⟨wy, fun p hp => hw p (by omega) hp, ?_⟩
      show uX6_relate_h166 (fX6_relate_h166 f) (nI 0 - 1) (nI k) kd vs ws num b be wy = _
      unfold uX6_relate_h166
      rw [if_pos (by decide)]
    | succ i =>
      have hpw := pw12 hk
      obtain ⟨wy', g1, g2⟩ := ih i (vp_updL wy i (lN (wT a k i))) (by omega) (by omega) (fun p h1 h2 => by
        by_cases e : p = i
        · subst e; rw [updL_s]
        · rw [updL_n e]; exact hw p (by omega) h2)
      refine ⟨wy', g1, ?_⟩
      rw [← g2]
      show uX6_relate_h166 (fX6_relate_h166 f) (nI (i + 1) - 1) (nI k) kd vs ws num b be wy = _
      rw [nI_pred]
      unfold uX6_relate_h166
      rw [if_neg (nI_pos (by omega)), ck_n (by omega) (by omega), nI_clamp (by omega), ← sub1]
      have h := rel179 (kd := kd) (vs := vs) (ws := ws) (num := num) (b := b) hk hbe (fX6_relate_h166 f) (p := i) (by omega) (w := wT a k) wy (fun q h1 h2 => hw q (by omega) h2) FU k 0 (by omega) (by rw [FU_eq]; omega)
      rw [← wT_rec a k i (by omega)] at h
      exact h
end RELW
/-- relate(), whole: behind[], before[] and the table -/
theorem relate_v {k : Nat} {kd vs ws num b0 be0 a : Nat → Int32} {ln : Nat → Nat} {wy0 : Nat → Int64} (hk : k ≤ 12) (hnum : ∀ r, r < k → num r = nI (ln r) ∧ ln r < 16) (ha : AhOK (fun r q => tB kd vs ws (ln r) (ln q)) k a) :
    ∃ b be wy, BehOK (fun r q => tB kd vs ws (ln r) (ln q)) k 0 b ∧ (∀ r, r < k → be r = a r) ∧ (∀ p, p < 2 ^ k → wy p = lN (wT a k p)) ∧ fX6_relate (nI k) kd vs ws num b0 be0 wy0 = some (b, be, wy) := by
  have hpw := pw12 hk
  have hps := pw_pos k
  have e1 : ((1 : Int32) <<< (nI k &&& 31)) - 1 = nI (2 ^ k - 1) := by
    rw [nI_pow k (by omega), show 2 ^ k = (2 ^ k - 1) + 1 by omega, nI_pred]
    rfl
  obtain ⟨b, hb, e2⟩ := rel7 (be := be0) (wy := wy0) hk hnum FU k b0 (Nat.le_refl k) (by rw [FU_eq]; omega) (fun r h1 h2 => by omega)
  obtain ⟨be, hbe, e3⟩ := rel82 (kd := kd) (vs := vs) (ws := ws) (num := num) (b := b) (wy := wy0) hk FU k 0 be0 (by omega) (by rw [FU_eq]; omega) (fun j hj => by omega)
  have hbe' : ∀ r, r < k → be r = a r := fun r hr => (hbe r hr).trans (ah_facc hk ha hb hr)
  obtain ⟨wy, hwy, e4⟩ := rel166 (kd := kd) (vs := vs) (ws := ws) (num := num) (b := b) hk hbe' FU (2 ^ k - 1) (vp_updL wy0 (2 ^ k - 1) 1) (by rw [FU_eq]; omega) (Nat.le_refl _) (fun p h1 h2 => by
    obtain rfl : p = 2 ^ k - 1 := by omega
    rw [updL_s, wT_top]
    rfl)
  refine ⟨b, be, wy, hb, hbe', hwy, ?_⟩
  unfold fX6_relate
  rw [e2, show (0 : Int32) = nI 0 from rfl, e3, e1, ck_n (by omega) (by omega), nI_clamp (by omega)]
  exact e4
