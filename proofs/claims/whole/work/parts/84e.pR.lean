/-! the reference: relate() -/
def bacc (T : Nat → Bool) (b : Nat → Int32) : Int32 → Nat → Nat → Int32
  | acc, _, 0 => acc
  | acc, q, d + 1 => bacc T b (if T q = true then acc ||| (nI (2 ^ q) ||| b q) else acc) (q + 1) d
theorem upd_upd (f : Nat → Int32) (k : Nat) (x y : Int32) : upd (upd f k x) k y = upd f k y := by
  funext j
  unfold upd
  by_cases h : j = k
  · rw [if_pos h, if_pos h]
  · rw [if_neg h, if_neg h, if_neg h]
theorem bacc_congr {T : Nat → Bool} {b c : Nat → Int32} : ∀ (d q : Nat) (acc : Int32), (∀ j, q ≤ j → j < q + d → b j = c j) → bacc T b acc q d = bacc T c acc q d
  | 0, _, _, _ => rfl
  | d + 1, q, acc, h => by
    show bacc T b (if T q = true then acc ||| (nI (2 ^ q) ||| b q) else acc) (q + 1) d = bacc T c (if T q = true then acc ||| (nI (2 ^ q) ||| c q) else acc) (q + 1) d
    rw [h q (by omega) (by omega)]
    exact bacc_congr d (q + 1) _ (fun j h1 h2 => h j (by omega) (by omega))
section REL
variable {k : Nat} {kd vs ws num : Nat → Int32} {ln : Nat → Nat}
theorem rel22 (hk : k ≤ 12) (hnum : ∀ r, r < k → num r = nI (ln r) ∧ ln r < 16) {be : Nat → Int32} {wy : Nat → Int64} (k7 : Int32 → Int32 → (Nat → Int32) → (Nat → Int32) → (Nat → Int32) → (Nat → Int32) → (Nat → Int32) → (Nat → Int32) → (Nat → Int64) → Option ((Nat → Int32) × (Nat → Int32) × (Nat → Int64))) {r : Nat} (hr : r < k) (b : Nat → Int32) :
    ∀ (f d q : Nat) (acc : Int32), q + d = k → r < q → d < f → fX6_relate_h22 k7 f (nI r) (nI q) (nI k) kd vs ws num (upd b r acc) be wy = k7 (nI r + (-1)) (nI k) kd vs ws num (upd b r (bacc (fun q => tB kd vs ws (ln r) (ln q)) b acc q d)) be wy := by
  intro f
  induction f with
  | zero => intro d q acc _ _ h; omega
  | succ f ih =>
    intro d q acc hq hrq hd
    show uX6_relate_h22 k7 (fX6_relate_h22 k7 f) (nI r) (nI q) (nI k) kd vs ws num (upd b r acc) be wy = _
    unfold uX6_relate_h22
    cases d with
    | zero =>
      rw [if_pos (nI_le (by omega) (by omega))]
      rfl
    | succ d =>
      obtain ⟨e1, e2⟩ := hnum r hr
      obtain ⟨e3, e4⟩ := hnum q (by omega)
      have k12 : (12 : Nat) < 2 ^ 31 := by omega
      have cr := fun x : Option ((Nat → Int32) × (Nat → Int32) × (Nat → Int64)) => ck_n (x := x) (show r < 12 by omega) k12
      have cq := fun x : Option ((Nat → Int32) × (Nat → Int32) × (Nat → Int64)) => ck_n (x := x) (show q < 12 by omega) k12
      rw [if_neg (nI_ge (by omega) (by omega))]
      simp only [cr, cq, nI_clamp (show r < 2 ^ 31 by omega), nI_clamp (show q < 2 ^ 31 by omega), e1, e3, touch_v e2 e4, Option.bind_some, nI_1, nI_pow q (show q < 31 by omega), upd_s, upd_upd, upd_n (show q ≠ r by omega)]
      have h2 := fun acc => ih d (q + 1) acc (by omega) (by omega) (by omega)
      show _ = k7 (nI r + (-1)) (nI k) kd vs ws num (upd b r (bacc _ b (if tB kd vs ws (ln r) (ln q) = true then acc ||| (nI (2 ^ q) ||| b q) else acc) (q + 1) d)) be wy
      by_cases ht : tB kd vs ws (ln r) (ln q) = true
      · rw [if_pos ht, if_neg (by decide), h2, if_pos ht]
      · rw [if_neg ht, if_pos rfl, h2, if_neg ht]
/-- the rows behind[], from a rank on, done -/
def BehOK (T : Nat → Nat → Bool) (k lo : Nat) (b : Nat → Int32) : Prop := ∀ r, lo ≤ r → r < k → b r = bacc (T r) b 0 (r + 1) (k - 1 - r)
theorem rel7 (hk : k ≤ 12) (hnum : ∀ r, r < k → num r = nI (ln r) ∧ ln r < 16) {be : Nat → Int32} {wy : Nat → Int64} :
    ∀ (f i : Nat) (b : Nat → Int32), i ≤ k → i < f → BehOK (fun r q => tB kd vs ws (ln r) (ln q)) k i b → ∃ b', BehOK (fun r q => tB kd vs ws (ln r) (ln q)) k 0 b' ∧ fX6_relate_h7 f (nI i - 1) (nI k) kd vs ws num b be wy = fX6_relate_h82 FU 0 (nI k) kd vs ws num b' be wy := by
  intro f
  induction f with
  | zero => intro i b _ h; omega
  | succ f ih =>
    intro i b hi hf hb
    cases i with
    | zero =>
      refine ⟨b, hb, ?_⟩
      show uX6_relate_h7 (fX6_relate_h7 f) (nI 0 - 1) (nI k) kd vs ws num b be wy = _
      unfold uX6_relate_h7
      rw [if_pos (by decide)]
    | succ r =>
      have hb' : BehOK (fun r q => tB kd vs ws (ln r) (ln q)) k r (upd b r (bacc (fun q => tB kd vs ws (ln r) (ln q)) b 0 (r + 1) (k - 1 - r))) := by
        intro r' h1 h2
        by_cases e : r' = r
        · subst e
          rw [upd_s]
          exact bacc_congr _ _ _ (fun j h3 h4 => (upd_n (by omega)).symm)
        · rw [upd_n e, hb r' (by omega) h2]
          exact bacc_congr _ _ _ (fun j h3 h4 => (upd_n (by omega)).symm)
      obtain ⟨b', g1, g2⟩ := ih r _ (by omega) (by omega) hb'
      refine ⟨b', g1, ?_⟩
      rw [← g2]
      show uX6_relate_h7 (fX6_relate_h7 f) (nI (r + 1) - 1) (nI k) kd vs ws num b be wy = _
      rw [nI_pred]
      unfold uX6_relate_h7
      rw [if_neg (nI_pos (by omega)), ck_n (by omega) (by omega), nI_clamp (by omega), nI_1, rel22 hk hnum _ (by omega) b FU (k - 1 - r) (r + 1) 0 (by omega) (by omega) (by rw [FU_eq]; omega)]
      cases r with
      | zero => rfl
      | succ r => rw [pk_m1, nI_pred]
/-- before[] out of behind[] -/
def facc (b : Nat → Int32) (r : Nat) : Nat → Int32
  | 0 => 0
  | q + 1 => if bt (b q) r = true then facc b r q ||| nI (2 ^ q) else facc b r q
theorem rel99 (hk : k ≤ 12) {b : Nat → Int32} {wy : Nat → Int64} (k82 : Int32 → Int32 → (Nat → Int32) → (Nat → Int32) → (Nat → Int32) → (Nat → Int32) → (Nat → Int32) → (Nat → Int32) → (Nat → Int64) → Option ((Nat → Int32) × (Nat → Int32) × (Nat → Int64))) {r : Nat} (hr : r < k) (be : Nat → Int32) :
    ∀ (f d q : Nat), q + d = r → d < f → fX6_relate_h99 k82 f (nI r) (nI q) (nI k) kd vs ws num b (upd be r (facc b r q)) wy = k82 (nI (r + 1)) (nI k) kd vs ws num b (upd be r (facc b r r)) wy := by
  intro f
  induction f with
  | zero => intro d q _ h; omega
  | succ f ih =>
    intro d q hq hd
    show uX6_relate_h99 k82 (fX6_relate_h99 k82 f) (nI r) (nI q) (nI k) kd vs ws num b (upd be r (facc b r q)) wy = _
    unfold uX6_relate_h99
    cases d with
    | zero =>
      obtain rfl : q = r := by omega
      rw [if_pos (nI_le (by omega) (by omega)), nI_1]
    | succ d =>
      have k12 : (12 : Nat) < 2 ^ 31 := by omega
      have cr := fun x : Option ((Nat → Int32) × (Nat → Int32) × (Nat → Int64)) => ck_n (x := x) (show r < 12 by omega) k12
      have cq := fun x : Option ((Nat → Int32) × (Nat → Int32) × (Nat → Int64)) => ck_n (x := x) (show q < 12 by omega) k12
      rw [if_neg (nI_ge (by omega) (by omega))]
      simp only [cr, cq, nI_clamp (show r < 2 ^ 31 by omega), nI_clamp (show q < 2 ^ 31 by omega), nI_1, nI_pow q (show q < 31 by omega), upd_s, upd_upd, shr_bit _ (show r < 32 by omega)]
      have h2 := ih d (q + 1) (by omega) (by omega)
      rw [show facc b r (q + 1) = if bt (b q) r = true then facc b r q ||| nI (2 ^ q) else facc b r q from rfl] at h2
      by_cases ht : bt (b q) r = true
      · rw [if_pos ht] at h2
        rw [if_pos ht, if_pos rfl]
        exact h2
      · rw [if_neg ht] at h2
        rw [if_neg ht, if_neg (by decide), show facc b r q ||| 0 = facc b r q from b_ext (fun i hi => by rw [b_or, b_0, Bool.or_false])]
        exact h2
theorem rel82 (hk : k ≤ 12) {b : Nat → Int32} {wy : Nat → Int64} :
    ∀ (f d r : Nat) (be : Nat → Int32), r + d = k → d < f → (∀ j, j < r → be j = facc b j j) → ∃ be', (∀ j, j < k → be' j = facc b j j) ∧ fX6_relate_h82 f (nI r) (nI k) kd vs ws num b be wy = ck (inB (((1 : Int32) <<< (nI k &&& 31)) - 1) 4096) (fX6_relate_h166 FU ((((1 : Int32) <<< (nI k &&& 31)) - 1) - 1) (nI k) kd vs ws num b be' (vp_updL wy ((((1 : Int32) <<< (nI k &&& 31)) - 1)).toNatClampNeg 1)) := by
  intro f
  induction f with
  | zero => intro d r be _ h; omega
  | succ f ih =>
    intro d r be hr hd hb
    cases d with
    | zero =>
      obtain rfl : r = k := by omega
      refine ⟨be, hb, ?_⟩
      show uX6_relate_h82 (fX6_relate_h82 f) (nI r) (nI r) kd vs ws num b be wy = _
      unfold uX6_relate_h82
      rw [if_pos (nI_le (by omega) (by omega))]
    | succ d =>
      obtain ⟨be', g1, g2⟩ := ih d (r + 1) (upd be r (facc b r r)) (by omega) (by omega) (fun j hj => by
        by_cases e : j = r
        · subst e; rw [upd_s]
        · rw [upd_n e]; exact hb j (by omega))
      refine ⟨be', g1, ?_⟩
      rw [← g2]
      show uX6_relate_h82 (fX6_relate_h82 f) (nI r) (nI k) kd vs ws num b be wy = _
      unfold uX6_relate_h82
      rw [if_neg (nI_ge (by omega) (by omega)), ck_n (by omega) (by omega), nI_clamp (by omega)]
      exact rel99 hk _ (by omega) be FU r 0 (by omega) (by rw [FU_eq]; omega)
end REL
theorem bacc_bt (T : Nat → Bool) (b : Nat → Int32) {i : Nat} (hi : i < 32) : ∀ (d q : Nat) (acc : Int32), q + d ≤ 12 → (bt (bacc T b acc q d) i = true ↔ bt acc i = true ∨ ∃ s, q ≤ s ∧ s < q + d ∧ T s = true ∧ (i = s ∨ bt (b s) i = true))
  | 0, q, acc, _ => by
    show bt acc i = true ↔ _
    constructor
    · intro h; exact Or.inl h
    · rintro (h | ⟨s, h1, h2, _⟩)
      · exact h
      · omega
  | d + 1, q, acc, hq => by
    show bt (bacc T b (if T q = true then acc ||| (nI (2 ^ q) ||| b q) else acc) (q + 1) d) i = true ↔ _
    rw [bacc_bt T b hi d (q + 1) _ (by omega)]
    by_cases hT : T q = true
    · rw [if_pos hT, b_or, b_or, bt_pow (by omega) hi, Bool.or_eq_true, Bool.or_eq_true, decide_eq_true_iff]
      constructor
      · rintro ((h | h | h) | ⟨s, h1, h2, h3⟩)
        · exact Or.inl h
        · exact Or.inr ⟨q, by omega, by omega, hT, Or.inl h.symm⟩
        · exact Or.inr ⟨q, by omega, by omega, hT, Or.inr h⟩
        · exact Or.inr ⟨s, by omega, by omega, h3⟩
      · rintro (h | ⟨s, h1, h2, h3, h4⟩)
        · exact Or.inl (Or.inl h)
        · by_cases e : s = q
          · subst e
            rcases h4 with h4 | h4
            · exact Or.inl (Or.inr (Or.inl h4.symm))
            · exact Or.inl (Or.inr (Or.inr h4))
          · exact Or.inr ⟨s, by omega, by omega, h3, h4⟩
    · rw [if_neg hT]
      constructor
      · rintro (h | ⟨s, h1, h2, h3⟩)
        · exact Or.inl h
        · exact Or.inr ⟨s, by omega, by omega, h3⟩
      · rintro (h | ⟨s, h1, h2, h3, h4⟩)
        · exact Or.inl h
        · by_cases e : s = q
          · subst e; exact absurd h3 hT
          · exact Or.inr ⟨s, by omega, by omega, h3, h4⟩
theorem facc_bt (b : Nat → Int32) (r : Nat) {i : Nat} (hi : i < 32) : ∀ q, q ≤ 12 → (bt (facc b r q) i = true ↔ i < q ∧ bt (b i) r = true)
  | 0, _ => by
    show bt 0 i = true ↔ _
    rw [b_0]
    constructor
    · intro h; cases h
    · rintro ⟨h, _⟩; omega
  | q + 1, hq => by
    have ih := facc_bt b r hi q (by omega)
    show bt (if bt (b q) r = true then facc b r q ||| nI (2 ^ q) else facc b r q) i = true ↔ _
    by_cases h : bt (b q) r = true
    · rw [if_pos h, b_or, bt_pow (by omega) hi, Bool.or_eq_true, ih, decide_eq_true_iff]
      constructor
      · rintro (⟨h1, h2⟩ | h1)
        · exact ⟨by omega, h2⟩
        · subst h1; exact ⟨by omega, h⟩
      · rintro ⟨h1, h2⟩
        by_cases e : i = q
        · exact Or.inr e.symm
        · exact Or.inl ⟨by omega, h2⟩
    · rw [if_neg h, ih]
      constructor
      · rintro ⟨h1, h2⟩; exact ⟨by omega, h2⟩
      · rintro ⟨h1, h2⟩
        by_cases e : i = q
        · subst e; exact absurd h2 h
        · exact ⟨by omega, h2⟩
/-! the two ways to chain come to the same -/
def AhOK (T : Nat → Nat → Bool) (k : Nat) (a : Nat → Int32) : Prop := ∀ q, q < k → a q = jm (fun r => T r q) a q
section CHAIN
variable {T : Nat → Nat → Bool} {k : Nat} {a b : Nat → Int32}
theorem ah_iff (hk : k ≤ 12) (h : AhOK T k a) {q i : Nat} (hq : q < k) (hi : i < 32) : bt (a q) i = true ↔ ∃ s, s < q ∧ T s q = true ∧ (i = s ∨ bt (a s) i = true) := by
  rw [h q hq]
  have := jm_bt (fun r => T r q) a q i (by omega) hi
  rw [← h q hq] at this ⊢
  exact this
theorem be_iff (hk : k ≤ 12) (h : BehOK T k 0 b) {r i : Nat} (hr : r < k) (hi : i < 32) : bt (b r) i = true ↔ ∃ s, r < s ∧ s < k ∧ T r s = true ∧ (i = s ∨ bt (b s) i = true) := by
  have e := h r (by omega) hr
  have := bacc_bt (T r) b hi (k - 1 - r) (r + 1) 0 (by omega)
  rw [← e, b_0] at this
  rw [this]
  constructor
  · rintro (h | ⟨s, h1, h2, h3⟩)
    · cases h
    · exact ⟨s, by omega, by omega, h3⟩
  · rintro ⟨s, h1, h2, h3⟩
    exact Or.inr ⟨s, by omega, by omega, h3⟩
theorem be_up (hk : k ≤ 12) (h : BehOK T k 0 b) : ∀ (d r : Nat), r + d = k → ∀ i, i < 32 → r < k → bt (b r) i = true → r < i ∧ i < k := by
  intro d
  induction d using Nat.strongRecOn with
  | _ d ih =>
    intro r hr i hi hrk hb
    obtain ⟨s, h1, h2, h3, h4⟩ := (be_iff hk h hrk hi).mp hb
    rcases h4 with h4 | h4
    · exact ⟨by omega, by omega⟩
    · have := ih (k - s) (by omega) s (by omega) i hi h2 h4
      exact ⟨by omega, this.2⟩
theorem ah_up (hk : k ≤ 12) (h : AhOK T k a) : ∀ (q : Nat), q < k → ∀ i, i < 32 → bt (a q) i = true → i < q := by
  intro q
  induction q using Nat.strongRecOn with
  | _ q ih =>
    intro hq i hi hb
    obtain ⟨s, h1, h2, h3⟩ := (ah_iff hk h hq hi).mp hb
    rcases h3 with h3 | h3
    · omega
    · have := ih s h1 (by omega) i hi h3
      omega
theorem be_ext (hk : k ≤ 12) (h : BehOK T k 0 b) {s q : Nat} (hq : q < k) (hsq : s < q) (ht : T s q = true) : ∀ (d r : Nat), r + d = s → bt (b r) s = true → bt (b r) q = true := by
  intro d
  induction d using Nat.strongRecOn with
  | _ d ih =>
    intro r hr hb
    obtain ⟨s', h1, h2, h3, h4⟩ := (be_iff hk h (by omega) (by omega)).mp hb
    refine (be_iff hk h (by omega) (by omega)).mpr ⟨s', h1, h2, h3, ?_⟩
    rcases h4 with h4 | h4
    · subst h4
      exact Or.inr ((be_iff hk h (by omega) (by omega)).mpr ⟨q, hsq, hq, ht, Or.inl rfl⟩)
    · have hs := (be_up hk h (k - s') s' (by omega) s (by omega) h2 h4).1
      exact Or.inr (ih (s - s') (by omega) s' (by omega) h4)
theorem ah_ext (hk : k ≤ 12) (h : AhOK T k a) {r s : Nat} (hrs : r < s) (ht : T r s = true) : ∀ (q : Nat), q < k → bt (a q) s = true → bt (a q) r = true := by
  intro q
  induction q using Nat.strongRecOn with
  | _ q ih =>
    intro hq hb
    have hsq := ah_up hk h q hq s
    by_cases hs : s < 32
    · have hsq := hsq hs hb
      obtain ⟨s', h1, h2, h3⟩ := (ah_iff hk h hq hs).mp hb
      refine (ah_iff hk h hq (by omega)).mpr ⟨s', h1, h2, ?_⟩
      rcases h3 with h3 | h3
      · subst h3
        exact Or.inr ((ah_iff hk h (by omega) (by omega)).mpr ⟨r, hrs, ht, Or.inl rfl⟩)
      · exact Or.inr (ih s' h1 (by omega) h3)
    · rw [b_big (by omega)] at hb
      cases hb
theorem ah_be (hk : k ≤ 12) (ha : AhOK T k a) (hb : BehOK T k 0 b) : ∀ (q : Nat), q < k → ∀ r, r < k → bt (a q) r = true → bt (b r) q = true := by
  intro q
  induction q using Nat.strongRecOn with
  | _ q ih =>
    intro hq r hr h
    obtain ⟨s, h1, h2, h3⟩ := (ah_iff hk ha hq (by omega)).mp h
    rcases h3 with h3 | h3
    · subst h3
      exact (be_iff hk hb hr (by omega)).mpr ⟨q, h1, hq, h2, Or.inl rfl⟩
    · have g := ih s h1 (by omega) r hr h3
      have hrs := ah_up hk ha s (by omega) r (by omega) h3
      exact be_ext hk hb hq h1 h2 (s - r) r (by omega) g
theorem be_ah (hk : k ≤ 12) (ha : AhOK T k a) (hb : BehOK T k 0 b) : ∀ (d r : Nat), r + d = k → r < k → ∀ q, q < k → bt (b r) q = true → bt (a q) r = true := by
  intro d
  induction d using Nat.strongRecOn with
  | _ d ih =>
    intro r hr hrk q hq h
    obtain ⟨s, h1, h2, h3, h4⟩ := (be_iff hk hb hrk (by omega)).mp h
    rcases h4 with h4 | h4
    · subst h4
      exact (ah_iff hk ha hq (by omega)).mpr ⟨r, h1, h3, Or.inl rfl⟩
    · exact ah_ext hk ha h1 h3 q hq (ih (k - s) (by omega) s (by omega) h2 q hq h4)
theorem ah_is_be (hk : k ≤ 12) (ha : AhOK T k a) (hb : BehOK T k 0 b) {q r : Nat} (hq : q < k) (hr : r < k) : bt (a q) r = bt (b r) q := by
  rw [Bool.eq_iff_iff]
  exact ⟨ah_be hk ha hb q hq r hr, be_ah hk ha hb (k - r) r (by omega) hr q hq⟩
/-- before[] is ahead[] -/
theorem ah_facc (hk : k ≤ 12) (ha : AhOK T k a) (hb : BehOK T k 0 b) {q : Nat} (hq : q < k) : facc b q q = a q := by
  apply b_ext
  intro i hi
  rw [Bool.eq_iff_iff, facc_bt b q hi q (by omega)]
  constructor
  · rintro ⟨h1, h2⟩
    rw [ah_is_be hk ha hb hq (by omega)]
    exact h2
  · intro h
    have h1 := ah_up hk ha q hq i hi h
    refine ⟨h1, ?_⟩
    rw [← ah_is_be hk ha hb hq (by omega)]
    exact h
end CHAIN
