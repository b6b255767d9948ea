/-! the reference's best choice is the class's -/
theorem c0_front (S : Nat → Bool) : ∀ e, c0 S (e + 1) = (if S 0 = true then 1 else 0) + c0 (fun s => S (s + 1)) e
  | 0 => by
    show 0 + (if S 0 = true then 1 else 0) = (if S 0 = true then 1 else 0) + 0
    omega
  | e + 1 => by
    show c0 S (e + 1) + (if S (e + 1) = true then 1 else 0) = (if S 0 = true then 1 else 0) + (c0 (fun s => S (s + 1)) e + (if S (e + 1) = true then 1 else 0))
    rw [c0_front S e]
    omega
theorem c0_rev (f : Nat → Bool) : ∀ t, c0 (fun s => f (t - 1 - s)) t = c0 f t
  | 0 => rfl
  | t + 1 => by
    rw [c0_front]
    show (if f (t + 1 - 1 - 0) = true then 1 else 0) + c0 (fun s => f (t + 1 - 1 - (s + 1))) t = c0 f t + (if f t = true then 1 else 0)
    rw [show t + 1 - 1 - 0 = t by omega, c0_congr (S := fun s => f (t + 1 - 1 - (s + 1))) (S' := fun s => f (t - 1 - s)) t (fun j hj => by show f _ = f _; congr 1; omega), c0_rev f t]
    omega
theorem c0_add {S : Nat → Bool} {e : Nat} : ∀ d, (∀ j, e ≤ j → j < e + d → S j = false) → c0 S (e + d) = c0 S e
  | 0, _ => rfl
  | d + 1, h => by
    show c0 S (e + d) + (if S (e + d) = true then 1 else 0) = c0 S e
    rw [c0_add d (fun j h1 h2 => h j h1 (by omega)), h (e + d) (by omega) (by omega)]
    rfl
theorem c0_cn (S : Nat → Bool) (e : Nat) : cn S 0 e = c0 S e := by
  have := cn_c0 S e 0
  rw [show c0 S 0 = 0 from rfl, Nat.add_zero, Nat.zero_add] at this
  exact this
/-- bits, the first item highest -/
def en (g : Nat → Bool) : Nat → Nat
  | 0 => 0
  | s + 1 => 2 * en g s + (if g s = true then 1 else 0)
theorem en_lt (g : Nat → Bool) : ∀ t, en g t < 2 ^ t
  | 0 => by show 0 < 1; omega
  | t + 1 => by
    have := en_lt g t
    show 2 * en g t + (if g t = true then 1 else 0) < 2 ^ (t + 1)
    rw [Nat.pow_succ]
    split <;> omega
theorem en_bit (g : Nat → Bool) : ∀ (t s : Nat), s < t → (en g t).testBit (t - 1 - s) = g s
  | 0, _, h => by omega
  | t + 1, s, h => by
    show (2 * en g t + (if g t = true then 1 else 0)).testBit (t + 1 - 1 - s) = g s
    by_cases e : s = t
    · subst e
      rw [show s + 1 - 1 - s = 0 by omega, Nat.testBit_zero]
      cases hg : g s
      · rw [if_neg (by decide)]
        exact decide_eq_false (by omega)
      · rw [if_pos rfl]
        exact decide_eq_true (by omega)
    · rw [show t + 1 - 1 - s = (t - 1 - s) + 1 by omega, Nat.testBit_succ, show (2 * en g t + (if g t = true then 1 else 0)) / 2 = en g t by split <;> omega]
      exact en_bit g t s (by omega)
theorem pc_t {t b : Nat} (ht : t ≤ 16) (hb : b < 2 ^ t) : c0 (fun s => b.testBit (t - 1 - s)) t = pc b := by
  rw [c0_rev (fun j => b.testBit j) t, pc_c0]
  have := c0_add (S := fun j => b.testBit j) (e := t) (16 - t) (fun j h1 h2 => Nat.testBit_lt_two_pow (Nat.lt_of_lt_of_le hb (Nat.pow_le_pow_right (by omega) h1)))
  rw [show t + (16 - t) = 16 by omega] at this
  exact this.symm
theorem lt_tb : ∀ (i : Nat) {x y : Nat}, x.testBit i = false → y.testBit i = true → (∀ j, i < j → x.testBit j = y.testBit j) → x < y
  | 0, x, y, h1, h2, h3 => by
    rw [Nat.testBit_zero] at h1 h2
    have h1 := of_decide_eq_false h1
    have h2 := of_decide_eq_true h2
    have : x / 2 = y / 2 := Nat.eq_of_testBit_eq (fun j => by
      rw [← Nat.testBit_succ, ← Nat.testBit_succ]
      exact h3 (j + 1) (by omega))
    omega
  | i + 1, x, y, h1, h2, h3 => by
    rw [Nat.testBit_succ] at h1 h2
    have := lt_tb i h1 h2 (fun j hj => by
      rw [← Nat.testBit_succ, ← Nat.testBit_succ]
      exact h3 (j + 1) (by omega))
    omega
section BEST
variable {a : Nat} {T : Nat → Bool} {be : Nat → Int32} {ps rk : Nat → Nat} {ag : Nat → Int32} {cf : Nat → Nat → Bool} {b m : Nat}
theorem feas_iff (ha : a ≤ 16) (hA : AgOK be rk (c0 T a) (c0 T a) ag) {c : Nat} (hc : c < 2 ^ c0 T a) : feas ag (c0 T a) c ↔ ∀ s u, s < u → u < c0 T a → c.testBit (c0 T a - 1 - s) = true → c.testBit (c0 T a - 1 - u) = true → bt (be (rk u)) (rk s) = false := by
  have ht : c0 T a ≤ 16 := Nat.le_trans (c0_le T a) ha
  generalize c0 T a = t at *
  unfold feas
  rw [fB_iff]
  constructor
  · intro h s u hs hu h1 h2
    have := h s (by omega) (by omega)
    unfold okI at this
    rw [h1, Bool.not_true, Bool.false_or, decide_eq_true_iff, z_iff] at this
    have := this (t - 1 - u) (by omega)
    rw [b_and, bt_n (by omega), h2, Bool.and_true, hA s (by omega)] at this
    cases hq : bt (be (rk u)) (rk s)
    · rfl
    · have q := (aacc_bt (fun u => bt (be (rk u)) (rk s)) ht (b := t - 1 - u) (by omega) (t - 1 - s) (s + 1) 0 (by omega)).mpr (Or.inr ⟨u, by omega, hu, hq, rfl⟩)
      rw [this] at q
      cases q
  · intro h s hs0 hs
    unfold okI
    cases h1 : c.testBit (t - 1 - s)
    · rfl
    · rw [Bool.not_true, Bool.false_or, decide_eq_true_iff, z_iff]
      intro i hi
      rw [b_and, bt_n hi]
      cases h2 : c.testBit i
      · rw [Bool.and_false]
      · have hit : i < t := by
          rcases Nat.lt_or_ge i t with q | q
          · exact q
          · rw [Nat.testBit_lt_two_pow (Nat.lt_of_lt_of_le hc (Nat.pow_le_pow_right (by omega) q))] at h2
            cases h2
        rw [Bool.and_true, hA s (by omega)]
        cases hq : bt (aacc (fun u => bt (be (rk u)) (rk s)) t 0 (s + 1) (t - 1 - s)) i
        · rfl
        · rcases (aacc_bt (fun u => bt (be (rk u)) (rk s)) ht (b := i) hi (t - 1 - s) (s + 1) 0 (by omega)).mp hq with q | ⟨u, g1, g2, g3, g4⟩
          · rw [b_0] at q; cases q
          · have := h s u (by omega) g2 h1 (by rw [← g4]; exact h2)
            rw [this] at g3
            cases g3
/-- the places that a choice of items keeps -/
def SS (T : Nat → Bool) (a b : Nat) (p : Nat) : Bool := T p && b.testBit (c0 T a - 1 - c0 T p)
theorem best_eq (ha : a ≤ 16) (hTa : ∀ p, T p = true → p < a) (hA : AgOK be rk (c0 T a) (c0 T a) ag) (hps : ∀ s, s < c0 T a → T (ps s) = true ∧ c0 T (ps s) = s)
    (hcf : ∀ i j, i < j → T i = true → T j = true → cf i j = bt (be (rk (c0 T j))) (rk (c0 T i))) (hI : chI ag (c0 T a) 0 b m) : (∀ j, SS T a b j = gr cf 16 0 T j) ∧ m = c0 (gr cf 16 0 T) 16 := by
  have ht : c0 T a ≤ 16 := Nat.le_trans (c0_le T a) ha
  have hTb : ∀ {p}, T p = true → c0 T p < c0 T a := fun {p} h => c0_lt h (hTa p h)
  have hlt : ∀ {i j}, T i = true → i < j → c0 T i < c0 T j := fun h1 h2 => c0_lt h1 h2
  have hinj : ∀ {i j}, T i = true → T j = true → c0 T i = c0 T j → i = j := by
    intro i j h1 h2 h3
    rcases Nat.lt_trichotomy i j with q | q | q
    · have := hlt h1 q; omega
    · exact q
    · have := hlt h2 q; omega
  have hb : b < 2 ^ c0 T a := by
    rcases hI.1 with ⟨q, _⟩ | ⟨_, q, _⟩
    · rw [q]; exact Nat.two_pow_pos _
    · exact q
  have hpcb : pc b = m := by
    rcases hI.1 with ⟨q1, q2⟩ | ⟨_, _, _, q⟩
    · rw [q1, q2]; decide
    · exact q
  have hfb : feas ag (c0 T a) b := by
    rcases hI.1 with ⟨q, _⟩ | ⟨_, _, q, _⟩
    · rw [feas_iff ha hA hb]
      intro s u _ _ h1
      rw [q, Nat.zero_testBit] at h1
      cases h1
    · exact q
  have cnt : ∀ c, c < 2 ^ c0 T a → cn (SS T a c) 0 16 = pc c := by
    intro c hc
    rw [c0_cn]
    have e1 : c0 (SS T a c) 16 = c0 (SS T a c) a := by
      have := c0_add (S := SS T a c) (e := a) (16 - a) (fun j h1 h2 => by
        unfold SS
        cases hj : T j
        · rfl
        · have := hTa j hj; omega)
      rw [show a + (16 - a) = 16 by omega] at this
      exact this
    rw [e1]
    have e2 := c0_items (T := T) (b := fun s => c.testBit (c0 T a - 1 - s)) a
    rw [pc_t ht hc] at e2
    exact e2
  have fS : fea cf (SS T a b) 0 16 := by
    intro i j _ hij _ h1 h2
    obtain ⟨p1, p2⟩ := (Bool.and_eq_true _ _).mp h1
    obtain ⟨q1, q2⟩ := (Bool.and_eq_true _ _).mp h2
    rw [hcf i j hij p1 q1]
    exact (feas_iff ha hA hb).mp hfb _ _ (hlt p1 hij) (hTb q1) p2 q2
  have sub : ∀ j, 0 ≤ j → j < 0 + 16 → SS T a b j = true → T j = true := fun j _ _ h => ((Bool.and_eq_true _ _).mp h).1
  have ub := mk_ub cf 16 0 T (SS T a b) sub fS
  rw [cnt b hb] at ub
  have hG : ∀ j, gr cf 16 0 T j = true → T j = true := fun j h => (gr_in cf 16 0 T j h).2.2
  -- the class's choice as a number
  have hbg := en_lt (fun s => gr cf 16 0 T (ps s)) (c0 T a)
  have hbit : ∀ s, s < c0 T a → (en (fun s => gr cf 16 0 T (ps s)) (c0 T a)).testBit (c0 T a - 1 - s) = gr cf 16 0 T (ps s) := fun s hs => en_bit _ _ s hs
  have hS : ∀ j, SS T a (en (fun s => gr cf 16 0 T (ps s)) (c0 T a)) j = gr cf 16 0 T j := by
    intro j
    unfold SS
    cases hj : T j
    · rw [Bool.false_and]
      cases hg : gr cf 16 0 T j
      · rfl
      · have := hG j hg; rw [hj] at this; cases this
    · rw [Bool.true_and, hbit _ (hTb hj)]
      obtain ⟨r1, r2⟩ := hps _ (hTb hj)
      rw [hinj r1 hj r2]
  have hcnt : pc (en (fun s => gr cf 16 0 T (ps s)) (c0 T a)) = mkN cf 16 0 T := by
    rw [← cnt _ hbg, ← gr_cnt]
    exact cn_congr 16 0 (fun j _ _ => hS j)
  generalize en (fun s => gr cf 16 0 T (ps s)) (c0 T a) = bg at *
  have hfg : feas ag (c0 T a) bg := by
    rw [feas_iff ha hA hbg]
    intro s u hsu hu h1 h2
    obtain ⟨r1, r2⟩ := hps s (by omega)
    obtain ⟨t1, t2⟩ := hps u hu
    have hlt' : ps s < ps u := by
      rcases Nat.lt_trichotomy (ps s) (ps u) with q | q | q
      · exact q
      · rw [q] at r2; omega
      · have := hlt t1 q; omega
    have := gr_fea cf 16 0 T (ps s) (ps u) (by omega) hlt' (by have := hTa _ t1; omega) (by rw [← hbit s (by omega)]; exact h1) (by rw [← hbit u hu]; exact h2)
    rw [hcf _ _ hlt' r1 t1, r2, t2] at this
    exact this
  have hle : bg ≤ b ∧ mkN cf 16 0 T ≤ m := by
    rcases Nat.eq_zero_or_pos bg with q | q
    · refine ⟨by omega, ?_⟩
      rw [← hcnt, q]
      have : pc 0 = 0 := by decide
      omega
    · rcases hI.2 bg q hbg hfg with r | ⟨r1, r2⟩
      · omega
      · exact ⟨r2, by omega⟩
  have heq : cn (SS T a b) 0 16 = mkN cf 16 0 T := by rw [cnt b hb]; omega
  have hall : ∀ j, SS T a b j = gr cf 16 0 T j := by
    rcases gr_lex cf 16 0 T (SS T a b) sub fS heq with q | ⟨i, _, hi, q1, q2, q3⟩
    · intro j
      rcases Nat.lt_or_ge j 16 with hj | hj
      · exact q j (by omega) (by omega)
      · have h1 : SS T a b j = false := by
          unfold SS
          cases hj' : T j
          · rfl
          · have := hTa j hj'; omega
        rw [h1]
        cases hg : gr cf 16 0 T j
        · rfl
        · have := hTa j (hG j hg); omega
    · exfalso
      have hTi := hG i q2
      have hi' := hTb hTi
      have hlt2 : b < bg := by
        apply lt_tb (c0 T a - 1 - c0 T i)
        · unfold SS at q3
          rw [hTi, Bool.true_and] at q3
          exact q3
        · rw [hbit _ hi']
          obtain ⟨r1, r2⟩ := hps _ hi'
          rw [hinj r1 hTi r2]
          exact q2
        · intro j hj
          rcases Nat.lt_or_ge j (c0 T a) with hjt | hjt
          · have ej : j = c0 T a - 1 - (c0 T a - 1 - j) := by omega
            have hsj : c0 T a - 1 - j < c0 T a := by omega
            obtain ⟨r1, r2⟩ := hps _ hsj
            have hpi : ps (c0 T a - 1 - j) < i := by
              rcases Nat.lt_trichotomy (ps (c0 T a - 1 - j)) i with q | q | q
              · exact q
              · rw [q] at r2; omega
              · have := hlt hTi q; omega
            have := q1 _ (by omega) hpi
            unfold SS at this
            rw [r1, Bool.true_and, r2] at this
            rw [ej, this, hbit _ hsj]
          · rw [Nat.testBit_lt_two_pow (Nat.lt_of_lt_of_le hb (Nat.pow_le_pow_right (by omega) hjt)), Nat.testBit_lt_two_pow (Nat.lt_of_lt_of_le hbg (Nat.pow_le_pow_right (by omega) hjt))]
      omega
  refine ⟨hall, ?_⟩
  have := gr_cnt cf 16 0 T
  rw [c0_cn] at this
  rw [this, ← heq, cnt b hb, hpcb]
end BEST
theorem choose_v {a : Nat} {rl pt fr be row tI tp0 ag0 : Nat → Int32} {kb0 km0 tm0 : Int32} {cf : Nat → Nat → Bool} {T : Nat → Bool} (ha : a ≤ 16) (hT : ∀ p, T p = (decide (p < a) && decide (¬ tI p = -1))) (htk : ∀ i, i < a → fX6_takenFor (nI i) (nI a) rl pt fr row = some (tI i))
    (hr : ∀ i, i < a → tI i = -1 ∨ ∃ r, r < 12 ∧ tI i = nI r) (hcf : ∀ i j r r', i < j → j < a → tI i = nI r → tI j = nI r' → r < 12 → r' < 12 → cf i j = bt (be r') r) :
    ∃ kb tp ag, (∀ j, j < 32 → bt kb j = gr cf 16 0 T j) ∧ fX6_choose (nI a) kb0 km0 tm0 rl pt fr be row tp0 ag0 = some (kb, nI (c0 (gr cf 16 0 T) 16), nI (c0 T a), tp, ag) := by
  have ht : c0 T a ≤ 16 := Nat.le_trans (c0_le T a) ha
  have hpw : 2 ^ c0 T a ≤ 65536 := by
    have : 2 ^ c0 T a ≤ 2 ^ 16 := Nat.pow_le_pow_right (by omega) ht
    omega
  have hTa : ∀ p, T p = true → p < a := by
    intro p h
    rw [hT p] at h
    exact of_decide_eq_true ((Bool.and_eq_true _ _).mp h).1
  have hTi : ∀ p, T p = true → ¬ tI p = -1 := by
    intro p h
    rw [hT p] at h
    exact of_decide_eq_true ((Bool.and_eq_true _ _).mp h).2
  have hex : ∀ s, ∃ p r, s < c0 T a → (p < a ∧ T p = true ∧ c0 T p = s ∧ r < 12 ∧ tI p = nI r) := by
    intro s
    by_cases h : s < c0 T a
    · obtain ⟨p, h1, h2, h3⟩ := c0_find T a h
      rcases hr p h1 with q | ⟨r, q1, q2⟩
      · exact absurd q (hTi p h2)
      · exact ⟨p, r, fun _ => ⟨h1, h2, h3, q1, q2⟩⟩
    · exact ⟨0, 0, fun q => absurd q h⟩
  let ps : Nat → Nat := fun s => Classical.choose (hex s)
  let rk : Nat → Nat := fun s => Classical.choose (Classical.choose_spec (hex s))
  have hpr : ∀ s, s < c0 T a → (ps s < a ∧ T (ps s) = true ∧ c0 T (ps s) = s ∧ rk s < 12 ∧ tI (ps s) = nI (rk s)) := fun s hs => Classical.choose_spec (Classical.choose_spec (hex s)) hs
  clear_value ps rk
  obtain ⟨tp', g1, g2⟩ := ch7 (be := be) (kb := kb0) (km := km0) (ag := ag0) ha hT htk FU a 0 tp0 (by omega) (by rw [FU_eq]; omega) (fun q hq => by omega)
  have htp : ∀ s, s < c0 T a → tp' s = nI (ps s) ∧ ps s < a ∧ rk s < 12 ∧ tI (ps s) = nI (rk s) := by
    intro s hs
    obtain ⟨h1, h2, h3, h4, h5⟩ := hpr s hs
    have := g1 (ps s) h1 h2
    rw [h3] at this
    exact ⟨this, h1, h4, h5⟩
  obtain ⟨ag', g3, g4⟩ := ch52 (be := be) (kb := kb0) (km := km0) ht htp ha htk FU (c0 T a) 0 ag0 (by omega) (by rw [FU_eq]; omega) (fun s hs => by omega)
  obtain ⟨b, m, g5, g6⟩ := ch165 (a := a) (rl := rl) (pt := pt) (fr := fr) (be := be) (row := row) (tp := tp') (ag := ag') ht (kb := kb0) (km := km0) FU (2 ^ c0 T a - 1) 0 0 (by rw [FU_eq]; omega) (by have := Nat.two_pow_pos (c0 T a); omega) ⟨Or.inl ⟨rfl, rfl⟩, fun c' h1 h2 _ => by omega⟩
  obtain ⟨kb, g7, g8⟩ := ch270 (a := a) (rl := rl) (pt := pt) (fr := fr) (be := be) (row := row) (tp := tp') (ag := ag') (ps := ps) ht (fun s hs => ⟨(htp s hs).1, by have := (htp s hs).2.1; omega⟩) (km := nI m) (b := b) FU (c0 T a) 0 0 (by omega) (by rw [FU_eq]; omega)
  have hinj : ∀ {i j}, T i = true → T j = true → c0 T i = c0 T j → i = j := by
    intro i j h1 h2 h3
    rcases Nat.lt_trichotomy i j with q | q | q
    · have := c0_lt h1 q; omega
    · exact q
    · have := c0_lt h2 q; omega
  obtain ⟨k1, k2⟩ := best_eq (be := be) (ps := ps) (rk := rk) (ag := ag') (cf := cf) ha hTa g3 (fun s hs => ⟨(hpr s hs).2.1, (hpr s hs).2.2.1⟩) (fun i j hij h1 h2 => by
    have c1 := c0_lt h1 (hTa i h1)
    have c2 := c0_lt h2 (hTa j h2)
    obtain ⟨_, r2, r3, r4, r5⟩ := hpr _ c1
    obtain ⟨_, s2, s3, s4, s5⟩ := hpr _ c2
    rw [hinj r2 h1 r3] at r5
    rw [hinj s2 h2 s3] at s5
    exact hcf i j _ _ hij (hTa j h2) r5 s5 r4 s4) g5
  refine ⟨kb, tp', ag', fun j hj => ?_, ?_⟩
  · rw [← k1 j, Bool.eq_iff_iff, g7 j hj, b_0]
    unfold SS
    rw [Bool.and_eq_true]
    constructor
    · rintro (q | ⟨u, _, h2, h3, h4⟩)
      · cases q
      · obtain ⟨r1, r2, r3, _⟩ := hpr u h2
        rw [h4]
        exact ⟨r2, by rw [r3]; exact h3⟩
    · rintro ⟨h1, h2⟩
      have c1 := c0_lt h1 (hTa j h1)
      obtain ⟨_, r2, r3, _⟩ := hpr _ c1
      exact Or.inr ⟨c0 T j, by omega, c1, h2, (hinj r2 h1 r3).symm⟩
  · unfold fX6_choose
    rw [← k2]
    have e0 : (0 : Int32) = nI 0 := rfl
    have e1 : (((1 : Int32) <<< (nI (c0 T a) &&& 31)) - 1) = nI (2 ^ c0 T a - 1) := by
      rw [nI_pow _ (by omega)]
      exact pk_sub (b := 1) (by have := Nat.two_pow_pos (c0 T a); omega)
    rw [e1] at g4
    exact g2.trans (g4.trans (g6.trans g8))
