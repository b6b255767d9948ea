/-! the reference: choose() -/
def aacc (c : Nat → Bool) (t : Nat) : Int32 → Nat → Nat → Int32
  | acc, _, 0 => acc
  | acc, u, d + 1 => aacc c t (if c u = true then acc ||| nI (2 ^ (t - 1 - u)) else acc) (u + 1) d
theorem aacc_bt (c : Nat → Bool) {t : Nat} (ht : t ≤ 16) {b : Nat} (hb : b < 32) : ∀ (d u : Nat) (acc : Int32), u + d = t → (bt (aacc c t acc u d) b = true ↔ bt acc b = true ∨ ∃ u', u ≤ u' ∧ u' < t ∧ c u' = true ∧ b = t - 1 - u')
  | 0, u, acc, h => by
    show bt acc b = true ↔ _
    constructor
    · intro q; exact Or.inl q
    · rintro (q | ⟨u', h1, h2, _⟩)
      · exact q
      · omega
  | d + 1, u, acc, h => by
    show bt (aacc c t (if c u = true then acc ||| nI (2 ^ (t - 1 - u)) else acc) (u + 1) d) b = true ↔ _
    rw [aacc_bt c ht hb d (u + 1) _ (by omega)]
    by_cases hc : c u = true
    · rw [if_pos hc, b_or, bt_pow (by omega) hb, Bool.or_eq_true, decide_eq_true_iff]
      constructor
      · rintro ((q | q) | ⟨u', h1, h2, h3⟩)
        · exact Or.inl q
        · exact Or.inr ⟨u, by omega, by omega, hc, q.symm⟩
        · exact Or.inr ⟨u', by omega, h2, h3⟩
      · rintro (q | ⟨u', h1, h2, h3, h4⟩)
        · exact Or.inl (Or.inl q)
        · by_cases e : u' = u
          · subst e; exact Or.inl (Or.inr h4.symm)
          · exact Or.inr ⟨u', by omega, h2, h3, h4⟩
    · rw [if_neg hc]
      constructor
      · rintro (q | ⟨u', h1, h2, h3⟩)
        · exact Or.inl q
        · exact Or.inr ⟨u', by omega, h2, h3⟩
      · rintro (q | ⟨u', h1, h2, h3, h4⟩)
        · exact Or.inl q
        · by_cases e : u' = u
          · subst e; exact absurd h3 hc
          · exact Or.inr ⟨u', by omega, h2, h3, h4⟩
def fB (ok : Nat → Bool) : Nat → Nat → Bool
  | _, 0 => true
  | s, d + 1 => ok s && fB ok (s + 1) d
theorem fB_iff (ok : Nat → Bool) : ∀ (d s : Nat), fB ok s d = true ↔ ∀ u, s ≤ u → u < s + d → ok u = true
  | 0, s => ⟨fun _ u h1 h2 => by omega, fun _ => rfl⟩
  | d + 1, s => by
    show (ok s && fB ok (s + 1) d) = true ↔ _
    rw [Bool.and_eq_true, fB_iff ok d (s + 1)]
    constructor
    · rintro ⟨h1, h2⟩ u g1 g2
      by_cases e : u = s
      · subst e; exact h1
      · exact h2 u (by omega) (by omega)
    · intro h
      exact ⟨h s (by omega) (by omega), fun u g1 g2 => h u (by omega) (by omega)⟩
def okI (ag : Nat → Int32) (t c s : Nat) : Bool := !c.testBit (t - 1 - s) || decide ((ag s &&& nI c) = 0)
section CHOOSE
variable {a k : Nat} {rl pt fr be row : Nat → Int32} {tI : Nat → Int32} {T : Nat → Bool}
theorem ch7 (ha : a ≤ 16) (hT : ∀ p, T p = (decide (p < a) && decide (¬ tI p = -1))) (htk : ∀ i, i < a → fX6_takenFor (nI i) (nI a) rl pt fr row = some (tI i)) {kb km : Int32} {ag : Nat → Int32} :
    ∀ (f d p : Nat) (tp : Nat → Int32), p + d = a → d < f → (∀ q, q < p → T q = true → tp (c0 T q) = nI q) → ∃ tp', (∀ q, q < a → T q = true → tp' (c0 T q) = nI q) ∧ fX6_choose_h7 f (nI p) (nI a) kb km (nI (c0 T p)) rl pt fr be row tp ag = fX6_choose_h52 FU 0 (nI a) kb km (nI (c0 T a)) rl pt fr be row tp' ag := by
  intro f
  induction f with
  | zero => intro d p tp _ h; omega
  | succ f ih =>
    intro d p tp hp hd htp
    cases d with
    | zero =>
      obtain rfl : p = a := by omega
      refine ⟨tp, htp, ?_⟩
      show uX6_choose_h7 (fX6_choose_h7 f) (nI p) (nI p) kb km (nI (c0 T p)) rl pt fr be row tp ag = _
      unfold uX6_choose_h7
      rw [if_pos (nI_le (by omega) (by omega))]
    | succ d =>
      have step : fX6_choose_h7 (f + 1) (nI p) (nI a) kb km (nI (c0 T p)) rl pt fr be row tp ag = uX6_choose_h7 (fX6_choose_h7 f) (nI p) (nI a) kb km (nI (c0 T p)) rl pt fr be row tp ag := rfl
      have hc := c0_le T p
      have hs : c0 T (p + 1) = c0 T p + (if T p = true then 1 else 0) := rfl
      rw [step]
      unfold uX6_choose_h7
      rw [if_neg (nI_ge (by omega) (by omega)), htk p (by omega), Option.bind_some, nI_1]
      by_cases h : tI p = -1
      · have hTp : T p = false := by rw [hT p, h]; simp
        rw [if_pos h]
        have hs' : c0 T (p + 1) = c0 T p := by rw [hs, hTp]; rfl
        rw [← hs']
        exact ih d (p + 1) tp (by omega) (by omega) (fun q hq hTq => by
          by_cases e : q = p
          · subst e; rw [hTp] at hTq; cases hTq
          · exact htp q (by omega) hTq)
      · have hTp : T p = true := by rw [hT p, decide_eq_true (show p < a by omega), decide_eq_true h]; rfl
        rw [if_neg h, ck_n (by omega) (by omega), nI_clamp (by omega), nI_1]
        rw [hTp, if_pos rfl] at hs
        rw [← hs]
        refine ih d (p + 1) _ (by omega) (by omega) (fun q hq hTq => ?_)
        by_cases e : q = p
        · subst e; rw [upd_s]
        · have := c0_lt hTq (show q < p by omega)
          rw [upd_n (by omega)]
          exact htp q (by omega) hTq
variable {ps rk : Nat → Nat} {t : Nat} {tp : Nat → Int32}
theorem ch71 (ht : t ≤ 16) (htp : ∀ s, s < t → tp s = nI (ps s) ∧ ps s < a ∧ rk s < 12 ∧ tI (ps s) = nI (rk s)) (ha : a ≤ 16) (htk : ∀ i, i < a → fX6_takenFor (nI i) (nI a) rl pt fr row = some (tI i)) {kb km : Int32} (ag : Nat → Int32)
    (k52 : Int32 → Int32 → Int32 → Int32 → Int32 → (Nat → Int32) → (Nat → Int32) → (Nat → Int32) → (Nat → Int32) → (Nat → Int32) → (Nat → Int32) → (Nat → Int32) → Option (Int32 × Int32 × Int32 × (Nat → Int32) × (Nat → Int32))) {s : Nat} (hs : s < t) :
    ∀ (f d u : Nat) (acc : Int32), u + d = t → d < f → fX6_choose_h71 k52 f (nI s) (nI u) (nI a) kb km (nI t) rl pt fr be row tp (upd ag s acc) = k52 (nI (s + 1)) (nI a) kb km (nI t) rl pt fr be row tp (upd ag s (aacc (fun u => bt (be (rk u)) (rk s)) t acc u d)) := by
  intro f
  induction f with
  | zero => intro d u acc _ h; omega
  | succ f ih =>
    intro d u acc hu hd
    show uX6_choose_h71 k52 (fX6_choose_h71 k52 f) (nI s) (nI u) (nI a) kb km (nI t) rl pt fr be row tp (upd ag s acc) = _
    unfold uX6_choose_h71
    cases d with
    | zero =>
      rw [if_pos (nI_le (by omega) (by omega)), nI_1]
      rfl
    | succ d =>
      obtain ⟨e1, e2, e3, e4⟩ := htp s hs
      obtain ⟨g1, g2, g3, g4⟩ := htp u (by omega)
      have k16 : (16 : Nat) < 2 ^ 31 := by omega
      have esub : nI t - 1 - nI u = nI (t - 1 - u) := by
        rw [show nI t - 1 = nI (t - 1) from pk_sub (b := 1) (by omega), pk_sub (by omega)]
      rw [if_neg (nI_ge (by omega) (by omega))]
      simp only [ck_n (show s < 16 by omega) k16, ck_n (show u < 16 by omega) k16, nI_clamp (show s < 2 ^ 31 by omega), nI_clamp (show u < 2 ^ 31 by omega), e1, g1, htk _ e2, htk _ g2, Option.bind_some, e4, g4, ck_n g3 (show (12 : Nat) < 2 ^ 31 by omega), nI_clamp (show rk u < 2 ^ 31 by omega), shr_bit _ (show rk s < 32 by omega), esub, nI_pow (t - 1 - u) (show t - 1 - u < 31 by omega), upd_s, upd_upd, nI_1]
      show _ = k52 (nI (s + 1)) (nI a) kb km (nI t) rl pt fr be row tp (upd ag s (aacc (fun u => bt (be (rk u)) (rk s)) t (if bt (be (rk u)) (rk s) = true then acc ||| nI (2 ^ (t - 1 - u)) else acc) (u + 1) d))
      by_cases hb : bt (be (rk u)) (rk s) = true
      · rw [if_pos hb, if_pos rfl, if_pos hb]
        exact ih d (u + 1) _ (by omega) (by omega)
      · rw [if_neg hb, if_neg (by decide), if_neg hb, show acc ||| 0 = acc from b_ext (fun i hi => by rw [b_or, b_0, Bool.or_false])]
        exact ih d (u + 1) _ (by omega) (by omega)
def AgOK (be : Nat → Int32) (rk : Nat → Nat) (t e : Nat) (ag : Nat → Int32) : Prop := ∀ s, s < e → ag s = aacc (fun u => bt (be (rk u)) (rk s)) t 0 (s + 1) (t - 1 - s)
theorem ch52 (ht : t ≤ 16) (htp : ∀ s, s < t → tp s = nI (ps s) ∧ ps s < a ∧ rk s < 12 ∧ tI (ps s) = nI (rk s)) (ha : a ≤ 16) (htk : ∀ i, i < a → fX6_takenFor (nI i) (nI a) rl pt fr row = some (tI i)) {kb km : Int32} :
    ∀ (f d s : Nat) (ag : Nat → Int32), s + d = t → d < f → AgOK be rk t s ag → ∃ ag', AgOK be rk t t ag' ∧ fX6_choose_h52 f (nI s) (nI a) kb km (nI t) rl pt fr be row tp ag = fX6_choose_h165 FU 0 0 (((1 : Int32) <<< (nI t &&& 31)) - 1) (nI a) kb km (nI t) rl pt fr be row tp ag' := by
  intro f
  induction f with
  | zero => intro d s ag _ h; omega
  | succ f ih =>
    intro d s ag hs hd hag
    cases d with
    | zero =>
      obtain rfl : s = t := by omega
      refine ⟨ag, hag, ?_⟩
      show uX6_choose_h52 (fX6_choose_h52 f) (nI s) (nI a) kb km (nI s) rl pt fr be row tp ag = _
      unfold uX6_choose_h52
      rw [if_pos (nI_le (by omega) (by omega))]
    | succ d =>
      obtain ⟨ag', g1, g2⟩ := ih d (s + 1) (upd ag s (aacc (fun u => bt (be (rk u)) (rk s)) t 0 (s + 1) (t - 1 - s))) (by omega) (by omega) (fun s' hs' => by
        by_cases e : s' = s
        · subst e; rw [upd_s]
        · rw [upd_n e]; exact hag s' (by omega))
      refine ⟨ag', g1, ?_⟩
      rw [← g2]
      show uX6_choose_h52 (fX6_choose_h52 f) (nI s) (nI a) kb km (nI t) rl pt fr be row tp ag = _
      unfold uX6_choose_h52
      rw [if_neg (nI_ge (by omega) (by omega)), ck_n (by omega) (by omega), nI_clamp (by omega), nI_1]
      exact ch71 ht htp ha htk ag _ (by omega) FU (t - 1 - s) (s + 1) 0 (by omega) (by rw [FU_eq]; omega)
variable {ag : Nat → Int32}
theorem ch187 (ht : t ≤ 16) {kb km x1 x2 x4 : Int32} {c : Nat} (k165 : Int32 → Int32 → Int32 → Int32 → Int32 → Int32 → Int32 → (Nat → Int32) → (Nat → Int32) → (Nat → Int32) → (Nat → Int32) → (Nat → Int32) → (Nat → Int32) → (Nat → Int32) → Option (Int32 × Int32 × Int32 × (Nat → Int32) × (Nat → Int32))) :
    ∀ (f d s : Nat) (b : Bool), s + d = t → d < f → fX6_choose_h187 k165 f x1 x2 (nI c) x4 (if b = true then 1 else 0) (nI s) (nI a) kb km (nI t) rl pt fr be row tp ag = if (b && fB (okI ag t c) s d) = true then k165 (nI c) x4 (nI c + (-1)) (nI a) kb km (nI t) rl pt fr be row tp ag else k165 x1 x2 (nI c + (-1)) (nI a) kb km (nI t) rl pt fr be row tp ag := by
  intro f
  induction f with
  | zero => intro d s b _ h; omega
  | succ f ih =>
    intro d s b hs hd
    show uX6_choose_h187 k165 (fX6_choose_h187 k165 f) x1 x2 (nI c) x4 _ (nI s) (nI a) kb km (nI t) rl pt fr be row tp ag = _
    unfold uX6_choose_h187
    cases d with
    | zero =>
      rw [if_pos (nI_le (by omega) (by omega))]
      cases b
      · rw [if_pos (by decide)]; rfl
      · rw [if_neg (by decide)]; rfl
    | succ d =>
      rw [if_neg (nI_ge (by omega) (by omega))]
      cases b
      · rw [if_pos (by decide), if_pos (by decide)]; rfl
      · have esub : nI t - 1 - nI s = nI (t - 1 - s) := by
          rw [show nI t - 1 = nI (t - 1) from pk_sub (b := 1) (by omega), pk_sub (by omega)]
        rw [if_neg (by decide), esub, shr_bit _ (show t - 1 - s < 32 by omega), bt_n (show t - 1 - s < 32 by omega), ck_n (by omega) (by omega), nI_clamp (by omega), nI_1]
        have h1 := ih d (s + 1) true (by omega) (by omega)
        have h2 := ih d (s + 1) false (by omega) (by omega)
        rw [if_pos rfl] at h1
        rw [if_neg (by decide)] at h2
        rw [Bool.true_and] at h1
        rw [Bool.false_and, if_neg (by decide)] at h2
        show _ = if (true && (okI ag t c s && fB (okI ag t c) (s + 1) d)) = true then _ else _
        rw [Bool.true_and]
        unfold okI at h1 ⊢
        cases hb : c.testBit (t - 1 - s)
        · rw [if_pos (by decide), h1]
          simp
        · rw [if_neg (by decide)]
          by_cases hz : (ag s &&& nI c) = 0
          · rw [if_pos hz, h1, decide_eq_true hz]
            simp
          · rw [if_neg hz, h2, decide_eq_false hz]
            simp
def feas (ag : Nat → Int32) (t c : Nat) : Prop := fB (okI ag t c) 0 t = true
def chI (ag : Nat → Int32) (t c b m : Nat) : Prop := ((b = 0 ∧ m = 0) ∨ (c < b ∧ b < 2 ^ t ∧ feas ag t b ∧ pc b = m)) ∧ ∀ c', c < c' → c' < 2 ^ t → feas ag t c' → pc c' < m ∨ (pc c' = m ∧ c' ≤ b)
theorem pc_pos {c : Nat} (h0 : 0 < c) (h : c < 65536) : 0 < pc c := by
  rcases (pc_facts h).2 with q | q
  · omega
  · omega
theorem ch165 (ht : t ≤ 16) {kb km : Int32} : ∀ (f c b m : Nat), c < f → c < 2 ^ t → chI ag t c b m → ∃ b' m', chI ag t 0 b' m' ∧ fX6_choose_h165 f (nI b) (nI m) (nI c) (nI a) kb km (nI t) rl pt fr be row tp ag = fX6_choose_h270 FU (nI b') 0 (nI a) 0 (nI m') (nI t) rl pt fr be row tp ag := by
  have hpw : 2 ^ t ≤ 65536 := by
    have : 2 ^ t ≤ 2 ^ 16 := Nat.pow_le_pow_right (by omega) ht
    omega
  intro f
  induction f with
  | zero => intro c b m h; omega
  | succ f ih =>
    intro c b m hf hc hI
    have step : fX6_choose_h165 (f + 1) (nI b) (nI m) (nI c) (nI a) kb km (nI t) rl pt fr be row tp ag = uX6_choose_h165 (fX6_choose_h165 f) (nI b) (nI m) (nI c) (nI a) kb km (nI t) rl pt fr be row tp ag := rfl
    rw [step]
    unfold uX6_choose_h165
    cases c with
    | zero =>
      rw [if_pos (by decide)]
      exact ⟨b, m, hI, rfl⟩
    | succ c =>
      have hpl := pc_le (c + 1)
      have hml : m ≤ 16 := by
        rcases hI.1 with ⟨_, q⟩ | ⟨_, _, _, q⟩
        · omega
        · rw [← q]; exact pc_le b
      have hpp := pc_pos (c := c + 1) (by omega) (by omega)
      rw [if_neg (nI_nle (by omega) (by omega)), ones_v (by omega), Option.bind_some, pk_m1]
      by_cases hle : pc (c + 1) ≤ m
      · rw [if_pos (nI_le hle (by omega))]
        refine ih c b m (by omega) (by omega) ⟨?_, fun c' h1 h2 h3 => ?_⟩
        · rcases hI.1 with q | ⟨q1, q2⟩
          · exact Or.inl q
          · exact Or.inr ⟨by omega, q2⟩
        · by_cases e : c' = c + 1
          · subst e
            rcases hI.1 with ⟨_, q⟩ | ⟨q1, _⟩
            · omega
            · by_cases hlt : pc (c + 1) < m
              · exact Or.inl hlt
              · exact Or.inr ⟨by omega, by omega⟩
          · exact hI.2 c' (by omega) h2 h3
      · rw [if_neg (nI_ge (show m < pc (c + 1) by omega) (by omega))]
        have h187 := ch187 (a := a) (rl := rl) (pt := pt) (fr := fr) (be := be) (row := row) (tp := tp) (ag := ag) ht (kb := kb) (km := km) (x1 := nI b) (x2 := nI m) (x4 := nI (pc (c + 1))) (c := c + 1) (fX6_choose_h165 f) FU t 0 true (by omega) (by rw [FU_eq]; omega)
        rw [if_pos rfl, Bool.true_and, pk_m1] at h187
        rw [show (0 : Int32) = nI 0 from rfl, h187]
        by_cases hfe : fB (okI ag t (c + 1)) 0 t = true
        · rw [if_pos hfe]
          refine ih c (c + 1) (pc (c + 1)) (by omega) (by omega) ⟨Or.inr ⟨by omega, hc, hfe, rfl⟩, fun c' h1 h2 h3 => ?_⟩
          by_cases e : c' = c + 1
          · subst e; exact Or.inr ⟨rfl, Nat.le_refl _⟩
          · rcases hI.2 c' (by omega) h2 h3 with q | q
            · exact Or.inl (by omega)
            · exact Or.inl (by omega)
        · rw [if_neg hfe]
          refine ih c b m (by omega) (by omega) ⟨?_, fun c' h1 h2 h3 => ?_⟩
          · rcases hI.1 with q | ⟨q1, q2⟩
            · exact Or.inl q
            · exact Or.inr ⟨by omega, q2⟩
          · by_cases e : c' = c + 1
            · subst e; exact absurd h3 hfe
            · exact hI.2 c' (by omega) h2 h3
theorem ch270 (ht : t ≤ 16) (htp : ∀ s, s < t → tp s = nI (ps s) ∧ ps s < 16) {km : Int32} {b : Nat} : ∀ (f d s : Nat) (kb : Int32), s + d = t → d < f → ∃ kb', (∀ j, j < 32 → (bt kb' j = true ↔ bt kb j = true ∨ ∃ u, s ≤ u ∧ u < t ∧ b.testBit (t - 1 - u) = true ∧ j = ps u)) ∧ fX6_choose_h270 f (nI b) (nI s) (nI a) kb km (nI t) rl pt fr be row tp ag = some (kb', km, nI t, tp, ag) := by
  intro f
  induction f with
  | zero => intro d s kb _ h; omega
  | succ f ih =>
    intro d s kb hs hd
    cases d with
    | zero =>
      refine ⟨kb, fun j hj => ⟨fun q => Or.inl q, fun q => ?_⟩, ?_⟩
      · rcases q with q | ⟨u, h1, h2, _⟩
        · exact q
        · omega
      · show uX6_choose_h270 (fX6_choose_h270 f) (nI b) (nI s) (nI a) kb km (nI t) rl pt fr be row tp ag = _
        unfold uX6_choose_h270
        rw [if_pos (nI_le (by omega) (by omega))]
    | succ d =>
      obtain ⟨e1, e2⟩ := htp s (by omega)
      have esub : nI t - 1 - nI s = nI (t - 1 - s) := by
        rw [show nI t - 1 = nI (t - 1) from pk_sub (b := 1) (by omega), pk_sub (by omega)]
      have step : fX6_choose_h270 (f + 1) (nI b) (nI s) (nI a) kb km (nI t) rl pt fr be row tp ag = uX6_choose_h270 (fX6_choose_h270 f) (nI b) (nI s) (nI a) kb km (nI t) rl pt fr be row tp ag := rfl
      rw [step]
      unfold uX6_choose_h270
      rw [if_neg (nI_ge (by omega) (by omega)), esub, shr_bit _ (show t - 1 - s < 32 by omega), bt_n (show t - 1 - s < 32 by omega), ck_n (by omega) (by omega), nI_clamp (by omega), e1, nI_pow (ps s) (by omega), nI_1]
      by_cases hb : b.testBit (t - 1 - s) = true
      · rw [if_pos hb, if_pos rfl]
        obtain ⟨kb', g1, g2⟩ := ih d (s + 1) (kb ||| nI (2 ^ ps s)) (by omega) (by omega)
        refine ⟨kb', fun j hj => ?_, g2⟩
        rw [g1 j hj, b_or, bt_pow (by omega) hj, Bool.or_eq_true, decide_eq_true_iff]
        constructor
        · rintro ((q | q) | ⟨u, h1, h2, h3⟩)
          · exact Or.inl q
          · exact Or.inr ⟨s, by omega, by omega, hb, q.symm⟩
          · exact Or.inr ⟨u, by omega, h2, h3⟩
        · rintro (q | ⟨u, h1, h2, h3, h4⟩)
          · exact Or.inl (Or.inl q)
          · by_cases e : u = s
            · subst e; exact Or.inl (Or.inr h4.symm)
            · exact Or.inr ⟨u, by omega, h2, h3, h4⟩
      · rw [if_neg hb, if_neg (by decide)]
        obtain ⟨kb', g1, g2⟩ := ih d (s + 1) (kb ||| 0) (by omega) (by omega)
        refine ⟨kb', fun j hj => ?_, g2⟩
        rw [g1 j hj, b_or, b_0, Bool.or_false]
        constructor
        · rintro (q | ⟨u, h1, h2, h3⟩)
          · exact Or.inl q
          · exact Or.inr ⟨u, by omega, h2, h3⟩
        · rintro (q | ⟨u, h1, h2, h3, h4⟩)
          · exact Or.inl q
          · by_cases e : u = s
            · subst e; exact absurd h3 hb
            · exact Or.inr ⟨u, by omega, h2, h3, h4⟩
end CHOOSE
