/-! counting bits -/
def c0 (S : Nat → Bool) : Nat → Nat
  | 0 => 0
  | e + 1 => c0 S e + (if S e = true then 1 else 0)
def cn (S : Nat → Bool) : Nat → Nat → Nat
  | _, 0 => 0
  | p, d + 1 => (if S p = true then 1 else 0) + cn S (p + 1) d
theorem cn_c0 (S : Nat → Bool) : ∀ (d p : Nat), cn S p d + c0 S p = c0 S (p + d)
  | 0, p => by show 0 + c0 S p = c0 S p; omega
  | d + 1, p => by
    have h := cn_c0 S d (p + 1)
    show (if S p = true then 1 else 0) + cn S (p + 1) d + c0 S p = c0 S (p + (d + 1))
    rw [show p + (d + 1) = p + 1 + d by omega, ← h]
    show _ = cn S (p + 1) d + (c0 S p + (if S p = true then 1 else 0))
    omega
theorem c0_congr {S S' : Nat → Bool} : ∀ e, (∀ j, j < e → S j = S' j) → c0 S e = c0 S' e
  | 0, _ => rfl
  | e + 1, h => by
    show c0 S e + _ = c0 S' e + _
    rw [c0_congr e (fun j hj => h j (by omega)), h e (by omega)]
theorem cn_congr {S S' : Nat → Bool} : ∀ (d p : Nat), (∀ j, p ≤ j → j < p + d → S j = S' j) → cn S p d = cn S' p d
  | 0, _, _ => rfl
  | d + 1, p, h => by
    show (if S p = true then 1 else 0) + cn S (p + 1) d = (if S' p = true then 1 else 0) + cn S' (p + 1) d
    rw [cn_congr d (p + 1) (fun j h1 h2 => h j (by omega) (by omega)), h p (by omega) (by omega)]
theorem c0_le (S : Nat → Bool) : ∀ e, c0 S e ≤ e
  | 0 => Nat.le_refl 0
  | e + 1 => by
    have := c0_le S e
    show c0 S e + _ ≤ e + 1
    split <;> omega
theorem c0_mono (S : Nat → Bool) {i : Nat} : ∀ e, i ≤ e → c0 S i ≤ c0 S e
  | 0, h => by
    obtain rfl : i = 0 := by omega
    exact Nat.le_refl _
  | e + 1, h => by
    by_cases q : i = e + 1
    · rw [q]; exact Nat.le_refl _
    · have := c0_mono S e (show i ≤ e by omega)
      show _ ≤ c0 S e + _
      omega
/-- the n-th place of a kind -/
theorem c0_find (S : Nat → Bool) {s : Nat} : ∀ e, s < c0 S e → ∃ p, p < e ∧ S p = true ∧ c0 S p = s
  | 0, h => absurd h (Nat.not_lt_zero _)
  | e + 1, h => by
    by_cases h1 : s < c0 S e
    · obtain ⟨p, g1, g2⟩ := c0_find S e h1
      exact ⟨p, by omega, g2⟩
    · have h2 : s < c0 S e + (if S e = true then 1 else 0) := h
      by_cases hS : S e = true
      · rw [if_pos hS] at h2
        exact ⟨e, by omega, hS, by omega⟩
      · rw [if_neg hS] at h2
        omega
theorem c0_lt {S : Nat → Bool} {i j : Nat} (hi : S i = true) (hij : i < j) : c0 S i < c0 S j := by
  have h := c0_mono S j (show i + 1 ≤ j by omega)
  have : c0 S (i + 1) = c0 S i + 1 := by
    show c0 S i + (if S i = true then 1 else 0) = _
    rw [if_pos hi]
  omega
/-- items' choices as sets of places -/
theorem c0_items {T : Nat → Bool} {b : Nat → Bool} : ∀ a, c0 (fun p => T p && b (c0 T p)) a = c0 b (c0 T a)
  | 0 => rfl
  | a + 1 => by
    show c0 (fun p => T p && b (c0 T p)) a + (if (T a && b (c0 T a)) = true then 1 else 0) = c0 b (c0 T a + (if T a = true then 1 else 0))
    rw [c0_items a]
    cases hT : T a
    · rw [if_neg (by simp), if_neg (by decide)]; rfl
    · rw [if_pos rfl, Bool.true_and]; rfl
/-! the most that can be kept, and the choice that prefers the first -/
section KEEP
variable (cf : Nat → Nat → Bool)
def mkN : Nat → Nat → (Nat → Bool) → Nat
  | 0, _, _ => 0
  | d + 1, p, F => if F p = true then max (1 + mkN d (p + 1) (fun j => F j && !cf p j)) (mkN d (p + 1) F) else mkN d (p + 1) F
def fea (S : Nat → Bool) (p d : Nat) : Prop := ∀ i j, p ≤ i → i < j → j < p + d → S i = true → S j = true → cf i j = false
def gr : Nat → Nat → (Nat → Bool) → Nat → Bool
  | 0, _, _ => fun _ => false
  | d + 1, p, F => fun j => if F p = true then (if 1 + mkN cf d (p + 1) (fun j => F j && !cf p j) = mkN cf (d + 1) p F then (decide (j = p) || gr d (p + 1) (fun j => F j && !cf p j) j) else gr d (p + 1) F j) else gr d (p + 1) F j
theorem mk_le : ∀ (d p : Nat) (F : Nat → Bool), mkN cf d p F ≤ d
  | 0, _, _ => Nat.le_refl 0
  | d + 1, p, F => by
    have h1 := mk_le d (p + 1) (fun j => F j && !cf p j)
    have h2 := mk_le d (p + 1) F
    show (if F p = true then max (1 + mkN cf d (p + 1) (fun j => F j && !cf p j)) (mkN cf d (p + 1) F) else mkN cf d (p + 1) F) ≤ d + 1
    split
    · omega
    · omega
theorem mk_congr : ∀ (d p : Nat) (F F' : Nat → Bool), (∀ j, p ≤ j → j < p + d → F j = F' j) → mkN cf d p F = mkN cf d p F'
  | 0, _, _, _, _ => rfl
  | d + 1, p, F, F', h => by
    show (if F p = true then max (1 + mkN cf d (p + 1) (fun j => F j && !cf p j)) (mkN cf d (p + 1) F) else mkN cf d (p + 1) F) = (if F' p = true then max (1 + mkN cf d (p + 1) (fun j => F' j && !cf p j)) (mkN cf d (p + 1) F') else mkN cf d (p + 1) F')
    rw [h p (by omega) (by omega), mk_congr d (p + 1) F F' (fun j h1 h2 => h j (by omega) (by omega)), mk_congr d (p + 1) (fun j => F j && !cf p j) (fun j => F' j && !cf p j) (fun j h1 h2 => by rw [h j (by omega) (by omega)])]
theorem mk_zero : ∀ (d p : Nat) (F : Nat → Bool), (∀ j, p ≤ j → j < p + d → F j = false) → mkN cf d p F = 0
  | 0, _, _, _ => rfl
  | d + 1, p, F, h => by
    show (if F p = true then _ else mkN cf d (p + 1) F) = 0
    rw [h p (by omega) (by omega), if_neg (by decide)]
    exact mk_zero d (p + 1) F (fun j h1 h2 => h j (by omega) (by omega))
theorem mk_ub : ∀ (d p : Nat) (F S : Nat → Bool), (∀ j, p ≤ j → j < p + d → S j = true → F j = true) → fea cf S p d → cn S p d ≤ mkN cf d p F
  | 0, _, _, _, _, _ => Nat.le_refl 0
  | d + 1, p, F, S, hs, hf => by
    show (if S p = true then 1 else 0) + cn S (p + 1) d ≤ (if F p = true then max (1 + mkN cf d (p + 1) (fun j => F j && !cf p j)) (mkN cf d (p + 1) F) else mkN cf d (p + 1) F)
    have hf' : fea cf S (p + 1) d := fun i j h1 h2 h3 => hf i j (by omega) h2 (by omega)
    have h2 := mk_ub d (p + 1) F S (fun j h1 h2 => hs j (by omega) (by omega)) hf'
    by_cases hS : S p = true
    · have h1 := mk_ub d (p + 1) (fun j => F j && !cf p j) S (fun j g1 g2 g3 => by
        show (F j && !cf p j) = true
        rw [hs j (by omega) (by omega) g3, hf p j (by omega) (by omega) (by omega) hS g3]
        rfl) hf'
      rw [if_pos hS, if_pos (hs p (by omega) (by omega) hS)]
      omega
    · rw [if_neg hS]
      split
      · omega
      · omega
theorem gr_in : ∀ (d p : Nat) (F : Nat → Bool) (j : Nat), gr cf d p F j = true → p ≤ j ∧ j < p + d ∧ F j = true
  | 0, _, _, _, h => by cases h
  | d + 1, p, F, j, h => by
    have h' : (if F p = true then (if 1 + mkN cf d (p + 1) (fun j => F j && !cf p j) = mkN cf (d + 1) p F then (decide (j = p) || gr cf d (p + 1) (fun j => F j && !cf p j) j) else gr cf d (p + 1) F j) else gr cf d (p + 1) F j) = true := h
    by_cases hF : F p = true
    · rw [if_pos hF] at h'
      split at h'
      · rcases (Bool.or_eq_true _ _).mp h' with q | q
        · have := of_decide_eq_true q
          subst this
          exact ⟨by omega, by omega, hF⟩
        · have := gr_in d (p + 1) _ j q
          exact ⟨by omega, by omega, ((Bool.and_eq_true _ _).mp this.2.2).1⟩
      · have := gr_in d (p + 1) _ j h'
        exact ⟨by omega, by omega, this.2.2⟩
    · rw [if_neg hF] at h'
      have := gr_in d (p + 1) _ j h'
      exact ⟨by omega, by omega, this.2.2⟩
theorem gr_out {d p : Nat} {F : Nat → Bool} {j : Nat} (h : j < p) : gr cf d p F j = false := by
  cases hg : gr cf d p F j
  · rfl
  · have := gr_in cf d p F j hg
    omega
theorem gr_fea : ∀ (d p : Nat) (F : Nat → Bool), fea cf (gr cf d p F) p d
  | 0, _, _ => fun i j h1 h2 h3 => by omega
  | d + 1, p, F => by
    intro i j h1 h2 h3 hi hj
    have hi' : (if F p = true then (if 1 + mkN cf d (p + 1) (fun j => F j && !cf p j) = mkN cf (d + 1) p F then (decide (i = p) || gr cf d (p + 1) (fun j => F j && !cf p j) i) else gr cf d (p + 1) F i) else gr cf d (p + 1) F i) = true := hi
    have hj' : (if F p = true then (if 1 + mkN cf d (p + 1) (fun j => F j && !cf p j) = mkN cf (d + 1) p F then (decide (j = p) || gr cf d (p + 1) (fun j => F j && !cf p j) j) else gr cf d (p + 1) F j) else gr cf d (p + 1) F j) = true := hj
    by_cases hF : F p = true
    · rw [if_pos hF] at hi' hj'
      by_cases hk : 1 + mkN cf d (p + 1) (fun j => F j && !cf p j) = mkN cf (d + 1) p F
      · rw [if_pos hk] at hi' hj'
        have hj2 : gr cf d (p + 1) (fun j => F j && !cf p j) j = true := by
          rcases (Bool.or_eq_true _ _).mp hj' with q | q
          · have := of_decide_eq_true q
            omega
          · exact q
        rcases (Bool.or_eq_true _ _).mp hi' with q | q
        · have := of_decide_eq_true q
          subst this
          have := (gr_in cf d (i + 1) _ j hj2).2.2
          have := ((Bool.and_eq_true _ _).mp this).2
          cases hc : cf i j
          · rfl
          · rw [hc] at this; cases this
        · have := gr_in cf d (p + 1) _ i q
          exact gr_fea d (p + 1) _ i j (by omega) h2 (by omega) q hj2
      · rw [if_neg hk] at hi' hj'
        have := gr_in cf d (p + 1) _ i hi'
        exact gr_fea d (p + 1) _ i j (by omega) h2 (by omega) hi' hj'
    · rw [if_neg hF] at hi' hj'
      have := gr_in cf d (p + 1) _ i hi'
      exact gr_fea d (p + 1) _ i j (by omega) h2 (by omega) hi' hj'
theorem gr_cnt : ∀ (d p : Nat) (F : Nat → Bool), cn (gr cf d p F) p d = mkN cf d p F
  | 0, _, _ => rfl
  | d + 1, p, F => by
    show (if gr cf (d + 1) p F p = true then 1 else 0) + cn (gr cf (d + 1) p F) (p + 1) d = mkN cf (d + 1) p F
    by_cases hF : F p = true
    · by_cases hk : 1 + mkN cf d (p + 1) (fun j => F j && !cf p j) = mkN cf (d + 1) p F
      · have e : ∀ j, gr cf (d + 1) p F j = (decide (j = p) || gr cf d (p + 1) (fun j => F j && !cf p j) j) := fun j => by
          show (if F p = true then _ else _) = _
          rw [if_pos hF, if_pos hk]
        rw [e p, decide_eq_true rfl, Bool.true_or, if_pos rfl, cn_congr (S' := gr cf d (p + 1) (fun j => F j && !cf p j)) d (p + 1) (fun j h1 h2 => by rw [e j, decide_eq_false (by omega), Bool.false_or]), gr_cnt d (p + 1)]
        exact hk
      · have e : ∀ j, gr cf (d + 1) p F j = gr cf d (p + 1) F j := fun j => by
          show (if F p = true then _ else _) = _
          rw [if_pos hF, if_neg hk]
        rw [e p, gr_out cf (by omega), if_neg (by decide), cn_congr (S' := gr cf d (p + 1) F) d (p + 1) (fun j h1 h2 => e j), gr_cnt d (p + 1)]
        have e2 : mkN cf (d + 1) p F = max (1 + mkN cf d (p + 1) (fun j => F j && !cf p j)) (mkN cf d (p + 1) F) := by
          show (if F p = true then _ else _) = _
          rw [if_pos hF]
        omega
    · have e : ∀ j, gr cf (d + 1) p F j = gr cf d (p + 1) F j := fun j => by
        show (if F p = true then _ else _) = _
        rw [if_neg hF]
      have e2 : mkN cf (d + 1) p F = mkN cf d (p + 1) F := by
        show (if F p = true then _ else _) = _
        rw [if_neg hF]
      rw [e p, gr_out cf (by omega), if_neg (by decide), cn_congr (S' := gr cf d (p + 1) F) d (p + 1) (fun j h1 h2 => e j), gr_cnt d (p + 1), e2]
      omega
theorem gr_lex : ∀ (d p : Nat) (F S : Nat → Bool), (∀ j, p ≤ j → j < p + d → S j = true → F j = true) → fea cf S p d → cn S p d = mkN cf d p F → (∀ j, p ≤ j → j < p + d → S j = gr cf d p F j) ∨ ∃ i, p ≤ i ∧ i < p + d ∧ (∀ j, p ≤ j → j < i → S j = gr cf d p F j) ∧ gr cf d p F i = true ∧ S i = false
  | 0, _, _, _, _, _, _ => Or.inl (fun j h1 h2 => by omega)
  | d + 1, p, F, S, hs, hf, hc => by
    have hf' : fea cf S (p + 1) d := fun i j h1 h2 h3 => hf i j (by omega) h2 (by omega)
    have hc' : (if S p = true then 1 else 0) + cn S (p + 1) d = mkN cf (d + 1) p F := hc
    have key : ∀ F', (∀ j, gr cf (d + 1) p F j = true → j ≠ p → gr cf d (p + 1) F' j = true) → (∀ j, p + 1 ≤ j → gr cf (d + 1) p F j = gr cf d (p + 1) F' j) → S p = gr cf (d + 1) p F p → (∀ j, p + 1 ≤ j → j < p + 1 + d → S j = true → F' j = true) → cn S (p + 1) d = mkN cf d (p + 1) F' → (∀ j, p ≤ j → j < p + (d + 1) → S j = gr cf (d + 1) p F j) ∨ ∃ i, p ≤ i ∧ i < p + (d + 1) ∧ (∀ j, p ≤ j → j < i → S j = gr cf (d + 1) p F j) ∧ gr cf (d + 1) p F i = true ∧ S i = false := by
      intro F' _ e hp hs' hcn
      rcases gr_lex d (p + 1) F' S hs' hf' hcn with h | ⟨i, h1, h2, h3, h4, h5⟩
      · refine Or.inl (fun j g1 g2 => ?_)
        by_cases q : j = p
        · rw [q]; exact hp
        · rw [e j (by omega)]; exact h j (by omega) (by omega)
      · refine Or.inr ⟨i, by omega, by omega, fun j g1 g2 => ?_, by rw [e i h1]; exact h4, h5⟩
        by_cases q : j = p
        · rw [q]; exact hp
        · rw [e j (by omega)]; exact h3 j (by omega) g2
    by_cases hF : F p = true
    · have e2 : mkN cf (d + 1) p F = max (1 + mkN cf d (p + 1) (fun j => F j && !cf p j)) (mkN cf d (p + 1) F) := by
        show (if F p = true then _ else _) = _
        rw [if_pos hF]
      by_cases hk : 1 + mkN cf d (p + 1) (fun j => F j && !cf p j) = mkN cf (d + 1) p F
      · have e : ∀ j, gr cf (d + 1) p F j = (decide (j = p) || gr cf d (p + 1) (fun j => F j && !cf p j) j) := fun j => by
          show (if F p = true then _ else _) = _
          rw [if_pos hF, if_pos hk]
        have ep : gr cf (d + 1) p F p = true := by rw [e p, decide_eq_true rfl, Bool.true_or]
        by_cases hS : S p = true
        · rw [if_pos hS] at hc'
          exact key (fun j => F j && !cf p j) (fun j h1 h2 => by rw [e j, decide_eq_false h2, Bool.false_or] at h1; exact h1) (fun j h1 => by rw [e j, decide_eq_false (by omega), Bool.false_or]) (by rw [hS, ep]) (fun j g1 g2 g3 => by
            show (F j && !cf p j) = true
            rw [hs j (by omega) (by omega) g3, hf p j (by omega) (by omega) (by omega) hS g3]
            rfl) (by omega)
        · exact Or.inr ⟨p, by omega, by omega, fun j g1 g2 => by omega, ep, (Bool.not_eq_true _).mp hS⟩
      · have e : ∀ j, gr cf (d + 1) p F j = gr cf d (p + 1) F j := fun j => by
          show (if F p = true then _ else _) = _
          rw [if_pos hF, if_neg hk]
        have hS : S p = false := by
          cases hS : S p
          · rfl
          · exfalso
            rw [hS, if_pos rfl] at hc'
            have := mk_ub cf d (p + 1) (fun j => F j && !cf p j) S (fun j g1 g2 g3 => by
              show (F j && !cf p j) = true
              rw [hs j (by omega) (by omega) g3, hf p j (by omega) (by omega) (by omega) hS g3]
              rfl) hf'
            omega
        rw [hS, if_neg (by decide)] at hc'
        exact key F (fun j h1 h2 => by rw [e j] at h1; exact h1) (fun j h1 => e j) (by rw [hS, e p, gr_out cf (by omega)]) (fun j g1 g2 => hs j (by omega) (by omega)) (by omega)
    · have e : ∀ j, gr cf (d + 1) p F j = gr cf d (p + 1) F j := fun j => by
        show (if F p = true then _ else _) = _
        rw [if_neg hF]
      have e2 : mkN cf (d + 1) p F = mkN cf d (p + 1) F := by
        show (if F p = true then _ else _) = _
        rw [if_neg hF]
      have hS : S p = false := by
        cases hS : S p
        · rfl
        · exact absurd (hs p (by omega) (by omega) hS) hF
      rw [hS, if_neg (by decide)] at hc'
      exact key F (fun j h1 h2 => by rw [e j] at h1; exact h1) (fun j h1 => e j) (by rw [hS, e p, gr_out cf (by omega)]) (fun j g1 g2 => hs j (by omega) (by omega)) (by omega)
end KEEP
