/-! study() against look() -/
theorem nI_i {x y : Nat} (hx : x < 2 ^ 31) (hy : y < 2 ^ 31) (h : nI x = nI y) : x = y := by
  have := congrArg Int32.toNatClampNeg h
  rw [nI_clamp hx, nI_clamp hy] at this
  exact this
def hit (S : Nat → Bool) (f : Nat → Nat) : Nat → Nat → Bool
  | 0, _ => false
  | j + 1, r => hit S f j r || (S j && decide (f j = r))
theorem hit_iff (S : Nat → Bool) (f : Nat → Nat) (r : Nat) : ∀ a, hit S f a r = true ↔ ∃ j, j < a ∧ S j = true ∧ f j = r
  | 0 => ⟨fun h => (by cases h), fun ⟨j, h, _⟩ => (by omega)⟩
  | a + 1 => by
    show (hit S f a r || (S a && decide (f a = r))) = true ↔ _
    rw [Bool.or_eq_true, hit_iff S f r a, Bool.and_eq_true, decide_eq_true_iff]
    constructor
    · rintro (⟨j, h1, h2⟩ | ⟨h1, h2⟩)
      · exact ⟨j, by omega, h2⟩
      · exact ⟨a, by omega, h1, h2⟩
    · rintro ⟨j, h1, h2, h3⟩
      by_cases e : j = a
      · subst e; exact Or.inr ⟨h2, h3⟩
      · exact Or.inl ⟨j, by omega, h2, h3⟩
theorem c0_flip {g h : Nat → Bool} {r0 : Nat} (hne : ∀ r, r ≠ r0 → h r = g r) (hg : g r0 = false) (hh : h r0 = true) : ∀ k, c0 h k = c0 g k + (if r0 < k then 1 else 0)
  | 0 => rfl
  | k + 1 => by
    show c0 h k + (if h k = true then 1 else 0) = c0 g k + (if g k = true then 1 else 0) + (if r0 < k + 1 then 1 else 0)
    rw [c0_flip hne hg hh k]
    by_cases e : k = r0
    · subst e
      rw [hg, hh, if_neg (show ¬ k < k by omega), if_pos (show k < k + 1 by omega)]
      simp
    · rw [hne k e]
      by_cases hlt : r0 < k
      · rw [if_pos hlt, if_pos (show r0 < k + 1 by omega)]; omega
      · rw [if_neg hlt, if_neg (show ¬ r0 < k + 1 by omega)]; omega
theorem c0_hit {S : Nat → Bool} {f : Nat → Nat} {k : Nat} : ∀ a, (∀ i j, i < j → j < a → S i = true → S j = true → f i ≠ f j) → (∀ j, j < a → S j = true → f j < k) → c0 S a = c0 (hit S f a) k
  | 0, _, _ => by
    have : ∀ k, c0 (hit S f 0) k = 0 := by
      intro k
      induction k with
      | zero => rfl
      | succ k ih =>
        show c0 (hit S f 0) k + (if hit S f 0 k = true then 1 else 0) = 0
        rw [ih]; rfl
    rw [this]; rfl
  | a + 1, h1, h2 => by
    show c0 S a + (if S a = true then 1 else 0) = _
    rw [c0_hit a (fun i j p q => h1 i j p (by omega)) (fun j p => h2 j (by omega))]
    cases hS : S a
    · rw [if_neg (by decide), Nat.add_zero]
      refine c0_congr k (fun j hj => ?_)
      show hit S f a j = (hit S f a j || (S a && decide (f a = j)))
      rw [hS, Bool.false_and, Bool.or_false]
    · rw [if_pos rfl, c0_flip (g := hit S f a) (h := hit S f (a + 1)) (r0 := f a) _ _ _ k, if_pos (h2 a (by omega) hS)]
      · intro r hr
        show (hit S f a r || (S a && decide (f a = r))) = _
        rw [decide_eq_false (fun q => hr q.symm), Bool.and_false, Bool.or_false]
      · cases hh : hit S f a (f a)
        · rfl
        · obtain ⟨j, g1, g2, g3⟩ := (hit_iff S f (f a) a).mp hh
          exact absurd g3 (h1 j a g1 (by omega) g2 hS)
      · show (hit S f a (f a) || (S a && decide (f a = f a))) = true
        rw [hS, decide_eq_true rfl, Bool.true_and, Bool.or_true]
theorem c0_full {G : Nat → Bool} : ∀ k, c0 G k = k → ∀ r, r < k → G r = true
  | 0, _, r, h => by omega
  | k + 1, h, r, hr => by
    have h' : c0 G k + (if G k = true then 1 else 0) = k + 1 := h
    have := c0_le G k
    cases hG : G k
    · rw [hG, if_neg (by decide)] at h'; omega
    · rw [hG, if_pos rfl] at h'
      by_cases e : r = k
      · subst e; exact hG
      · exact c0_full k (by omega) r (by omega)
theorem c0_none {G : Nat → Bool} : ∀ k, c0 G k = 0 → ∀ r, r < k → G r = false
  | 0, _, r, h => by omega
  | k + 1, h, r, hr => by
    have h' : c0 G k + (if G k = true then 1 else 0) = 0 := h
    cases hG : G k
    · by_cases e : r = k
      · subst e; exact hG
      · exact c0_none k (by omega) r (by omega)
    · rw [hG, if_pos rfl] at h'; omega
def fi (P : Nat → Bool) : Nat → Nat → Option Nat
  | _, 0 => none
  | i, d + 1 => if P i = true then some i else fi P (i + 1) d
def hC {α : Type} (o : Option Nat) (no : α) (yes : Nat → α) : α := match o with | none => no | some j => yes j
theorem fi_some {P : Nat → Bool} {j : Nat} : ∀ (d i : Nat), fi P i d = some j → i ≤ j ∧ j < i + d ∧ P j = true
  | 0, _, h => by cases h
  | d + 1, i, h => by
    have h' : (if P i = true then some i else fi P (i + 1) d) = some j := h
    by_cases hp : P i = true
    · rw [if_pos hp] at h'
      cases h'
      exact ⟨by omega, by omega, hp⟩
    · rw [if_neg hp] at h'
      obtain ⟨h1, h2, h3⟩ := fi_some d (i + 1) h'
      exact ⟨by omega, by omega, h3⟩
theorem fi_none {P : Nat → Bool} : ∀ (d i : Nat), fi P i d = none → ∀ j, i ≤ j → j < i + d → P j = false
  | 0, _, _, j, h1, h2 => by omega
  | d + 1, i, h, j, h1, h2 => by
    have h' : (if P i = true then some i else fi P (i + 1) d) = none := h
    by_cases hp : P i = true
    · rw [if_pos hp] at h'
      cases h'
    · rw [if_neg hp] at h'
      by_cases e : j = i
      · subst e; exact (Bool.not_eq_true _).mp hp
      · exact fi_none d (i + 1) h' j (by omega) (by omega)
theorem fi_no {P : Nat → Bool} : ∀ (d i : Nat), (∀ j, i ≤ j → j < i + d → P j = false) → fi P i d = none
  | 0, _, _ => rfl
  | d + 1, i, h => by
    show (if P i = true then some i else fi P (i + 1) d) = none
    rw [h i (by omega) (by omega), if_neg (by decide)]
    exact fi_no d (i + 1) (fun j h1 h2 => h j (by omega) (by omega))
section STUDY
variable {n k a : Nat} {rl mt mr fr num row ah be : Nat → Int32} {R : Nat → Int32} {kp : Int32}
theorem drop_loop (ha : a ≤ 16) {hc hl hp : Int32} : ∀ (f d i : Nat), i + d = a → d < f → fX3_findDrop_h2 f (nI i) hc hl hp R (nI a) row = hC (fi (fun i => decide (R i = -1)) i d) (some (0, hc, hl, hp)) (fun j => some (1, 0, row j, nI j)) := by
  intro f
  induction f with
  | zero => intro d i _ h; omega
  | succ f ih =>
    intro d i hi hd
    show uX3_findDrop_h2 (fX3_findDrop_h2 f) (nI i) hc hl hp R (nI a) row = _
    unfold uX3_findDrop_h2
    cases d with
    | zero => rw [if_pos (nI_le (by omega) (by omega))]; rfl
    | succ d =>
      rw [if_neg (nI_ge (by omega) (by omega)), ck_n (by omega) (by omega), nI_clamp (by omega), nI_1]
      show _ = hC (if decide (R i = -1) = true then some i else fi (fun i => decide (R i = -1)) (i + 1) d) _ _
      by_cases h : R i = -1
      · rw [if_pos h, if_pos (decide_eq_true h), lineAt_v (by omega) ha, Option.bind_some]
        rfl
      · rw [if_neg h, if_neg (fun q => h (of_decide_eq_true q))]
        exact ih d (i + 1) (by omega) (by omega)
theorem swap_loop (hn : n ≤ 16) (ha : a ≤ 16) (hrow : RowIn n a row) {hc hl hp : Int32} : ∀ (f d i : Nat), i + d = a → d < f → fX3_findSwap_h2 f (nI i) hc hl hp (nI n) rl (nI a) row = hC (fi (fun i => decide (rl (row i).toNatClampNeg = 2)) i d) (some (0, hc, hl, hp)) (fun j => some (1, 3, row j, nI j)) := by
  intro f
  induction f with
  | zero => intro d i _ h; omega
  | succ f ih =>
    intro d i hi hd
    show uX3_findSwap_h2 (fX3_findSwap_h2 f) (nI i) hc hl hp (nI n) rl (nI a) row = _
    unfold uX3_findSwap_h2
    cases d with
    | zero => rw [if_pos (nI_le (by omega) (by omega))]; rfl
    | succ d =>
      obtain ⟨l, hl', e⟩ := hrow i (by omega)
      rw [if_neg (nI_ge (by omega) (by omega)), lineAt_v (by omega) ha, Option.bind_some, e, roleOf_v hl' hn, Option.bind_some, nI_1]
      show _ = hC (if decide (rl (row i).toNatClampNeg = 2) = true then some i else fi (fun i => decide (rl (row i).toNatClampNeg = 2)) (i + 1) d) _ _
      rw [e, nI_clamp (by omega)]
      by_cases h : rl l = 2
      · rw [if_pos h, if_pos (decide_eq_true h)]
        show _ = some (1, 3, row i, nI i)
        rw [e]
        rfl
      · rw [if_neg h, if_neg (fun q => h (of_decide_eq_true q))]
        exact ih d (i + 1) (by omega) (by omega)
/-- the kept places that a rank has to stand behind -/
def cB (kp : Int32) (R ah : Nat → Int32) (r j : Nat) : Bool := bt kp j && bt (ah r) (R j).toNatClampNeg
theorem pbk_v (hk : k ≤ 12) (ha : a ≤ 16) {r g : Nat} {gx : Int32} (hr : r < k) (hg : GoOK g gx) (hkR : ∀ j, j < a → bt kp j = true → ∃ q, q < k ∧ R j = nI q) (hcg : bt kp g = false) : fX3_placeBehindKept (nI r) gx kp R (nI k) ah (nI a) = some (nI (pf (cB kp R ah r) g 0 a 0)) := by
  unfold fX3_placeBehindKept
  have := pbk_loop (ah := ah) hk ha (R := R) (kp := kp) (c := cB kp R ah r) hr hg (fun j hj hb => by
    obtain ⟨q, hq, e⟩ := hkR j hj hb
    refine ⟨q, hq, e, ?_⟩
    unfold cB
    rw [hb, e, nI_clamp (by omega), Bool.true_and]) (fun j hj hb => by unfold cB; rw [hb, Bool.false_and]) (by unfold cB; rw [hcg, Bool.false_and]) FU a 0 0 (by omega) (by rw [FU_eq]; omega)
  rw [if_neg (show ¬ g < 0 by omega)] at this
  exact this
theorem pfor_v (hk : k ≤ 12) (ha : a ≤ 16) {r g : Nat} {gx : Int32} (hr : r < k) (hg : GoOK g gx) (hkR : ∀ j, j < a → bt kp j = true → ∃ q, q < k ∧ R j = nI q) (hcg : bt kp g = false) (hab : ∀ q r, q < k → r < k → bt (ah r) q = bt (be q) r) (htk : ∀ i, i < a → fX6_takenFor (nI i) (nI a) rl mt fr row = some (R i)) : fX6_placeFor (nI r) gx (nI a) kp rl mt fr be row = some (nI (pf (cB kp R ah r) g 0 a 0)) := by
  unfold fX6_placeFor
  exact pfor_loop (be := be) hk ha (R := R) (kp := kp) (c := cB kp R ah r) hr hg (fun j hj hb => by
    obtain ⟨q, hq, e⟩ := hkR j hj hb
    refine ⟨q, hq, e, ?_⟩
    unfold cB
    rw [hb, e, nI_clamp (by omega), Bool.true_and, hab q r hq hr]) (fun j hj hb => by unfold cB; rw [hb, Bool.false_and]) (by unfold cB; rw [hcg, Bool.false_and]) htk FU a 0 0 (by omega) (by rw [FU_eq]; omega)
theorem add_loop (hk : k ≤ 12) (ha : a ≤ 16) (hkR : ∀ j, j < a → bt kp j = true → ∃ q, q < k ∧ R j = nI q) {hc hl hp : Int32} : ∀ (f d i : Nat), i + d = k → d < f → fX3_findAdd_h2 f (nI i) kp hc hl hp R (nI k) num ah (nI a) row = hC (fi (fun r => decide (pl row (num r) 0 a = -1)) i d) (some (0, hc, hl, hp)) (fun r => some (1, 1, num r, nI (pf (cB kp R ah r) 99 0 a 0))) := by
  intro f
  induction f with
  | zero => intro d i _ h; omega
  | succ f ih =>
    intro d i hi hd
    show uX3_findAdd_h2 (fX3_findAdd_h2 f) (nI i) kp hc hl hp R (nI k) num ah (nI a) row = _
    unfold uX3_findAdd_h2
    cases d with
    | zero => rw [if_pos (nI_le (by omega) (by omega))]; rfl
    | succ d =>
      rw [if_neg (nI_ge (by omega) (by omega)), lineOf_v hk (by omega), Option.bind_some, holds_v ha, Option.bind_some, nI_1]
      show _ = hC (if decide (pl row (num i) 0 a = -1) = true then some i else fi (fun r => decide (pl row (num r) 0 a = -1)) (i + 1) d) _ _
      by_cases h : pl row (num i) 0 a = -1
      · rw [if_pos h, if_pos rfl, if_pos (decide_eq_true h), pbk_v hk ha (by omega) (Or.inr ⟨rfl, rfl⟩) hkR (b_big (by omega)), Option.bind_some]
        rfl
      · rw [if_neg h, if_neg (by decide), if_neg (fun q => h (of_decide_eq_true q))]
        exact ih d (i + 1) (by omega) (by omega)
theorem move_loop (hk : k ≤ 12) (ha : a ≤ 16) (hkR : ∀ j, j < a → ∃ q, q < k ∧ R j = nI q) {hc hl hp : Int32} : ∀ (f d i : Nat), i + d = a → d < f → fX3_findMove_h2 f (nI i) kp hc hl hp R (nI k) ah (nI a) row = hC (fi (fun i => !bt kp i) i d) (some (0, hc, hl, hp)) (fun i => some (1, 2, row i, nI (pf (cB kp R ah (R i).toNatClampNeg) i 0 a 0))) := by
  intro f
  induction f with
  | zero => intro d i _ h; omega
  | succ f ih =>
    intro d i hi hd
    show uX3_findMove_h2 (fX3_findMove_h2 f) (nI i) kp hc hl hp R (nI k) ah (nI a) row = _
    unfold uX3_findMove_h2
    cases d with
    | zero => rw [if_pos (nI_le (by omega) (by omega))]; rfl
    | succ d =>
      rw [if_neg (nI_ge (by omega) (by omega)), isKept_v ha (by omega), Option.bind_some, nI_1]
      show _ = hC (if (!bt kp i) = true then some i else fi (fun i => !bt kp i) (i + 1) d) _ _
      cases hb : bt kp i
      · obtain ⟨q, hq, e⟩ := hkR i (by omega)
        rw [if_pos (by decide), lineAt_v (by omega) ha, Option.bind_some, ck_n (by omega) (by omega), nI_clamp (by omega), e, pbk_v hk ha hq (Or.inl ⟨rfl, by omega⟩) (fun j hj _ => hkR j hj) hb, Option.bind_some, if_pos (by decide)]
        show _ = some (1, 2, row i, nI (pf (cB kp R ah (R i).toNatClampNeg) i 0 a 0))
        rw [e, nI_clamp (by omega)]
        rfl
      · rw [if_pos rfl, if_neg (by decide), if_neg (by decide)]
        exact ih d (i + 1) (by omega) (by omega)
/-! the reference -/
variable {km tm hc hl hp : Int32} {tp ag : Nat → Int32}
theorem l25 (ha : a ≤ 16) (htk : ∀ i, i < a → fX6_takenFor (nI i) (nI a) rl mt fr row = some (R i)) : ∀ (f d i : Nat), i + d = a → d < f → fX6_look_h25 f (nI i) (nI k) (nI a) kp km tm hc hl hp rl mt num fr be row tp ag = hC (fi (fun i => decide (R i = -1)) i d) (fX6_look_h71 FU 0 (nI k) (nI a) kp km tm hc hl hp rl mt num fr be row tp ag) (fun j => some (kp, km, tm, 0, row j, nI j, tp, ag)) := by
  intro f
  induction f with
  | zero => intro d i _ h; omega
  | succ f ih =>
    intro d i hi hd
    show uX6_look_h25 (fX6_look_h25 f) (nI i) (nI k) (nI a) kp km tm hc hl hp rl mt num fr be row tp ag = _
    unfold uX6_look_h25
    cases d with
    | zero => rw [if_pos (nI_le (by omega) (by omega))]; rfl
    | succ d =>
      rw [if_neg (nI_ge (by omega) (by omega)), htk i (by omega), Option.bind_some, ck_n (by omega) (by omega), nI_clamp (by omega), nI_1]
      show _ = hC (if decide (R i = -1) = true then some i else fi (fun i => decide (R i = -1)) (i + 1) d) _ _
      by_cases h : R i = -1
      · rw [if_pos h, if_pos (decide_eq_true h)]
        rfl
      · rw [if_neg h, if_neg (fun q => h (of_decide_eq_true q))]
        exact ih d (i + 1) (by omega) (by omega)
theorem l71 (hn : n ≤ 16) (ha : a ≤ 16) (hrow : RowIn n a row) : ∀ (f d i : Nat), i + d = a → d < f → fX6_look_h71 f (nI i) (nI k) (nI a) kp km tm hc hl hp rl mt num fr be row tp ag = hC (fi (fun i => decide (rl (row i).toNatClampNeg = 2)) i d) (fX6_look_h123 FU 0 (nI k) (nI a) kp km tm hc hl hp rl mt num fr be row tp ag) (fun j => some (kp, km, tm, 3, row j, nI j, tp, ag)) := by
  intro f
  induction f with
  | zero => intro d i _ h; omega
  | succ f ih =>
    intro d i hi hd
    show uX6_look_h71 (fX6_look_h71 f) (nI i) (nI k) (nI a) kp km tm hc hl hp rl mt num fr be row tp ag = _
    unfold uX6_look_h71
    cases d with
    | zero => rw [if_pos (nI_le (by omega) (by omega))]; rfl
    | succ d =>
      obtain ⟨l, hl', e⟩ := hrow i (by omega)
      rw [if_neg (nI_ge (by omega) (by omega)), ck_n (by omega) (by omega), ck_n (by omega) (by omega), nI_clamp (by omega), nI_1]
      show _ = hC (if decide (rl (row i).toNatClampNeg = 2) = true then some i else fi (fun i => decide (rl (row i).toNatClampNeg = 2)) (i + 1) d) _ _
      have hin : inB (row i) 16 = true := by rw [e]; exact inB_nI (by omega) (by omega)
      rw [ck_t hin]
      by_cases h : rl (row i).toNatClampNeg = 2
      · rw [if_pos h, if_pos (decide_eq_true h)]
        rfl
      · rw [if_neg h, if_neg (fun q => h (of_decide_eq_true q))]
        exact ih d (i + 1) (by omega) (by omega)
theorem l123 (hk : k ≤ 12) (ha : a ≤ 16) (hkR : ∀ j, j < a → bt kp j = true → ∃ q, q < k ∧ R j = nI q) (hab : ∀ q r, q < k → r < k → bt (ah r) q = bt (be q) r) (htk : ∀ i, i < a → fX6_takenFor (nI i) (nI a) rl mt fr row = some (R i)) : ∀ (f d i : Nat), i + d = k → d < f → fX6_look_h123 f (nI i) (nI k) (nI a) kp km tm hc hl hp rl mt num fr be row tp ag = hC (fi (fun r => decide (pl row (num r) 0 a = -1)) i d) (fX6_look_h179 FU 0 (nI k) (nI a) kp km tm hc hl hp rl mt num fr be row tp ag) (fun r => some (kp, km, tm, 1, num r, nI (pf (cB kp R ah r) 99 0 a 0), tp, ag)) := by
  intro f
  induction f with
  | zero => intro d i _ h; omega
  | succ f ih =>
    intro d i hi hd
    show uX6_look_h123 (fX6_look_h123 f) (nI i) (nI k) (nI a) kp km tm hc hl hp rl mt num fr be row tp ag = _
    unfold uX6_look_h123
    cases d with
    | zero => rw [if_pos (nI_le (by omega) (by omega))]; rfl
    | succ d =>
      rw [if_neg (nI_ge (by omega) (by omega)), ck_n (by omega) (by omega), nI_clamp (by omega), e_placeOf, placeOf_v ha, Option.bind_some, ck_n (by omega) (by omega), nI_1]
      show _ = hC (if decide (pl row (num i) 0 a = -1) = true then some i else fi (fun r => decide (pl row (num r) 0 a = -1)) (i + 1) d) _ _
      by_cases h : pl row (num i) 0 a = -1
      · rw [if_pos h, if_pos (decide_eq_true h), pfor_v hk ha (by omega) (Or.inr ⟨rfl, rfl⟩) hkR (b_big (by omega)) hab htk, Option.bind_some]
        rfl
      · rw [if_neg h, if_neg (fun q => h (of_decide_eq_true q))]
        exact ih d (i + 1) (by omega) (by omega)
theorem l179 (hn : n ≤ 16) (hk : k ≤ 12) (ha : a ≤ 16) (hrow : RowIn n a row) (hkR : ∀ j, j < a → ∃ q, q < k ∧ R j = nI q ∧ fr (row j).toNatClampNeg = nI q) (hab : ∀ q r, q < k → r < k → bt (ah r) q = bt (be q) r) (htk : ∀ i, i < a → fX6_takenFor (nI i) (nI a) rl mt fr row = some (R i)) : ∀ (f d i : Nat), i + d = a → d < f → fX6_look_h179 f (nI i) (nI k) (nI a) kp km tm hc hl hp rl mt num fr be row tp ag = hC (fi (fun i => !bt kp i) i d) (some (kp, km, tm, hc, hl, hp, tp, ag)) (fun i => some (kp, km, tm, 2, row i, nI (pf (cB kp R ah (R i).toNatClampNeg) i 0 a 0), tp, ag)) := by
  intro f
  induction f with
  | zero => intro d i _ h; omega
  | succ f ih =>
    intro d i hi hd
    show uX6_look_h179 (fX6_look_h179 f) (nI i) (nI k) (nI a) kp km tm hc hl hp rl mt num fr be row tp ag = _
    unfold uX6_look_h179
    cases d with
    | zero => rw [if_pos (nI_le (by omega) (by omega))]; rfl
    | succ d =>
      obtain ⟨l, hl', el⟩ := hrow i (by omega)
      have hin : inB (row i) 16 = true := by rw [el]; exact inB_nI (by omega) (by omega)
      rw [if_neg (nI_ge (by omega) (by omega)), shr_bit _ (show i < 32 by omega), ck_n (by omega) (by omega), nI_clamp (by omega), ck_t hin, nI_1]
      show _ = hC (if (!bt kp i) = true then some i else fi (fun i => !bt kp i) (i + 1) d) _ _
      cases hb : bt kp i
      · obtain ⟨q, hq, e, ef⟩ := hkR i (by omega)
        rw [if_pos (by decide), ef, pfor_v hk ha hq (Or.inl ⟨rfl, by omega⟩) (fun j hj _ => by obtain ⟨q, h1, h2, _⟩ := hkR j hj; exact ⟨q, h1, h2⟩) hb hab htk, Option.bind_some, if_pos (by decide)]
        show _ = some (kp, km, tm, 2, row i, nI (pf (cB kp R ah (R i).toNatClampNeg) i 0 a 0), tp, ag)
        rw [e, nI_clamp (by omega)]
      · rw [if_pos rfl, if_neg (by decide), if_neg (by decide)]
        exact ih d (i + 1) (by omega) (by omega)
end STUDY
