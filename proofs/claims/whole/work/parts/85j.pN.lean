/-! rows under changes; follow() -/
theorem row_in_of {n a : Nat} {row : Nat → Int32} {l : Nat} (h : pl row (nI l) 0 a = -1) (ha : a ≤ 16) {j : Nat} (hj : j < a) : ¬ row j = nI l := (pl_none a 0 (by omega)).mp h j (by omega) (by omega)
theorem row_ins {n a p l : Nat} {row : Nat → Int32} (hr : RowOK n a row) (ha : a < 16) (hp : p ≤ a) (hl : l < n) (h : pl row (nI l) 0 a = -1) : RowOK n (a + 1) (ins row p a (nI l)) := by
  have hne := fun {j} hj => row_in_of (n := n) (j := j) h (by omega) hj
  have hv : ∀ j, j < a + 1 → (j = p ∧ ins row p a (nI l) j = nI l) ∨ (∃ i, i < a ∧ ins row p a (nI l) j = row i ∧ ((j < p ∧ i = j) ∨ (p < j ∧ i + 1 = j))) := by
    intro j hj
    unfold ins
    by_cases e : j = p
    · exact Or.inl ⟨e, if_pos e⟩
    · rw [if_neg e]
      by_cases e2 : p < j
      · rw [if_pos ⟨e2, by omega⟩]
        exact Or.inr ⟨j - 1, by omega, rfl, Or.inr ⟨e2, by omega⟩⟩
      · rw [if_neg (fun q => e2 q.1)]
        exact Or.inr ⟨j, by omega, rfl, Or.inl ⟨by omega, rfl⟩⟩
  have hdi : ∀ i j, i < a → j < a → i ≠ j → ¬ row i = row j := by
    intro i j hi hj hij e
    rcases Nat.lt_or_ge i j with q | q
    · exact hr.2.2 i j q hj e
    · exact hr.2.2 j i (by omega) hi e.symm
  refine ⟨by omega, fun j hj => ?_, fun i j hij hj e => ?_⟩
  · rcases hv j hj with ⟨_, q⟩ | ⟨i, hi, q, _⟩
    · exact ⟨l, hl, q⟩
    · rw [q]; exact hr.2.1 i hi
  · rcases hv i (by omega) with ⟨u1, u2⟩ | ⟨u, u1, u2, u3⟩
    · rcases hv j hj with ⟨w1, w2⟩ | ⟨w, w1, w2, w3⟩
      · omega
      · rw [u2, w2] at e; exact hne w1 e.symm
    · rcases hv j hj with ⟨w1, w2⟩ | ⟨w, w1, w2, w3⟩
      · rw [u2, w2] at e; exact hne u1 e
      · rw [u2, w2] at e
        exact hdi u w u1 w1 (by omega) e
theorem row_rem {n a p : Nat} {row : Nat → Int32} (hr : RowOK n (a + 1) row) : RowOK n a (rem row p a) := by
  have hv : ∀ j, j < a → ∃ i, i < a + 1 ∧ rem row p a j = row i ∧ ((j < p ∧ i = j) ∨ (p ≤ j ∧ i = j + 1)) := by
    intro j hj
    unfold rem
    by_cases e2 : p ≤ j
    · rw [if_pos ⟨e2, hj⟩]
      exact ⟨j + 1, by omega, rfl, Or.inr ⟨e2, rfl⟩⟩
    · rw [if_neg (fun q => e2 q.1)]
      exact ⟨j, by omega, rfl, Or.inl ⟨by omega, rfl⟩⟩
  have h16 := hr.1
  refine ⟨by omega, fun j hj => ?_, fun i j hij hj e => ?_⟩
  · obtain ⟨i, hi, q, _⟩ := hv j hj
    rw [q]; exact hr.2.1 i hi
  · obtain ⟨u, u1, u2, u3⟩ := hv i (by omega)
    obtain ⟨w, w1, w2, w3⟩ := hv j hj
    rw [u2, w2] at e
    exact hr.2.2 u w (by omega) w1 e
theorem rem_no {n a p : Nat} {row : Nat → Int32} (hr : RowOK n (a + 1) row) (hp : p < a + 1) : pl (rem row p a) (row p) 0 a = -1 := by
  have h16 := hr.1
  refine (pl_none a 0 (by omega)).mpr (fun j _ hj e => ?_)
  unfold rem at e
  by_cases e2 : p ≤ j
  · rw [if_pos ⟨e2, by omega⟩] at e
    exact hr.2.2 p (j + 1) (by omega) (by omega) e.symm
  · rw [if_neg (fun q => e2 q.1)] at e
    exact hr.2.2 j p (by omega) hp e
theorem row_upd {n a p l : Nat} {row : Nat → Int32} (hr : RowOK n a row) (hl : l < n) (h : pl row (nI l) 0 a = -1) : RowOK n a (upd row p (nI l)) := by
  have hne := fun {j} hj => row_in_of (n := n) (j := j) h hr.1 hj
  refine ⟨hr.1, fun j hj => ?_, fun i j hij hj e => ?_⟩
  · by_cases e : j = p
    · subst e; exact ⟨l, hl, upd_s _ _ _⟩
    · rw [upd_n e]; exact hr.2.1 j hj
  · by_cases e1 : i = p
    · subst e1
      rw [upd_s, upd_n (by omega)] at e
      exact hne hj e.symm
    · by_cases e2 : j = p
      · subst e2
        rw [upd_s, upd_n (by omega)] at e
        exact hne (by omega) e
      · rw [upd_n e1, upd_n e2] at e
        exact hr.2.2 i j hij hj e
theorem row_room {n a l : Nat} {row : Nat → Int32} (hn : n ≤ 16) (hr : RowOK n a row) (hl : l < n) (h : pl row (nI l) 0 a = -1) : a < n := by
  have hne := fun {j} hj => row_in_of (n := n) (j := j) h hr.1 hj
  have ha := hr.1
  have e := c0_hit (S := fun _ => true) (f := fun j => (row j).toNatClampNeg) (k := n) a (fun i j hij hj _ _ e => by
    obtain ⟨x, x1, x2⟩ := hr.2.1 i (by omega)
    obtain ⟨y, y1, y2⟩ := hr.2.1 j hj
    have e' : (row i).toNatClampNeg = (row j).toNatClampNeg := e
    rw [x2, y2, nI_clamp (by omega), nI_clamp (by omega)] at e'
    exact hr.2.2 i j hij hj (by rw [x2, y2, e'])) (fun j hj _ => by
    obtain ⟨x, x1, x2⟩ := hr.2.1 j hj
    show (row j).toNatClampNeg < n
    rw [x2, nI_clamp (by omega)]; exact x1)
  have hall : ∀ a, c0 (fun _ => true) a = a := by
    intro a
    induction a with
    | zero => rfl
    | succ a ih =>
      show c0 (fun _ => true) a + (if true = true then 1 else 0) = a + 1
      rw [ih, if_pos rfl]
  rw [hall] at e
  have h1 := c0_le (hit (fun _ => true) (fun j => (row j).toNatClampNeg) a) n
  rcases Nat.lt_or_ge a n with q | q
  · exact q
  · have := c0_full n (by omega : c0 (hit (fun _ => true) (fun j => (row j).toNatClampNeg) a) n = n) l hl
    obtain ⟨j, g1, _, g3⟩ := (hit_iff _ _ l a).mp this
    obtain ⟨x, x1, x2⟩ := hr.2.1 j g1
    have g3' : (row j).toNatClampNeg = l := g3
    rw [x2, nI_clamp (by omega)] at g3'
    subst g3'
    exact absurd x2 (hne g1)
theorem pl_at {n a p : Nat} {row : Nat → Int32} (hr : RowOK n a row) (hp : p < a) : pl row (row p) 0 a = nI p := by
  have ha := hr.1
  rcases pl_some (row := row) (x := row p) a 0 with h | ⟨j, _, h2, h3, h4⟩
  · exact absurd rfl ((pl_none a 0 (by omega)).mp h p (by omega) (by omega))
  · rcases Nat.lt_trichotomy j p with q | q | q
    · exact absurd h4 (hr.2.2 j p q hp)
    · rw [h3, q]
    · exact absurd h4.symm (hr.2.2 p j q (by omega))
theorem ins_rem {p a : Nat} {row : Nat → Int32} {x : Int32} : ins (rem row p a) p a x = upd row p x := by
  funext j
  unfold ins rem upd
  by_cases e : j = p
  · rw [if_pos e, if_pos e]
  · rw [if_neg e, if_neg e]
    by_cases h : p < j ∧ j ≤ a
    · rw [if_pos h, if_pos ⟨by omega, by omega⟩, show j - 1 + 1 = j by omega]
    · rw [if_neg h, if_neg (by omega)]
section FOLLOW
variable {n k a : Nat} {rl mt mr fr num row ah be : Nat → Int32}
theorem follow_v (hE : EnvOK n k rl mt mr fr num ah be) (hr : RowOK n a row) (hd kp0 ch0 hc0 hl0 hp0 : Int32) (R0 CL0 : Nat → Int32) (kb km tm c w h : Int32) (tp ag : Nat → Int32) : ∃ v hd' a' row', RowOK n a' row' ∧ (∃ kp ch hc hl hp R CL, fX5_follow hd kp0 ch0 hc0 hl0 hp0 R0 CL0 (nI n) rl mt (nI k) num mr ah (nI a) row = some (v, hd', kp, ch, hc, hl, hp, R, CL, nI a', row')) ∧ (∃ kb' km' tm' c' w' h' tp' ag', fX6_follow (nI k) (nI a) hd kb km tm c w h rl mt num fr be row tp ag = some (v, nI a', hd', kb', km', tm', c', w', h', row', tp', ag')) := by
  obtain ⟨kp, mk, hc, hl, hp, R, CL, s1, s2, s3, s4⟩ := study_v hE hr kp0 ch0 hc0 hl0 hp0 R0 CL0
  obtain ⟨kn, tn, tp1, ag1, l1⟩ := s4 kb km tm c w h tp ag
  have hn := hE.1
  have ha := hr.1
  -- a changed row marks alike
  have fin : ∀ a' row', RowOK n a' row' → fX5_doHint hc hl hp (nI n) mt (nI a) row = some (nI a', row') → ¬ hc = -1 → ∃ v, (∃ kp ch hc hl hp R CL, fX5_follow hd kp0 ch0 hc0 hl0 hp0 R0 CL0 (nI n) rl mt (nI k) num mr ah (nI a) row = some (v, hd + 1, kp, ch, hc, hl, hp, R, CL, nI a', row')) ∧ ∃ kb' km' tm' tp' ag', fX6_markOf (nI k) (nI a') kp kn tn rl mt fr be row' tp1 ag1 = some (v, kb', km', tm', tp', ag') := by
    intro a' row' hr' hdo hne
    obtain ⟨kp', mk', hc', hl', hp', R', CL', q1, _, q3, _⟩ := study_v hE hr' kp mk hc hl hp R CL
    obtain ⟨kn', tn', tp', ag', _, q5⟩ := q3 kp kn tn tp1 ag1
    refine ⟨mk', ⟨kp', mk', hc', hl', hp', R', CL', ?_⟩, kp', kn', tn', tp', ag', q5⟩
    unfold fX5_follow
    rw [s1, Option.bind_some]
    dsimp only
    rw [if_neg hne, hdo, Option.bind_some]
    dsimp only
    rw [q1, Option.bind_some]
  rcases s2 with e | ⟨e, p, hp1, e1⟩ | ⟨e, p, l, q, hp1, hl1, hq1, e1, e2, e3, e4⟩ | ⟨e, p, l, hp1, hl1, e1, e2, e3⟩ | ⟨e, p, to, hp1, ht1, e1, e2⟩
  · subst e
    refine ⟨-1, hd, a, row, hr, ⟨kp, mk, -1, hl, hp, R, CL, ?_⟩, kp, kn, tn, -1, hl, hp, tp1, ag1, ?_⟩
    · unfold fX5_follow
      rw [s1, Option.bind_some]
      dsimp only
      rw [if_pos rfl]
    · unfold fX6_follow
      rw [l1, Option.bind_some]
      dsimp only
      rw [if_pos rfl]
  · subst e e1
    obtain ⟨b, rfl⟩ : ∃ b, a = b + 1 := ⟨a - 1, by omega⟩
    have hrm := row_rem (p := p) hr
    have hdo : fX5_doHint 0 hl (nI p) (nI n) mt (nI (b + 1)) row = some (nI b, rem row p b) := by
      unfold fX5_doHint
      rw [if_pos rfl, remove_v (by omega) hp1, Option.bind_some]
    obtain ⟨v, c1, kb', km', tm', tp', ag', c2⟩ := fin b _ hrm hdo (by decide)
    refine ⟨v, hd + 1, b, _, hrm, c1, kb', km', tm', 0, hl, nI p, tp', ag', ?_⟩
    unfold fX6_follow
    rw [l1, Option.bind_some]
    dsimp only
    rw [if_neg (by decide), if_pos rfl, remove6_v (by omega) hp1, Option.bind_some]
    dsimp only
    rw [c2, Option.bind_some]
  · subst e e1 e2
    obtain ⟨b, rfl⟩ : ∃ b, a = b + 1 := ⟨a - 1, by omega⟩
    have hru := row_upd (p := p) hr hq1 e4
    have hdo : fX5_doHint 3 (nI l) (nI p) (nI n) mt (nI (b + 1)) row = some (nI (b + 1), upd row p (nI q)) := by
      unfold fX5_doHint
      rw [if_neg (by decide), if_neg (by decide), if_neg (by decide), remove_v (by omega) hp1, Option.bind_some, mateOf_v hl1 hn, Option.bind_some]
      dsimp only
      rw [e3, insert_v (by omega) (by omega), Option.bind_some, ins_rem]
    obtain ⟨v, c1, kb', km', tm', tp', ag', c2⟩ := fin _ _ hru hdo (by decide)
    refine ⟨v, hd + 1, b + 1, _, hru, c1, kb', km', tm', 3, nI l, nI p, tp', ag', ?_⟩
    unfold fX6_follow
    rw [l1, Option.bind_some]
    dsimp only
    rw [if_neg (by decide), if_neg (by decide), if_pos rfl, ck_n (by omega) (by omega), ck_n (by omega) (by omega), nI_clamp (by omega), nI_clamp (by omega), e3, c2, Option.bind_some]
  · subst e e1 e2
    have hroom := row_room hn hr hl1 e3
    have hri := row_ins hr (by omega) hp1 hl1 e3
    have hdo : fX5_doHint 1 (nI l) (nI p) (nI n) mt (nI a) row = some (nI (a + 1), ins row p a (nI l)) := by
      unfold fX5_doHint
      rw [if_neg (by decide), if_pos rfl, insert_v (by omega) hp1, Option.bind_some]
    obtain ⟨v, c1, kb', km', tm', tp', ag', c2⟩ := fin _ _ hri hdo (by decide)
    refine ⟨v, hd + 1, a + 1, _, hri, c1, kb', km', tm', 1, nI l, nI p, tp', ag', ?_⟩
    unfold fX6_follow
    rw [l1, Option.bind_some]
    dsimp only
    rw [if_neg (by decide), if_neg (by decide), if_neg (by decide), if_pos rfl, insert6_v (by omega) hp1, Option.bind_some]
    dsimp only
    rw [c2, Option.bind_some]
  · subst e e1 e2
    obtain ⟨b, rfl⟩ : ∃ b, a = b + 1 := ⟨a - 1, by omega⟩
    obtain ⟨l, hl1, el⟩ := hr.2.1 p hp1
    have hno := rem_no hr hp1
    have hpa := pl_at hr hp1
    rw [el] at hno hpa
    have hri := row_ins (p := to) (row_rem (p := p) hr) (by omega) (by omega) hl1 hno
    have hdo : fX5_doHint 2 (row p) (nI to) (nI n) mt (nI (b + 1)) row = some (nI (b + 1), ins (rem row p b) to b (nI l)) := by
      unfold fX5_doHint
      rw [if_neg (by decide), if_neg (by decide), if_pos rfl, el, placeOf_v ha, Option.bind_some, hpa, remove_v (by omega) hp1, Option.bind_some]
      dsimp only
      rw [insert_v (by omega) (by omega), Option.bind_some]
    obtain ⟨v, c1, kb', km', tm', tp', ag', c2⟩ := fin _ _ hri hdo (by decide)
    refine ⟨v, hd + 1, b + 1, _, hri, c1, kb', km', tm', 2, row p, nI to, tp', ag', ?_⟩
    unfold fX6_follow
    rw [l1, Option.bind_some]
    dsimp only
    rw [if_neg (by decide), if_neg (by decide), if_neg (by decide), if_neg (by decide), el, e_placeOf, placeOf_v ha, Option.bind_some, hpa, remove6_v (by omega) hp1, Option.bind_some]
    dsimp only
    rw [insert6_v (by omega) (by omega), Option.bind_some]
    dsimp only
    rw [c2, Option.bind_some]
end FOLLOW
