/-! mark(), kept(), hint() -/
theorem ite_v {α : Type} {c : Prop} [Decidable c] {x y v : α} (h1 : c → x = v) (h2 : ¬ c → y = v) : (if c then x else y) = v := by
  by_cases h : c
  · rw [if_pos h]; exact h1 h
  · rw [if_neg h]; exact h2 h
theorem bind_v {α β : Type} {o : Option α} {f : α → Option β} {a : α} {v : Option β} (h : o = some a) (h2 : f a = v) : o.bind f = v := by rw [h]; exact h2
section MARKS
variable {n k a : Nat} {rl mt mr fr num row ah be : Nat → Int32}
theorem mark_c (hE : EnvOK n k rl mt mr fr num ah be) (hr : RowOK n a row) (kp0 ch0 hc0 hl0 hp0 : Int32) (R0 CL0 : Nat → Int32) (kb km tm : Int32) (tp ag : Nat → Int32) : ∃ v kp ch hc hl hp R CL kb' km' tm' tp' ag', fX5_mark kp0 ch0 hc0 hl0 hp0 R0 CL0 (nI n) rl mt (nI k) num mr ah (nI a) row = some (v, kp, ch, hc, hl, hp, R, CL) ∧ fX6_mark (nI k) (nI a) kb km tm rl mt fr be row tp ag = some (v, kb', km', tm', tp', ag') := by
  obtain ⟨kp, mk, hc, hl, hp, R, CL, s1, s2, s3, s4⟩ := study_v hE hr kp0 ch0 hc0 hl0 hp0 R0 CL0
  obtain ⟨kn, tn, tp', ag', _, q5⟩ := s3 kb km tm tp ag
  refine ⟨mk, kp, mk, hc, hl, hp, R, CL, kp, kn, tn, tp', ag', ?_, ?_⟩
  · unfold fX5_mark
    exact bind_v s1 rfl
  · unfold fX6_mark
    exact bind_v q5 rfl
theorem kept_c (x : Int32) (hE : EnvOK n k rl mt mr fr num ah be) (hr : RowOK n a row) (kp0 ch0 hc0 hl0 hp0 : Int32) (R0 CL0 : Nat → Int32) (kb km tm : Int32) (tp ag : Nat → Int32) : ∃ v kp ch hc hl hp R CL kb' km' tm' tp' ag', fX5_kept x kp0 ch0 hc0 hl0 hp0 R0 CL0 (nI n) rl mt (nI k) num mr ah (nI a) row = some (v, kp, ch, hc, hl, hp, R, CL) ∧ fX6_kept x (nI a) kb km tm rl mt fr be row tp ag = some (v, kb', km', tm', tp', ag') := by
  have ha := hr.1
  unfold fX5_kept fX6_kept
  rw [in6_eq x (by omega)]
  rcases hasPlace_v x (show a < 2 ^ 31 by omega) with ⟨j, hj, rfl, e⟩ | ⟨_, e⟩
  · rw [e, Option.bind_some, Option.bind_some, if_neg (by decide), if_neg (by decide)]
    obtain ⟨kp, mk, hc, hl, hp, R, CL, s1, s2, s3, s4⟩ := study_v hE hr kp0 ch0 hc0 hl0 hp0 R0 CL0
    obtain ⟨kn, tn, tp', ag', q4, _⟩ := s3 kb km tm tp ag
    refine ⟨if bt kp j = true then 1 else 0, kp, mk, hc, hl, hp, R, CL, kp, kn, tn, tp', ag', ?_, ?_⟩
    · refine bind_v s1 ?_
      dsimp only
      refine bind_v (isKept_v ha hj) ?_
      by_cases b : bt kp j = true
      · rw [if_pos b, if_neg (by decide)]
      · rw [if_neg b, if_pos rfl]
    · refine bind_v q4 ?_
      dsimp only
      rw [shr_bit kp (by omega)]
  · rw [e, Option.bind_some, Option.bind_some, if_pos rfl, if_pos rfl]
    exact ⟨-102, kp0, ch0, hc0, hl0, hp0, R0, CL0, kb, km, tm, tp, ag, rfl, rfl⟩
theorem in6_2 (x : Int32) : (x < 0 ∧ fX6_in x 0 2 = some 0) ∨ (¬ x < 0 ∧ x < 3 ∧ fX6_in x 0 2 = some 1) ∨ (¬ x < 0 ∧ ¬ x < 3 ∧ fX6_in x 0 2 = some 0) := by
  unfold fX6_in
  by_cases h1 : x < 0
  · exact Or.inl ⟨h1, if_pos h1⟩
  · rw [if_neg h1]
    by_cases h2 : x < 3
    · refine Or.inr (Or.inl ⟨h1, h2, ?_⟩)
      rw [if_neg]
      rw [i32lt] at h2 ⊢
      rw [show (3 : Int32).toInt = 3 from rfl] at h2
      rw [show (2 : Int32).toInt = 2 from rfl]
      omega
    · refine Or.inr (Or.inr ⟨h1, h2, ?_⟩)
      rw [if_pos]
      rw [i32lt] at h2 ⊢
      rw [show (3 : Int32).toInt = 3 from rfl] at h2
      rw [show (2 : Int32).toInt = 2 from rfl]
      omega
theorem hint_c (x : Int32) (hE : EnvOK n k rl mt mr fr num ah be) (hr : RowOK n a row) (kp0 ch0 hc0 hl0 hp0 : Int32) (R0 CL0 : Nat → Int32) (kb km tm c w h : Int32) (tp ag : Nat → Int32) : ∃ v kp ch hc hl hp R CL kb' km' tm' c' w' h' tp' ag', fX5_hint x kp0 ch0 hc0 hl0 hp0 R0 CL0 (nI n) rl mt (nI k) num mr ah (nI a) row = some (v, kp, ch, hc, hl, hp, R, CL) ∧ fX6_hint x (nI k) (nI a) kb km tm c w h rl mt num fr be row tp ag = some (v, kb', km', tm', c', w', h', tp', ag') := by
  obtain ⟨kp, mk, hc, hl, hp, R, CL, s1, s2, s3, s4⟩ := study_v hE hr kp0 ch0 hc0 hl0 hp0 R0 CL0
  obtain ⟨kn, tn, tp1, ag1, l1⟩ := s4 kb km tm c w h tp ag
  unfold fX5_hint fX6_hint
  rcases in6_2 x with ⟨h1, e⟩ | ⟨h1, h2, e⟩ | ⟨h1, h2, e⟩
  · rw [if_pos h1, e, Option.bind_some, if_pos rfl]
    exact ⟨-102, kp0, ch0, hc0, hl0, hp0, R0, CL0, kb, km, tm, c, w, h, tp, ag, rfl, rfl⟩
  · rw [if_neg h1, if_pos h2, e, Option.bind_some, if_neg (by decide), s1, l1, Option.bind_some, Option.bind_some]
    dsimp only
    by_cases e0 : x = 0
    · rw [if_pos e0, if_pos e0]
      exact ⟨_, _, _, _, _, _, _, _, _, _, _, _, _, _, _, _, rfl, rfl⟩
    · rw [if_neg e0, if_neg e0]
      by_cases e1 : x = 1
      · rw [if_pos e1, if_pos e1]
        exact ⟨_, _, _, _, _, _, _, _, _, _, _, _, _, _, _, _, rfl, rfl⟩
      · rw [if_neg e1, if_neg e1]
        exact ⟨_, _, _, _, _, _, _, _, _, _, _, _, _, _, _, _, rfl, rfl⟩
  · rw [if_neg h1, if_neg h2, e, Option.bind_some, if_pos rfl]
    exact ⟨-102, kp0, ch0, hc0, hl0, hp0, R0, CL0, kb, km, tm, c, w, h, tp, ag, rfl, rfl⟩
end MARKS
