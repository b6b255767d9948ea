/-! alike -/
section ALIKE
variable {n k a q : Nat} {kd vs ws rl mt num row : Nat → Int32} {B : Nat → Nat → Int32} {iof : Nat → Int32}
theorem al233 {x2 pm : Int32} {fv wv wp due : Nat → Int32} : ∀ (g d j : Nat) (fp : Nat → Int32), j + d = 16 → d < g → (∀ u, u < j → fp u = wp u) → ∃ fp', (∀ u, u < 16 → fp' u = wp u) ∧ fX6_alike_h233 g x2 (nI j) (nI k) (nI q) (nI a) pm kd vs ws num iof row fv fp wv wp due = some (x2, pm, fv, fp', wv, wp, due) := by
  intro g
  induction g with
  | zero => intro d j fp _ h; omega
  | succ g ih =>
    intro d j fp hj hd hf
    cases d with
    | zero =>
      refine ⟨fp, fun u hu => hf u (by omega), ?_⟩
      show uX6_alike_h233 (fX6_alike_h233 g) x2 (nI j) (nI k) (nI q) (nI a) pm kd vs ws num iof row fv fp wv wp due = _
      unfold uX6_alike_h233
      rw [if_pos (show (16 : Int32) ≤ nI j from nI_le (a := 16) (by omega) (by omega))]
    | succ d =>
      obtain ⟨fp', g1, g2⟩ := ih d (j + 1) (upd fp j (wp j)) (by omega) (by omega) (fun u hu => by
        by_cases e : u = j
        · subst e; rw [upd_s]
        · rw [upd_n e]; exact hf u (by omega))
      refine ⟨fp', g1, ?_⟩
      rw [← g2]
      show uX6_alike_h233 (fX6_alike_h233 g) x2 (nI j) (nI k) (nI q) (nI a) pm kd vs ws num iof row fv fp wv wp due = _
      unfold uX6_alike_h233
      rw [if_neg (show ¬ (16 : Int32) ≤ nI j from nI_ge (b := 16) (by omega) (by omega)), ck_n (by omega) (by omega), ck_n (by omega) (by omega), nI_clamp (by omega), nI_1]
theorem al207 {x2 pm : Int32} {fp wv wp due : Nat → Int32} : ∀ (g d j : Nat) (fv : Nat → Int32), j + d = 6 → d < g → (∀ u, u < j → fv u = wv u) → ∃ fv' fp', (∀ u, u < 6 → fv' u = wv u) ∧ (∀ u, u < 16 → fp' u = wp u) ∧ fX6_alike_h207 g x2 (nI j) (nI k) (nI q) (nI a) pm kd vs ws num iof row fv fp wv wp due = some (x2, pm, fv', fp', wv, wp, due) := by
  intro g
  induction g with
  | zero => intro d j fv _ h; omega
  | succ g ih =>
    intro d j fv hj hd hf
    cases d with
    | zero =>
      obtain ⟨fp', g1, g2⟩ := al233 (k := k) (a := a) (q := q) (kd := kd) (vs := vs) (ws := ws) (num := num) (row := row) (iof := iof) (x2 := x2) (pm := pm) (fv := fv) (wv := wv) (wp := wp) (due := due) FU 16 0 fp (by omega) (by rw [FU_eq]; omega) (fun u hu => by omega)
      refine ⟨fv, fp', fun u hu => hf u (by omega), g1, ?_⟩
      rw [← g2]
      show uX6_alike_h207 (fX6_alike_h207 g) x2 (nI j) (nI k) (nI q) (nI a) pm kd vs ws num iof row fv fp wv wp due = _
      unfold uX6_alike_h207
      rw [if_pos (show (6 : Int32) ≤ nI j from nI_le (a := 6) (by omega) (by omega))]
      rfl
    | succ d =>
      obtain ⟨fv', fp', g1, g2, g3⟩ := ih d (j + 1) (upd fv j (wv j)) (by omega) (by omega) (fun u hu => by
        by_cases e : u = j
        · subst e; rw [upd_s]
        · rw [upd_n e]; exact hf u (by omega))
      refine ⟨fv', fp', g1, g2, ?_⟩
      rw [← g3]
      show uX6_alike_h207 (fX6_alike_h207 g) x2 (nI j) (nI k) (nI q) (nI a) pm kd vs ws num iof row fv fp wv wp due = _
      unfold uX6_alike_h207
      rw [if_neg (show ¬ (6 : Int32) ≤ nI j from nI_ge (b := 6) (by omega) (by omega)), ck_n (by omega) (by omega), ck_n (by omega) (by omega), nI_clamp (by omega), nI_1]
theorem al33 {pm : Int32} {fv fp wv due : Nat → Int32} : ∀ (g d j : Nat) (wp : Nat → Int32), j + d = 16 → d < g → (∀ u, u < j → wp u = fp u) → ∃ wp', (∀ u, u < 16 → wp' u = fp u) ∧ fX6_alike_h33 g pm (nI j) (nI k) (nI q) (nI a) pm kd vs ws num iof row fv fp wv wp due = fX6_alike_h61 FU pm (-1) 0 (nI k) (nI q) (nI a) pm kd vs ws num iof row fv fp wv wp' due := by
  intro g
  induction g with
  | zero => intro d j wp _ h; omega
  | succ g ih =>
    intro d j wp hj hd hf
    cases d with
    | zero =>
      refine ⟨wp, fun u hu => hf u (by omega), ?_⟩
      show uX6_alike_h33 (fX6_alike_h33 g) pm (nI j) (nI k) (nI q) (nI a) pm kd vs ws num iof row fv fp wv wp due = _
      unfold uX6_alike_h33
      rw [if_pos (show (16 : Int32) ≤ nI j from nI_le (a := 16) (by omega) (by omega))]
    | succ d =>
      obtain ⟨wp', g1, g2⟩ := ih d (j + 1) (upd wp j (fp j)) (by omega) (by omega) (fun u hu => by
        by_cases e : u = j
        · subst e; rw [upd_s]
        · rw [upd_n e]; exact hf u (by omega))
      refine ⟨wp', g1, ?_⟩
      rw [← g2]
      show uX6_alike_h33 (fX6_alike_h33 g) pm (nI j) (nI k) (nI q) (nI a) pm kd vs ws num iof row fv fp wv wp due = _
      unfold uX6_alike_h33
      rw [if_neg (show ¬ (16 : Int32) ≤ nI j from nI_ge (b := 16) (by omega) (by omega)), ck_n (by omega) (by omega), ck_n (by omega) (by omega), nI_clamp (by omega), nI_1]
theorem al7 {pm : Int32} {fv fp wp due : Nat → Int32} : ∀ (g d j : Nat) (wv : Nat → Int32), j + d = 6 → d < g → (∀ u, u < j → wv u = fv u) → ∃ wv' wp', (∀ u, u < 6 → wv' u = fv u) ∧ (∀ u, u < 16 → wp' u = fp u) ∧ fX6_alike_h7 g pm (nI j) (nI k) (nI q) (nI a) pm kd vs ws num iof row fv fp wv wp due = fX6_alike_h61 FU pm (-1) 0 (nI k) (nI q) (nI a) pm kd vs ws num iof row fv fp wv' wp' due := by
  intro g
  induction g with
  | zero => intro d j wv _ h; omega
  | succ g ih =>
    intro d j wv hj hd hf
    cases d with
    | zero =>
      obtain ⟨wp', g1, g2⟩ := al33 (k := k) (a := a) (q := q) (kd := kd) (vs := vs) (ws := ws) (num := num) (row := row) (iof := iof) (pm := pm) (fv := fv) (fp := fp) (wv := wv) (due := due) FU 16 0 wp (by omega) (by rw [FU_eq]; omega) (fun u hu => by omega)
      refine ⟨wv, wp', fun u hu => hf u (by omega), g1, ?_⟩
      rw [← g2]
      show uX6_alike_h7 (fX6_alike_h7 g) pm (nI j) (nI k) (nI q) (nI a) pm kd vs ws num iof row fv fp wv wp due = _
      unfold uX6_alike_h7
      rw [if_pos (show (6 : Int32) ≤ nI j from nI_le (a := 6) (by omega) (by omega))]
      rfl
    | succ d =>
      obtain ⟨wv', wp', g1, g2, g3⟩ := ih d (j + 1) (upd wv j (fv j)) (by omega) (by omega) (fun u hu => by
        by_cases e : u = j
        · subst e; rw [upd_s]
        · rw [upd_n e]; exact hf u (by omega))
      refine ⟨wv', wp', g1, g2, ?_⟩
      rw [← g3]
      show uX6_alike_h7 (fX6_alike_h7 g) pm (nI j) (nI k) (nI q) (nI a) pm kd vs ws num iof row fv fp wv wp due = _
      unfold uX6_alike_h7
      rw [if_neg (show ¬ (6 : Int32) ≤ nI j from nI_ge (b := 6) (by omega) (by omega)), ck_n (by omega) (by omega), ck_n (by omega) (by omega), nI_clamp (by omega), nI_1]
/-- the prints of two runs are the same, from place j on -/
def same (c d : Nat → Int32) : Nat → Nat → Bool
  | _, 0 => true
  | j, e + 1 => decide (c j = d j) && same c d (j + 1) e
theorem same_congr {c d c' d' : Nat → Int32} : ∀ (e j : Nat), (∀ u, j ≤ u → u < j + e → c u = c' u ∧ d u = d' u) → same c d j e = same c' d' j e
  | 0, _, _ => rfl
  | e + 1, j, h => by
    show (decide (c j = d j) && same c d (j + 1) e) = (decide (c' j = d' j) && same c' d' (j + 1) e)
    rw [(h j (by omega) (by omega)).1, (h j (by omega) (by omega)).2, same_congr e (j + 1) (fun u h1 h2 => h u (by omega) (by omega))]
theorem same_comm (c d : Nat → Int32) : ∀ (e j : Nat), same c d j e = same d c j e
  | 0, _ => rfl
  | e + 1, j => by
    show (decide (c j = d j) && same c d (j + 1) e) = (decide (d j = c j) && same d c (j + 1) e)
    rw [same_comm c d e (j + 1)]
    congr 1
    exact decide_eq_decide.mpr ⟨Eq.symm, Eq.symm⟩
theorem printsAs_loop {cp dp : Nat → Int32} {m : Nat} (hm : m ≤ 16) : ∀ (f e j : Nat), j + e = m → e < f → fX2_printsAs_h15 f (nI j) (nI m) cp (nI m) dp = some (if same cp dp j e = true then 1 else 0) := by
  intro f
  induction f with
  | zero => intro e j _ h; omega
  | succ f ih =>
    intro e j hj he
    show uX2_printsAs_h15 (fX2_printsAs_h15 f) (nI j) (nI m) cp (nI m) dp = _
    unfold uX2_printsAs_h15
    cases e with
    | zero => rw [if_pos (nI_le (by omega) (by omega))]; rfl
    | succ e =>
      rw [if_neg (nI_ge (by omega) (by omega)), ck_n (by omega) (by omega), ck_n (by omega) (by omega), nI_clamp (by omega), nI_1, ih e (j + 1) (by omega) (by omega)]
      show _ = some (if (decide (cp j = dp j) && same cp dp (j + 1) e) = true then 1 else 0)
      by_cases h : cp j = dp j
      · rw [if_pos h, decide_eq_true h, Bool.true_and]
      · rw [if_neg h, decide_eq_false h, Bool.false_and]; rfl
theorem printsAs_v {cp dp : Nat → Int32} {m m' : Nat} (hm : m ≤ 16) (hm' : m' ≤ 16) : fX2_printsAs (nI m) cp (nI m') dp = some (if (m = m' ∧ same cp dp 0 m = true) then 1 else 0) := by
  unfold fX2_printsAs
  by_cases h : m = m'
  · subst h
    rw [if_pos rfl, show (0 : Int32) = nI 0 from rfl, printsAs_loop hm FU m 0 (by omega) (by rw [FU_eq]; omega)]
    by_cases h2 : same cp dp 0 m = true
    · rw [if_pos h2, if_pos ⟨rfl, h2⟩]
    · rw [if_neg h2, if_neg (fun q => h2 q.2)]; rfl
  · rw [if_neg (fun q => h ((nI_eq (by omega) (by omega)).mp q)), if_neg (fun q => h q.1)]
theorem al141 (k61 : Int32 → Int32 → Int32 → Int32 → Int32 → Int32 → Int32 → (Nat → Int32) → (Nat → Int32) → (Nat → Int32) → (Nat → Int32) → (Nat → Int32) → (Nat → Int32) → (Nat → Int32) → (Nat → Int32) → (Nat → Int32) → (Nat → Int32) → (Nat → Int32) → Option (Int32 × Int32 × (Nat → Int32) × (Nat → Int32) × (Nat → Int32) × (Nat → Int32) × (Nat → Int32))) {x1 x3 pm : Int32} {fv fp wv wp due : Nat → Int32} {m : Nat} (hm : m ≤ 16) :
    ∀ (g e j : Nat) (b : Bool), j + e = m → e < g → fX6_alike_h141 k61 g x1 x3 (nI m) (if b = true then 1 else 0) (nI j) (nI k) (nI q) (nI a) pm kd vs ws num iof row fv fp wv wp due = k61 x1 (if (b && same due fp j e) = true then -1 else x3) (x3 + 1) (nI k) (nI q) (nI a) pm kd vs ws num iof row fv fp wv wp due := by
  intro g
  induction g with
  | zero => intro e j b _ h; omega
  | succ g ih =>
    intro e j b hj he
    show uX6_alike_h141 k61 (fX6_alike_h141 k61 g) x1 x3 (nI m) _ (nI j) (nI k) (nI q) (nI a) pm kd vs ws num iof row fv fp wv wp due = _
    unfold uX6_alike_h141
    cases e with
    | zero =>
      rw [if_pos (nI_le (by omega) (by omega))]
      cases b
      · rw [if_pos (by decide)]; rfl
      · rw [if_neg (by decide)]; rfl
    | succ e =>
      rw [if_neg (nI_ge (by omega) (by omega))]
      cases b
      · rw [if_neg (show ¬ (false = true) by decide), if_pos rfl, if_pos rfl]; rfl
      · rw [if_pos rfl, if_neg (by decide), ck_n (by omega) (by omega), ck_n (by omega) (by omega), nI_clamp (by omega), nI_1]
        show _ = k61 x1 (if (true && (decide (due j = fp j) && same due fp (j + 1) e)) = true then -1 else x3) (x3 + 1) (nI k) (nI q) (nI a) pm kd vs ws num iof row fv fp wv wp due
        by_cases h : due j = fp j
        · have := ih e (j + 1) true (by omega) (by omega)
          rw [if_pos rfl] at this
          rw [if_pos h, this, decide_eq_true h]
          simp only [Bool.true_and]
        · have := ih e (j + 1) false (by omega) (by omega)
          rw [if_neg (by decide)] at this
          rw [if_neg h, this, decide_eq_false h]
          rfl
theorem al89 (k61 : Int32 → Int32 → Int32 → Int32 → Int32 → Int32 → Int32 → (Nat → Int32) → (Nat → Int32) → (Nat → Int32) → (Nat → Int32) → (Nat → Int32) → (Nat → Int32) → (Nat → Int32) → (Nat → Int32) → (Nat → Int32) → (Nat → Int32) → (Nat → Int32) → Option (Int32 × Int32 × (Nat → Int32) × (Nat → Int32) × (Nat → Int32) × (Nat → Int32) × (Nat → Int32))) {x1 x3 pm : Int32} {fv fp wv wp : Nat → Int32} {m : Nat} (hm : m ≤ 16) {m2 : Nat} {fv2 fp2 : Nat → Int32} (hm2 : m2 ≤ 16) (hrun : fX6_runOf x3 0 (nI k) (nI a) pm kd vs ws num iof row fv fp = some (nI m2, fv2, fp2)) :
    ∀ (g e j : Nat) (due : Nat → Int32), j + e = m → e < g → (∀ u, u < j → due u = fp u) → ∃ due', (∀ u, u < m → due' u = fp u) ∧ fX6_alike_h89 k61 g x1 x3 (nI m) (nI j) (nI k) (nI q) (nI a) pm kd vs ws num iof row fv fp wv wp due = k61 x1 (if (m = m2 ∧ same due' fp2 0 m = true) then -1 else x3) (x3 + 1) (nI k) (nI q) (nI a) (nI m2) kd vs ws num iof row fv2 fp2 wv wp due' := by
  intro g
  induction g with
  | zero => intro e j due _ h; omega
  | succ g ih =>
    intro e j due hj he hf
    cases e with
    | zero =>
      refine ⟨due, fun u hu => hf u (by omega), ?_⟩
      show uX6_alike_h89 k61 (fX6_alike_h89 k61 g) x1 x3 (nI m) (nI j) (nI k) (nI q) (nI a) pm kd vs ws num iof row fv fp wv wp due = _
      unfold uX6_alike_h89
      rw [if_pos (nI_le (by omega) (by omega)), hrun, Option.bind_some]
      show (if nI m = nI m2 then fX6_alike_h141 k61 FU x1 x3 (nI m) 1 0 (nI k) (nI q) (nI a) (nI m2) kd vs ws num iof row fv2 fp2 wv wp due else fX6_alike_h141 k61 FU x1 x3 (nI m) 0 0 (nI k) (nI q) (nI a) (nI m2) kd vs ws num iof row fv2 fp2 wv wp due) = _
      have h1 := al141 (k := k) (a := a) (q := q) (kd := kd) (vs := vs) (ws := ws) (num := num) (row := row) (iof := iof) k61 (x1 := x1) (x3 := x3) (pm := nI m2) (fv := fv2) (fp := fp2) (wv := wv) (wp := wp) (due := due) hm FU m 0 true (by omega) (by rw [FU_eq]; omega)
      have h2 := al141 (k := k) (a := a) (q := q) (kd := kd) (vs := vs) (ws := ws) (num := num) (row := row) (iof := iof) k61 (x1 := x1) (x3 := x3) (pm := nI m2) (fv := fv2) (fp := fp2) (wv := wv) (wp := wp) (due := due) hm FU m 0 false (by omega) (by rw [FU_eq]; omega)
      rw [if_pos rfl, Bool.true_and] at h1
      rw [if_neg (by decide), Bool.false_and, if_neg (by decide)] at h2
      by_cases e2 : m = m2
      · rw [if_pos (by rw [e2])]
        refine h1.trans ?_
        by_cases e3 : same due fp2 0 m = true
        · rw [if_pos e3, if_pos ⟨e2, e3⟩]
        · rw [if_neg e3, if_neg (fun z => e3 z.2)]
      · rw [if_neg (fun z => e2 ((nI_eq (by omega) (by omega)).mp z)), if_neg (fun z => e2 z.1)]
        exact h2
    | succ e =>
      obtain ⟨due', g1, g2⟩ := ih e (j + 1) (upd due j (fp j)) (by omega) (by omega) (fun u hu => by
        by_cases e : u = j
        · subst e; rw [upd_s]
        · rw [upd_n e]; exact hf u (by omega))
      refine ⟨due', g1, ?_⟩
      rw [← g2]
      show uX6_alike_h89 k61 (fX6_alike_h89 k61 g) x1 x3 (nI m) (nI j) (nI k) (nI q) (nI a) pm kd vs ws num iof row fv fp wv wp due = _
      unfold uX6_alike_h89
      rw [if_neg (nI_ge (by omega) (by omega)), ck_n (by omega) (by omega), ck_n (by omega) (by omega), nI_clamp (by omega), nI_1]
theorem alike_loop (hn : n ≤ 16) (hk : k ≤ 12) (ha : a ≤ 16) (hrow : rowOK n a row kd vs ws) (hnum : rowOK n k num kd vs ws) (hin : InOK q B iof) (hq : q ≤ 8) {pm : Int32} {wv wp : Nat → Int32} :
    ∀ (f g d i : Nat) (m2 m3 m1 : Int32) (cv2 cp2 cv3 cp3 fv fp due : Nat → Int32), i + d = q → d < f → d + 1 < g → ∃ v m2' cv2' cp2' m3' cv3' cp3' fv' fp' due', fX5_alike_h2 f (nI i) (nI q) B (nI n) kd vs ws rl mt (nI k) num (nI a) row m2 cv2 cp2 m3 cv3 cp3 = some (v, m2', cv2', cp2', m3', cv3', cp3') ∧ fX6_alike_h61 g pm (-1) (nI i) (nI k) (nI q) (nI a) m1 kd vs ws num iof row fv fp wv wp due = some (v, pm, fv', fp', wv, wp, due') ∧ (∀ u, u < 6 → fv' u = wv u) ∧ (∀ u, u < 16 → fp' u = wp u) := by
  intro f
  induction f with
  | zero => intro g d i m2 m3 m1 cv2 cp2 cv3 cp3 fv fp due _ h; omega
  | succ f ih =>
    intro g d i m2 m3 m1 cv2 cp2 cv3 cp3 fv fp due hi hd hg
    cases g with
    | zero => omega
    | succ g =>
    show ∃ v m2' cv2' cp2' m3' cv3' cp3' fv' fp' due', uX5_alike_h2 (fX5_alike_h2 f) (nI i) (nI q) B (nI n) kd vs ws rl mt (nI k) num (nI a) row m2 cv2 cp2 m3 cv3 cp3 = some (v, m2', cv2', cp2', m3', cv3', cp3') ∧ uX6_alike_h61 (fX6_alike_h61 g) pm (-1) (nI i) (nI k) (nI q) (nI a) m1 kd vs ws num iof row fv fp wv wp due = some (v, pm, fv', fp', wv, wp, due') ∧ (∀ u, u < 6 → fv' u = wv u) ∧ (∀ u, u < 16 → fp' u = wp u)
    unfold uX5_alike_h2 uX6_alike_h61
    have fin := fun (x2 : Int32) (fv fp due : Nat → Int32) => al207 (k := k) (a := a) (q := q) (kd := kd) (vs := vs) (ws := ws) (num := num) (row := row) (iof := iof) (x2 := x2) (pm := pm) (fp := fp) (wv := wv) (wp := wp) (due := due) FU 6 0 fv (by omega) (by rw [FU_eq]; omega) (fun u hu => by omega)
    cases d with
    | zero =>
      rw [if_pos (nI_le (show q ≤ i by omega) (by omega)), if_pos (nI_le (show q ≤ i by omega) (by omega))]
      obtain ⟨fv', fp', z1, z2, z3⟩ := fin (-1) fv fp due
      exact ⟨_, _, _, _, _, _, _, fv', fp', due, rfl, z3, z1, z2⟩
    | succ d =>
      obtain ⟨b3, cv3', cp3', fv3, fp3, r1, r2, r3, r4, r5⟩ := perf_v (rl := rl) (mt := mt) (fl := 1) (m0 := m3) (m1 := m1) (cv := cv3) (cp := cp3) (fv := fv) (fp := fp) hn hk ha hrow hnum hin hq (show i < q by omega)
      obtain ⟨b2, cv2', cp2', fv2, fp2, s1, s2, s3, s4, s5⟩ := perf_v (rl := rl) (mt := mt) (fl := 0) (m0 := m2) (m1 := nI b3) (cv := cv2) (cp := cp2) (fv := fv3) (fp := fp3) hn hk ha hrow hnum hin hq (show i < q by omega)
      obtain ⟨due', g1, g2⟩ := al89 (q := q) (fX6_alike_h61 g) (x1 := pm) (x3 := nI i) (wv := wv) (wp := wp) r3 s3 s2 FU b3 0 due (by omega) (by rw [FU_eq]; omega) (fun u hu => by omega)
      rw [if_neg (nI_ge (show i < q by omega) (by omega)), if_neg (nI_ge (show i < q by omega) (by omega)), s1, Option.bind_some, r1, Option.bind_some, if_pos rfl, r2, Option.bind_some]
      rw [show (0 : Int32) = nI 0 from rfl] at *
      rw [g2, printsAs_v s3 r3, Option.bind_some, nI_1]
      have key : (b2 = b3 ∧ same cp2' cp3' 0 b2 = true) ↔ (b3 = b2 ∧ same due' fp2 0 b3 = true) := by
        constructor
        · rintro ⟨e1, e2⟩
          subst e1
          refine ⟨rfl, ?_⟩
          rw [same_comm, ← same_congr b2 0 (fun u h1 h2 => ⟨s5 u (by omega), (r5 u (by omega)).trans (g1 u (by omega)).symm⟩)]
          exact e2
        · rintro ⟨e1, e2⟩
          subst e1
          refine ⟨rfl, ?_⟩
          rw [same_comm, ← same_congr b3 0 (fun u h1 h2 => ⟨s5 u (by omega), (r5 u (by omega)).trans (g1 u (by omega)).symm⟩)] at e2
          exact e2
      by_cases hs : (b2 = b3 ∧ same cp2' cp3' 0 b2 = true)
      · rw [if_pos hs, if_neg (by decide), if_pos (key.mp hs)]
        exact ih g d (i + 1) _ _ _ _ _ _ _ _ _ _ (by omega) (by omega) (by omega)
      · rw [if_neg hs, if_pos (by decide), if_neg (fun z => hs (key.mpr z))]
        cases g with
        | zero => omega
        | succ g =>
          obtain ⟨fv', fp', z1, z2, z3⟩ := fin (nI i) fv2 fp2 due'
          refine ⟨_, _, _, _, _, _, _, fv', fp', due', rfl, ?_, z1, z2⟩
          show uX6_alike_h61 (fX6_alike_h61 g) pm (nI i) (nI (i + 1)) (nI k) (nI q) (nI a) (nI b2) kd vs ws num iof row fv2 fp2 wv wp due' = _
          unfold uX6_alike_h61
          rw [if_neg (ne_m1 (show i < 2 ^ 31 by omega))]
          split
          · exact z3
          · exact z3
end ALIKE
