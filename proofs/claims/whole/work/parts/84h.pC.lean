/-! runs -/
def vEq (cv fv : Nat → Int32) : Prop := ∀ v, v < 6 → cv v = fv v
def pEq (m : Nat) (cp fp : Nat → Int32) : Prop := ∀ j, j < m → cp j = fp j
theorem tell1 {n l : Nat} {kd vs ws rl mt : Nat → Int32} (hl : l < n) (hn : n ≤ 16) : fX1_tell (nI l) 1 (nI n) kd vs ws rl mt = some (vs l) := by
  unfold fX1_tell
  rw [has_lt hl hn, Option.bind_some, if_neg (by decide), if_neg (by decide), if_pos rfl, ck_n (by omega) (by omega), nI_clamp (by omega)]
theorem tell2 {n l : Nat} {kd vs ws rl mt : Nat → Int32} (hl : l < n) (hn : n ≤ 16) : fX1_tell (nI l) 2 (nI n) kd vs ws rl mt = some (ws l) := by
  unfold fX1_tell
  rw [has_lt hl hn, Option.bind_some, if_neg (by decide), if_neg (by decide), if_neg (by decide), if_pos rfl, ck_n (by omega) (by omega), nI_clamp (by omega)]
theorem isVar_lt {x : Nat} (hx : x < 6) : fX1_isVariable (nI x) = some 1 := by
  unfold fX1_isVariable
  rw [if_neg (nI_pos (by omega)), if_neg (show ¬ (6 : Int32) ≤ nI x from nI_ge (b := 6) hx (by omega))]
theorem valueOf_v {x : Nat} {cv : Nat → Int32} (hx : x < 6) : fX2_valueOf (nI x) cv = some (cv x) := by
  unfold fX2_valueOf
  rw [isVar_lt hx, Option.bind_some, if_neg (by decide), ck_n (by omega) (by omega), nI_clamp (by omega)]
theorem become_v {x : Nat} {cv : Nat → Int32} {y : Int32} (hx : x < 6) : fX2_become (nI x) y cv = some (upd cv x y) := by
  unfold fX2_become
  rw [isVar_lt hx, Option.bind_some, if_neg (by decide), ck_n (by omega) (by omega), nI_clamp (by omega)]
theorem vEq_upd {cv fv : Nat → Int32} (h : vEq cv fv) (x : Nat) {y z : Int32} (e : y = z) : vEq (upd cv x y) (upd fv x z) := by
  intro v hv
  by_cases q : v = x
  · subst q; rw [upd_s, upd_s, e]
  · rw [upd_n q, upd_n q]; exact h v hv
theorem step_v {n l m : Nat} {kd vs ws rl mt cv cp fv fp : Nat → Int32} (hl : l < n) (hn : n ≤ 16) (hok : okLine (kd l) (vs l) (ws l)) (hm : m < 16) (hv : vEq cv fv) (hp : pEq m cp fp) :
    ∃ m' cv' cp' fv' fp', fX2_step (nI l) (nI n) kd vs ws rl mt (nI m) cv cp = some (nI m', cv', cp') ∧ fX6_does (nI l) (nI m) kd vs ws fv fp = some (nI m', fv', fp') ∧ m' ≤ m + 1 ∧ vEq cv' fv' ∧ pEq m' cp' fp' := by
  obtain ⟨j, hj, e, h1, h2⟩ := hok
  have k16 : (16 : Nat) < 2 ^ 31 := by omega
  have k6 : (6 : Nat) < 2 ^ 31 := by omega
  have hl16 : l < 16 := by omega
  have cl : (nI l).toNatClampNeg = l := nI_clamp (by omega)
  unfold fX2_step fX6_does
  simp only [tell1 hl hn, tell2 hl hn, kindOf_v hl hn, Option.bind_some, ck_n hl16 k16, cl, e]
  rcases (show j = 0 ∨ j = 1 ∨ j = 2 ∨ j = 3 ∨ j = 4 ∨ j = 5 ∨ j = 6 by omega) with rfl | rfl | rfl | rfl | rfl | rfl | rfl
  · obtain ⟨x, hx, ex⟩ := h1 (by omega)
    rw [ex, if_pos (by decide), if_pos (by decide), become_v hx, ck_n hx k6, nI_clamp (by omega)]
    exact ⟨m, _, _, _, _, rfl, rfl, by omega, vEq_upd hv x rfl, hp⟩
  · obtain ⟨x, hx, ex⟩ := h1 (by omega)
    obtain ⟨y, hy, ey⟩ := h2 (by omega) (by omega) (by omega)
    rw [ex, ey, if_neg (by decide), if_pos (by decide), if_neg (by decide), if_pos (by decide), valueOf_v hy, Option.bind_some, become_v hx, ck_n hx k6, ck_n hy k6, nI_clamp (show x < 2 ^ 31 by omega), nI_clamp (show y < 2 ^ 31 by omega)]
    exact ⟨m, _, _, _, _, rfl, rfl, by omega, vEq_upd hv x (hv y hy), hp⟩
  · obtain ⟨x, hx, ex⟩ := h1 (by omega)
    obtain ⟨y, hy, ey⟩ := h2 (by omega) (by omega) (by omega)
    rw [ex, ey, if_neg (by decide), if_neg (by decide), if_pos (by decide), if_neg (by decide), if_neg (by decide), if_pos (by decide), valueOf_v hx, Option.bind_some, valueOf_v hy, Option.bind_some, become_v hx, ck_n hx k6, ck_n hy k6, ck_n hx k6, nI_clamp (show x < 2 ^ 31 by omega), nI_clamp (show y < 2 ^ 31 by omega)]
    exact ⟨m, _, _, _, _, rfl, rfl, by omega, vEq_upd hv x (by rw [hv x hx, hv y hy]), hp⟩
  · obtain ⟨x, hx, ex⟩ := h1 (by omega)
    obtain ⟨y, hy, ey⟩ := h2 (by omega) (by omega) (by omega)
    rw [ex, ey, if_neg (by decide), if_neg (by decide), if_neg (by decide), if_pos (by decide), if_neg (by decide), if_neg (by decide), if_neg (by decide), if_pos (by decide), valueOf_v hx, Option.bind_some, valueOf_v hy, Option.bind_some, become_v hx, ck_n hx k6, ck_n hy k6, ck_n hx k6, nI_clamp (show x < 2 ^ 31 by omega), nI_clamp (show y < 2 ^ 31 by omega)]
    exact ⟨m, _, _, _, _, rfl, rfl, by omega, vEq_upd hv x (by rw [hv x hx, hv y hy]), hp⟩
  · obtain ⟨x, hx, ex⟩ := h1 (by omega)
    unfold fX2_print
    rw [ex, if_neg (by decide), if_neg (by decide), if_neg (by decide), if_neg (by decide), if_pos (by decide), if_neg (by decide), if_neg (by decide), if_neg (by decide), if_neg (by decide), if_pos (by decide), valueOf_v hx, Option.bind_some, if_neg (show ¬ (16 : Int32) ≤ nI m from nI_ge (b := 16) hm (by omega)), ck_n hm k16, ck_n hx k6, ck_n hm k16, nI_clamp (show x < 2 ^ 31 by omega), nI_clamp (show m < 2 ^ 31 by omega), nI_1]
    refine ⟨m + 1, _, _, _, _, rfl, rfl, by omega, hv, fun q hq => ?_⟩
    show upd cp m (cv x) q = upd fp m (fv x) q
    by_cases e2 : q = m
    · subst e2; rw [upd_s, upd_s, hv x hx]
    · rw [upd_n e2, upd_n e2]; exact hp q (by omega)
  · rw [if_neg (by decide), if_neg (by decide), if_neg (by decide), if_neg (by decide), if_neg (by decide), if_pos (by decide), if_neg (by decide), if_neg (by decide), if_neg (by decide), if_neg (by decide), if_neg (by decide), if_pos (by decide)]
    exact ⟨m, _, _, _, _, rfl, rfl, by omega, hv, hp⟩
  · obtain ⟨x, hx, ex⟩ := h1 (by omega)
    obtain ⟨y, hy, ey⟩ := h2 (by omega) (by omega) (by omega)
    rw [ex, ey, if_neg (by decide), if_neg (by decide), if_neg (by decide), if_neg (by decide), if_neg (by decide), if_neg (by decide), if_pos (by decide), if_neg (by decide), if_neg (by decide), if_neg (by decide), if_neg (by decide), if_neg (by decide), if_neg (by decide), if_pos (by decide)]
    simp only [valueOf_v hx, valueOf_v hy, Option.bind_some, become_v hx, ck_n hx k6, ck_n hy k6, nI_clamp (show x < 2 ^ 31 by omega), nI_clamp (show y < 2 ^ 31 by omega), hv y hy]
    by_cases hz : fv y ≤ 0
    · rw [if_pos hz, if_pos hz]
      exact ⟨m, _, _, _, _, rfl, rfl, by omega, vEq_upd hv x (hv x hx), hp⟩
    · rw [if_neg hz, if_neg hz]
      exact ⟨m, _, _, _, _, rfl, rfl, by omega, vEq_upd hv x (by rw [hv x hx]), hp⟩
section RUNS
variable {n k a : Nat} {kd vs ws rl mt num row : Nat → Int32} {B : Nat → Nat → Int32} {iof : Nat → Int32}
/-- the lines that a run goes through: fl = 0 the answer's, else the model's -/
def rowOK (n e : Nat) (r : Nat → Int32) (kd vs ws : Nat → Int32) : Prop := ∀ i, i < e → ∃ l, l < n ∧ r i = nI l ∧ okLine (kd l) (vs l) (ws l)
theorem run_loop {fl : Int32} (hn : n ≤ 16) (hk : k ≤ 12) (ha : a ≤ 16) (hrow : rowOK n a row kd vs ws) (hnum : rowOK n k num kd vs ws) {e : Nat} (he : e = if fl = 0 then a else k) :
    ∀ (f g d i m : Nat) (cv cp fv fp : Nat → Int32), i + d = e → d < f → d < g → m ≤ i → vEq cv fv → pEq m cp fp →
    ∃ m' cv' cp' fv' fp', fX5_perform_h36 f fl (nI e) (nI i) B (nI n) kd vs ws rl mt (nI k) num (nI a) row (nI m) cv cp = some (nI m', cv', cp') ∧ fX6_runOf_h38 g fl (nI i) (nI k) (nI a) (nI m) kd vs ws num iof row fv fp = some (nI m', fv', fp') ∧ m' ≤ 16 ∧ vEq cv' fv' ∧ pEq m' cp' fp' := by
  have he16 : e ≤ 16 := by rw [he]; split <;> omega
  intro f
  induction f with
  | zero => intro g d i m cv cp fv fp _ h; omega
  | succ f ih =>
    intro g d i m cv cp fv fp hi hd hg hm hv hp
    cases g with
    | zero => omega
    | succ g =>
    have eb : uX6_runOf_h38 (fX6_runOf_h38 g) fl (nI i) (nI k) (nI a) (nI m) kd vs ws num iof row fv fp = fX6_runOf_b54 (fX6_runOf_h38 g) fl (nI i) (nI i) (nI e) (nI k) (nI a) (nI m) kd vs ws num iof row fv fp := by
      unfold uX6_runOf_h38
      rw [he]
      by_cases h0 : fl = 0
      · rw [if_pos h0, if_pos h0]
      · rw [if_neg h0, if_neg h0]
    show ∃ m' cv' cp' fv' fp', uX5_perform_h36 (fX5_perform_h36 f) fl (nI e) (nI i) B (nI n) kd vs ws rl mt (nI k) num (nI a) row (nI m) cv cp = some (nI m', cv', cp') ∧ uX6_runOf_h38 (fX6_runOf_h38 g) fl (nI i) (nI k) (nI a) (nI m) kd vs ws num iof row fv fp = some (nI m', fv', fp') ∧ m' ≤ 16 ∧ vEq cv' fv' ∧ pEq m' cp' fp'
    rw [eb]
    unfold uX5_perform_h36 fX6_runOf_b54
    cases d with
    | zero =>
      rw [if_pos (nI_le (show e ≤ i by omega) (by omega)), if_pos (nI_le (show e ≤ i by omega) (by omega))]
      exact ⟨m, cv, cp, fv, fp, rfl, rfl, by omega, hv, hp⟩
    | succ d =>
      rw [if_neg (nI_ge (show i < e by omega) (by omega)), if_neg (nI_ge (show i < e by omega) (by omega))]
      by_cases h0 : fl = 0
      · rw [if_pos h0] at he
        obtain ⟨l, hl, el, hok⟩ := hrow i (by omega)
        obtain ⟨m', cv', cp', fv', fp', s1, s2, s3, s4, s5⟩ := step_v (rl := rl) (mt := mt) hl hn hok (show m < 16 by omega) hv hp
        rw [if_pos h0, if_pos h0, lineAt_v (show i < a by omega) ha, Option.bind_some, el, s1, Option.bind_some, ck_n (show i < 16 by omega) (by omega), nI_clamp (show i < 2 ^ 31 by omega), el, s2, Option.bind_some, nI_1]
        exact ih g d (i + 1) m' cv' cp' fv' fp' (by omega) (by omega) (by omega) (by omega) s4 s5
      · rw [if_neg h0] at he
        obtain ⟨l, hl, el, hok⟩ := hnum i (by omega)
        obtain ⟨m', cv', cp', fv', fp', s1, s2, s3, s4, s5⟩ := step_v (rl := rl) (mt := mt) hl hn hok (show m < 16 by omega) hv hp
        rw [if_neg h0, if_neg h0, lineOf_v hk (show i < k by omega), Option.bind_some, el, s1, Option.bind_some, ck_n (show i < 12 by omega) (by omega), nI_clamp (show i < 2 ^ 31 by omega), el, s2, Option.bind_some, nI_1]
        exact ih g d (i + 1) m' cv' cp' fv' fp' (by omega) (by omega) (by omega) (by omega) s4 s5
def InOK (q : Nat) (B : Nat → Nat → Int32) (iof : Nat → Int32) : Prop := ∀ i v, i < q → v < 6 → B i v = iof (6 * i + v)
theorem copy_loop {fl m0 : Int32} {fp : Nat → Int32} {j : Nat} (hj : j < 8) : ∀ (g d v : Nat) (fv : Nat → Int32), v + d = 6 → d < g → (∀ u, u < v → fv u = iof (6 * j + u)) → ∃ fv', (∀ u, u < 6 → fv' u = iof (6 * j + u)) ∧ fX6_runOf_h2 g (nI j) fl (nI v) (nI k) (nI a) m0 kd vs ws num iof row fv fp = fX6_runOf_h38 FU fl 0 (nI k) (nI a) 0 kd vs ws num iof row fv' fp := by
  intro g
  induction g with
  | zero => intro d v fv _ h; omega
  | succ g ih =>
    intro d v fv hv hd hf
    cases d with
    | zero =>
      refine ⟨fv, fun u hu => hf u (by omega), ?_⟩
      show uX6_runOf_h2 (fX6_runOf_h2 g) (nI j) fl (nI v) (nI k) (nI a) m0 kd vs ws num iof row fv fp = _
      unfold uX6_runOf_h2
      rw [if_pos (show (6 : Int32) ≤ nI v from nI_le (a := 6) (by omega) (by omega))]
    | succ d =>
      obtain ⟨fv', g1, g2⟩ := ih d (v + 1) (upd fv v (iof (6 * j + v))) (by omega) (by omega) (fun u hu => by
        by_cases e : u = v
        · subst e; rw [upd_s]
        · rw [upd_n e]; exact hf u (by omega))
      refine ⟨fv', g1, ?_⟩
      rw [← g2]
      show uX6_runOf_h2 (fX6_runOf_h2 g) (nI j) fl (nI v) (nI k) (nI a) m0 kd vs ws num iof row fv fp = _
      unfold uX6_runOf_h2
      rw [if_neg (show ¬ (6 : Int32) ≤ nI v from nI_ge (b := 6) (by omega) (by omega)), show (6 : Int32) * nI j = nI (6 * j) from pk_mul 6 j, nI_add, ck_n (by omega) (by omega), ck_n (by omega) (by omega), nI_clamp (by omega), nI_clamp (by omega), nI_1]
/-- a run by an input, on both sides -/
theorem perf_v {q j : Nat} {fl : Int32} {m0 m1 : Int32} {cv cp fv fp : Nat → Int32} (hn : n ≤ 16) (hk : k ≤ 12) (ha : a ≤ 16) (hrow : rowOK n a row kd vs ws) (hnum : rowOK n k num kd vs ws) (hin : InOK q B iof) (hq : q ≤ 8) (hj : j < q) :
    ∃ m' cv' cp' fv' fp', fX5_perform (nI j) fl B (nI n) kd vs ws rl mt (nI k) num (nI a) row m0 cv cp = some (nI m', cv', cp') ∧ fX6_runOf (nI j) fl (nI k) (nI a) m1 kd vs ws num iof row fv fp = some (nI m', fv', fp') ∧ m' ≤ 16 ∧ vEq cv' fv' ∧ pEq m' cp' fp' := by
  obtain ⟨fv1, g1, g2⟩ := copy_loop (kd := kd) (vs := vs) (ws := ws) (num := num) (row := row) (k := k) (a := a) (iof := iof) (fl := fl) (m0 := m1) (fp := fp) (j := j) (by omega) FU 6 0 fv (by omega) (by rw [FU_eq]; omega) (fun u hu => by omega)
  have hv : vEq (va_cpy (B j) cv 0 0 6) fv1 := fun v hv => by
    rw [sb_cpy0 hv, g1 v hv]
    exact hin j v hj hv
  obtain ⟨m', cv', cp', fv', fp', s1, s2, s3, s4, s5⟩ := run_loop (rl := rl) (mt := mt) (B := B) (iof := iof) (fl := fl) hn hk ha hrow hnum rfl FU FU (if fl = 0 then a else k) 0 0 (va_cpy (B j) cv 0 0 6) cp fv1 fp (by omega) (by rw [FU_eq]; split <;> omega) (by rw [FU_eq]; split <;> omega) (by omega) hv (fun q hq => by omega)
  refine ⟨m', cv', cp', fv', fp', ?_, ?_, s3, s4, s5⟩
  · unfold fX5_perform fX2_start fX5_perform_b10
    rw [ck_n (show j < 8 by omega) (by omega), nI_clamp (by omega), Option.bind_some]
    rw [← s1]
    by_cases h0 : fl = 0
    · rw [if_pos h0, if_pos h0]; rfl
    · rw [if_neg h0, if_neg h0]; rfl
  · unfold fX6_runOf
    rw [show (0 : Int32) = nI 0 from rfl, g2]
    exact s2
end RUNS
