/-! digest() -/
def mx (g : Nat → Int64) : Int64 → Nat → Nat → Int64
  | h, _, 0 => h
  | h, i, d + 1 => mx g (31 * h + g i) (i + 1) d
theorem mx_add (g : Nat → Int64) (e : Nat) : ∀ (d i : Nat) (h : Int64), mx g h i (d + e) = mx g (mx g h i d) (i + d) e
  | 0, i, h => by rw [Nat.zero_add]; rfl
  | d + 1, i, h => by
    rw [show d + 1 + e = (d + e) + 1 by omega]
    show mx g (31 * h + g i) (i + 1) (d + e) = mx g (mx g (31 * h + g i) (i + 1) d) (i + (d + 1)) e
    rw [mx_add g e d (i + 1), show i + 1 + d = i + (d + 1) by omega]
theorem mx_shift {g g' : Nat → Int64} : ∀ (d i j : Nat) (h : Int64), (∀ v, v < d → g (i + v) = g' (j + v)) → mx g h i d = mx g' h j d
  | 0, _, _, _, _ => rfl
  | d + 1, i, j, h, e => by
    show mx g (31 * h + g i) (i + 1) d = mx g' (31 * h + g' j) (j + 1) d
    have e0 := e 0 (by omega)
    rw [Nat.add_zero, Nat.add_zero] at e0
    rw [e0]
    refine mx_shift d (i + 1) (j + 1) _ (fun v hv => ?_)
    rw [show i + 1 + v = i + (v + 1) by omega, show j + 1 + v = j + (v + 1) by omega]
    exact e (v + 1) (by omega)
def mxl (kd vs ws rl mt : Nat → Int32) : Int64 → Nat → Nat → Int64
  | h, _, 0 => h
  | h, i, d + 1 => mxl kd vs ws rl mt (mx (fun c => (tv kd vs ws rl mt c i).toInt64) h 0 5) (i + 1) d
def mxi (B : Nat → Nat → Int32) : Int64 → Nat → Nat → Int64
  | h, _, 0 => h
  | h, i, d + 1 => mxi B (mx (fun v => (B i v).toInt64) h 0 6) (i + 1) d
theorem mxi_mx {B : Nat → Nat → Int32} {iof : Nat → Int32} {q : Nat} (hin : InOK q B iof) : ∀ (d i : Nat) (h : Int64), i + d = q → mxi B h i d = mx (fun j => (iof j).toInt64) h (6 * i) (6 * d)
  | 0, _, _, _ => rfl
  | d + 1, i, h, hi => by
    show mxi B (mx (fun v => (B i v).toInt64) h 0 6) (i + 1) d = _
    rw [mxi_mx hin d (i + 1) _ (by omega), show 6 * (d + 1) = 6 + 6 * d by omega, mx_add, show 6 * (i + 1) = 6 * i + 6 by omega]
    congr 1
    refine mx_shift 6 0 (6 * i) h (fun v hv => ?_)
    show (B i (0 + v)).toInt64 = (iof (6 * i + v)).toInt64
    rw [Nat.zero_add, hin i v (by omega) hv]
section DIGEST
variable {n a q : Nat} {kd vs ws rl mt row iof : Nat → Int32} {B : Nat → Nat → Int32} {hd : Int32}
theorem dig20 (hn : n ≤ 16) {l : Nat} (hl : l < n) (k6 : Int64 → Int32 → Int32 → Int32 → (Nat → Nat → Int32) → Int32 → (Nat → Int32) → (Nat → Int32) → (Nat → Int32) → (Nat → Int32) → (Nat → Int32) → Int32 → (Nat → Int32) → Option Int64) :
    ∀ (f d c : Nat) (h : Int64), c + d = 5 → d < f → fX5_digest_h20 k6 f h (nI l) (nI c) (nI q) hd B (nI n) kd vs ws rl mt (nI a) row = k6 (mx (fun c => (tv kd vs ws rl mt c l).toInt64) h c d) (nI (l + 1)) (nI q) hd B (nI n) kd vs ws rl mt (nI a) row := by
  intro f
  induction f with
  | zero => intro d c h _ h2; omega
  | succ f ih =>
    intro d c h hc hd'
    show uX5_digest_h20 k6 (fX5_digest_h20 k6 f) h (nI l) (nI c) (nI q) hd B (nI n) kd vs ws rl mt (nI a) row = _
    unfold uX5_digest_h20
    cases d with
    | zero => exact if_p (nI_le (a := 5) (b := c) (by omega) (by omega)) (by rw [nI_1]; rfl)
    | succ d =>
      refine if_n (nI_ge (a := c) (b := 5) (by omega) (by omega)) (bind_v (tell_v hn hl (by omega)).1 ?_)
      rw [nI_1]
      exact ih d (c + 1) _ (by omega) (by omega)
theorem dig19 (hn : n ≤ 16) {l : Nat} (hl : l < n) (k9 : Int32 → Int32 → Int32 → Int32 → Int32 → Int64 → (Nat → Int32) → (Nat → Int32) → (Nat → Int32) → (Nat → Int32) → (Nat → Int32) → (Nat → Int32) → (Nat → Int32) → Option (Int64 × Int64)) :
    ∀ (f d c : Nat) (h : Int64), c + d = 5 → d < f → fX6_digest_h19 k9 f (nI l) (nI c) (nI n) (nI q) (nI a) hd h kd vs ws rl mt iof row = k9 (nI (l + 1)) (nI n) (nI q) (nI a) hd (mx (fun c => (tv kd vs ws rl mt c l).toInt64) h c d) kd vs ws rl mt iof row := by
  intro f
  induction f with
  | zero => intro d c h _ h2; omega
  | succ f ih =>
    intro d c h hc hd'
    show uX6_digest_h19 k9 (fX6_digest_h19 k9 f) (nI l) (nI c) (nI n) (nI q) (nI a) hd h kd vs ws rl mt iof row = _
    unfold uX6_digest_h19
    cases d with
    | zero => exact if_p (nI_le (a := 5) (b := c) (by omega) (by omega)) (by rw [nI_1]; rfl)
    | succ d =>
      refine if_n (nI_ge (a := c) (b := 5) (by omega) (by omega)) (bind_v (tell_v hn hl (by omega)).2 (bind_v rfl ?_))
      rw [nI_1]
      exact ih d (c + 1) _ (by omega) (by omega)
theorem dig6 (hn : n ≤ 16) : ∀ (f d i : Nat) (h : Int64), i + d = n → d < f → fX5_digest_h6 f h (nI i) (nI q) hd B (nI n) kd vs ws rl mt (nI a) row = fX5_digest_h58 FU (mxl kd vs ws rl mt h i d) 0 (nI q) hd B (nI n) kd vs ws rl mt (nI a) row := by
  intro f
  induction f with
  | zero => intro d c h _ h2; omega
  | succ f ih =>
    intro d i h hi hd'
    show uX5_digest_h6 (fX5_digest_h6 f) h (nI i) (nI q) hd B (nI n) kd vs ws rl mt (nI a) row = _
    unfold uX5_digest_h6
    cases d with
    | zero => exact if_p (nI_le (by omega) (by omega)) rfl
    | succ d =>
      refine if_n (nI_ge (by omega) (by omega)) ((dig20 hn (by omega) (fX5_digest_h6 f) FU 5 0 h (by omega) (by rw [FU_eq]; omega)).trans ?_)
      exact ih d (i + 1) _ (by omega) (by omega)
theorem dig9 (hn : n ≤ 16) : ∀ (f d i : Nat) (h : Int64), i + d = n → d < f → fX6_digest_h9 f (nI i) (nI n) (nI q) (nI a) hd h kd vs ws rl mt iof row = fX6_digest_h49 FU 0 (nI n) (nI q) (nI a) hd (mxl kd vs ws rl mt h i d) kd vs ws rl mt iof row := by
  intro f
  induction f with
  | zero => intro d c h _ h2; omega
  | succ f ih =>
    intro d i h hi hd'
    show uX6_digest_h9 (fX6_digest_h9 f) (nI i) (nI n) (nI q) (nI a) hd h kd vs ws rl mt iof row = _
    unfold uX6_digest_h9
    cases d with
    | zero => exact if_p (nI_le (by omega) (by omega)) rfl
    | succ d =>
      refine if_n (nI_ge (by omega) (by omega)) ((dig19 hn (by omega) (fX6_digest_h9 f) FU 5 0 h (by omega) (by rw [FU_eq]; omega)).trans ?_)
      exact ih d (i + 1) _ (by omega) (by omega)
theorem dig69 {i : Nat} (hi8 : i < 8) (k58 : Int64 → Int32 → Int32 → Int32 → (Nat → Nat → Int32) → Int32 → (Nat → Int32) → (Nat → Int32) → (Nat → Int32) → (Nat → Int32) → (Nat → Int32) → Int32 → (Nat → Int32) → Option Int64) :
    ∀ (f d c : Nat) (h : Int64), c + d = 6 → d < f → fX5_digest_h69 k58 f h (nI i) (nI c) (nI q) hd B (nI n) kd vs ws rl mt (nI a) row = k58 (mx (fun v => (B i v).toInt64) h c d) (nI (i + 1)) (nI q) hd B (nI n) kd vs ws rl mt (nI a) row := by
  intro f
  induction f with
  | zero => intro d c h _ h2; omega
  | succ f ih =>
    intro d c h hc hd'
    show uX5_digest_h69 k58 (fX5_digest_h69 k58 f) h (nI i) (nI c) (nI q) hd B (nI n) kd vs ws rl mt (nI a) row = _
    unfold uX5_digest_h69
    cases d with
    | zero => exact if_p (nI_le (a := 6) (b := c) (by omega) (by omega)) (by rw [nI_1]; rfl)
    | succ d =>
      refine if_n (nI_ge (a := c) (b := 6) (by omega) (by omega)) (ck_m hi8 (by omega) (ck_m (by omega) (by omega) ?_))
      rw [nI_1, nI_clamp (show i < 2 ^ 31 by omega), nI_clamp (show c < 2 ^ 31 by omega)]
      exact ih d (c + 1) _ (by omega) (by omega)
theorem dig58 (hq : q ≤ 8) : ∀ (f d i : Nat) (h : Int64), i + d = q → d < f → fX5_digest_h58 f h (nI i) (nI q) hd B (nI n) kd vs ws rl mt (nI a) row = fX5_digest_h107 FU (mxi B h i d) 0 (nI q) hd B (nI n) kd vs ws rl mt (nI a) row := by
  intro f
  induction f with
  | zero => intro d c h _ h2; omega
  | succ f ih =>
    intro d i h hi hd'
    show uX5_digest_h58 (fX5_digest_h58 f) h (nI i) (nI q) hd B (nI n) kd vs ws rl mt (nI a) row = _
    unfold uX5_digest_h58
    cases d with
    | zero => exact if_p (nI_le (by omega) (by omega)) rfl
    | succ d =>
      refine if_n (nI_ge (by omega) (by omega)) ((dig69 (by omega) (fX5_digest_h58 f) FU 6 0 h (by omega) (by rw [FU_eq]; omega)).trans ?_)
      exact ih d (i + 1) _ (by omega) (by omega)
theorem dig49 (hq : q ≤ 8) : ∀ (f d i : Nat) (h : Int64), i + d = 6 * q → d < f → fX6_digest_h49 f (nI i) (nI n) (nI q) (nI a) hd h kd vs ws rl mt iof row = fX6_digest_h79 FU 0 (nI n) (nI q) (nI a) hd (mx (fun j => (iof j).toInt64) h i d) kd vs ws rl mt iof row := by
  have h6 : (6 : Int32) * nI q = nI (6 * q) := (Int32.ofNat_mul 6 q).symm
  intro f
  induction f with
  | zero => intro d c h _ h2; omega
  | succ f ih =>
    intro d i h hi hd'
    show uX6_digest_h49 (fX6_digest_h49 f) (nI i) (nI n) (nI q) (nI a) hd h kd vs ws rl mt iof row = _
    unfold uX6_digest_h49
    rw [h6]
    cases d with
    | zero => exact if_p (nI_le (by omega) (by omega)) rfl
    | succ d =>
      refine if_n (nI_ge (by omega) (by omega)) (ck_m (by omega) (by omega) (bind_v rfl ?_))
      rw [nI_1, nI_clamp (by omega)]
      exact ih d (i + 1) _ (by omega) (by omega)
theorem dig107 (ha : a ≤ 16) : ∀ (f d i : Nat) (h : Int64), i + d = a → d < f → fX5_digest_h107 f h (nI i) (nI q) hd B (nI n) kd vs ws rl mt (nI a) row = some (31 * mx (fun j => (row j).toInt64) h i d + hd.toInt64) := by
  intro f
  induction f with
  | zero => intro d c h _ h2; omega
  | succ f ih =>
    intro d i h hi hd'
    show uX5_digest_h107 (fX5_digest_h107 f) h (nI i) (nI q) hd B (nI n) kd vs ws rl mt (nI a) row = _
    unfold uX5_digest_h107
    cases d with
    | zero => exact if_p (nI_le (by omega) (by omega)) rfl
    | succ d =>
      refine if_n (nI_ge (by omega) (by omega)) (bind_v (lineAt_v (by omega) ha) ?_)
      rw [nI_1]
      exact ih d (i + 1) _ (by omega) (by omega)
theorem dig79 (ha : a ≤ 16) : ∀ (f d i : Nat) (h : Int64), i + d = a → d < f → fX6_digest_h79 f (nI i) (nI n) (nI q) (nI a) hd h kd vs ws rl mt iof row = some (31 * mx (fun j => (row j).toInt64) h i d + hd.toInt64, 31 * mx (fun j => (row j).toInt64) h i d + hd.toInt64) := by
  intro f
  induction f with
  | zero => intro d c h _ h2; omega
  | succ f ih =>
    intro d i h hi hd'
    show uX6_digest_h79 (fX6_digest_h79 f) (nI i) (nI n) (nI q) (nI a) hd h kd vs ws rl mt iof row = _
    unfold uX6_digest_h79
    cases d with
    | zero => exact if_p (nI_le (by omega) (by omega)) rfl
    | succ d =>
      refine if_n (nI_ge (by omega) (by omega)) (ck_m (by omega) (by omega) (bind_v rfl ?_))
      rw [nI_1, nI_clamp (by omega)]
      exact ih d (i + 1) _ (by omega) (by omega)
theorem digest_c (hn : n ≤ 16) (ha : a ≤ 16) (hq : q ≤ 8) (hin : InOK q B iof) (fh : Int64) : ∃ v, fX5_digest (nI q) hd B (nI n) kd vs ws rl mt (nI a) row = some v ∧ fX6_digest (nI n) (nI q) (nI a) hd fh kd vs ws rl mt iof row = some (v, v) := by
  refine ⟨31 * mx (fun j => (row j).toInt64) (mxi B (mxl kd vs ws rl mt 101 0 n) 0 q) 0 a + hd.toInt64, ?_, ?_⟩
  · unfold fX5_digest
    refine (dig6 hn FU n 0 101 (by omega) (by rw [FU_eq]; omega)).trans ?_
    refine (dig58 hq FU q 0 _ (by omega) (by rw [FU_eq]; omega)).trans ?_
    exact dig107 ha FU a 0 _ (by omega) (by rw [FU_eq]; omega)
  · unfold fX6_digest
    refine (dig9 hn FU n 0 101 (by omega) (by rw [FU_eq]; omega)).trans ?_
    refine (dig49 hq FU (6 * q) 0 _ (by omega) (by rw [FU_eq]; omega)).trans ?_
    rw [mxi_mx hin q 0 _ (by omega)]
    exact dig79 ha FU a 0 _ (by omega) (by rw [FU_eq]; omega)
end DIGEST
