/-! the calls that change nothing: told, count, needs -/
theorem if_p {α : Type} {c : Prop} [Decidable c] {x y v : α} (h : c) (h1 : x = v) : (if c then x else y) = v := by rw [if_pos h]; exact h1
theorem if_n {α : Type} {c : Prop} [Decidable c] {x y v : α} (h : ¬ c) (h1 : y = v) : (if c then x else y) = v := by rw [if_neg h]; exact h1
theorem ck_v {α : Type} {b : Bool} {x v : Option α} (h : b = true) (h1 : x = v) : ck b x = v := by rw [ck_t h]; exact h1
theorem ck_m {α : Type} {x v : Option α} {i n : Nat} (h : i < n) (hn : n < 2 ^ 31) (h1 : x = v) : ck (inB (nI i) n) x = v := by rw [ck_n h hn]; exact h1
def tv (kd vs ws rl mt : Nat → Int32) : Nat → Nat → Int32
  | 0 => kd
  | 1 => vs
  | 2 => ws
  | 3 => rl
  | _ => mt
theorem hp_ge {y : Int32} {a : Nat} (ha : a < 2 ^ 31) (h : ∀ j, j < a → ¬ y = nI j) (h0 : ¬ y < 0) : nI a ≤ y := by
  by_cases h2 : nI a ≤ y
  · exact h2
  · exfalso
    rcases hasPlace_v y ha with ⟨j, h3, h4, _⟩ | ⟨_, e⟩
    · exact h j h3 h4
    · unfold fX0_hasPlace at e
      rw [if_neg h0, if_neg h2] at e
      exact absurd e (by decide)
section TOLD
variable {n k a : Nat} {kd vs ws rl mt mr fr num row ah be : Nat → Int32}
theorem tell_v {l c : Nat} (hn : n ≤ 16) (hl : l < n) (hc : c < 5) : fX1_tell (nI l) (nI c) (nI n) kd vs ws rl mt = some (tv kd vs ws rl mt c l) ∧ fX6_told (nI l) (nI c) (nI n) kd vs ws rl mt = some (tv kd vs ws rl mt c l) := by
  have cl : (nI l).toNatClampNeg = l := nI_clamp (by omega)
  have e6 : fX6_isLine (nI l) (nI n) = some 1 := by rw [isLine_eq _ (by omega)]; exact has_lt hl hn
  have fin : ∀ g : Nat → Int32, ck (inB (nI l) 16) (some (g (nI l).toNatClampNeg)) = some (g l) := fun g => ck_m (by omega) (by omega) (by rw [cl])
  refine ⟨?_, ?_⟩
  · unfold fX1_tell
    refine bind_v (has_lt hl hn) (if_n (by decide) ?_)
    match c, hc with
    | 0, _ => exact if_p (by decide) (fin kd)
    | 1, _ => exact if_n (by decide) (if_p (by decide) (fin vs))
    | 2, _ => exact if_n (by decide) (if_n (by decide) (if_p (by decide) (fin ws)))
    | 3, _ => exact if_n (by decide) (if_n (by decide) (if_n (by decide) (if_p (by decide) (fin rl))))
    | 4, _ => exact if_n (by decide) (if_n (by decide) (if_n (by decide) (if_n (by decide) (fin mt))))
  · unfold fX6_told
    refine bind_v e6 (if_n (by decide) ?_)
    match c, hc with
    | 0, _ => exact if_p (by decide) (fin kd)
    | 1, _ => exact if_n (by decide) (if_p (by decide) (fin vs))
    | 2, _ => exact if_n (by decide) (if_n (by decide) (if_p (by decide) (fin ws)))
    | 3, _ => exact if_n (by decide) (if_n (by decide) (if_n (by decide) (if_p (by decide) (fin rl))))
    | 4, _ => exact if_n (by decide) (if_n (by decide) (if_n (by decide) (if_n (by decide) (if_p (by decide) (fin mt)))))
theorem told_c (x y : Int32) (hn : n ≤ 16) : ∃ v, fX5_told x y (nI n) kd vs ws rl mt = some v ∧ fX6_told x y (nI n) kd vs ws rl mt = some v := by
  rcases has_v x (show n < 2 ^ 31 by omega) with ⟨j, hj, rfl, e⟩ | ⟨_, e⟩
  · by_cases hy : ∃ c, c < 5 ∧ y = nI c
    · obtain ⟨c, hc, rfl⟩ := hy
      obtain ⟨t1, t2⟩ := tell_v (kd := kd) (vs := vs) (ws := ws) (rl := rl) (mt := mt) hn hj hc
      refine ⟨_, ?_, t2⟩
      unfold fX5_told
      exact bind_v e (if_n (by decide) (if_n (nI_pos (by omega)) (if_n (nI_ge (a := c) (b := 5) hc (by omega)) (bind_v t1 rfl))))
    · have hy' : ∀ c, c < 5 → ¬ y = nI c := fun c h1 h2 => hy ⟨c, h1, h2⟩
      refine ⟨-102, ?_, ?_⟩
      · unfold fX5_told
        exact bind_v e (if_n (by decide) (ite_v (fun _ => rfl) (fun h1 => if_p (hp_ge (a := 5) (by omega) hy' h1) rfl)))
      · unfold fX6_told
        rw [isLine_eq _ (by omega)]
        exact bind_v e (if_n (by decide) (if_n (hy' 0 (by omega)) (if_n (hy' 1 (by omega)) (if_n (hy' 2 (by omega)) (if_n (hy' 3 (by omega)) (if_n (hy' 4 (by omega)) rfl))))))
  · refine ⟨-101, ?_, ?_⟩
    · unfold fX5_told
      exact bind_v e (if_p rfl rfl)
    · unfold fX6_told
      rw [isLine_eq _ (by omega)]
      exact bind_v e (if_p rfl rfl)
theorem manyOf_loop {c : Int32} (hn : n ≤ 16) : ∀ (f d i : Nat) (x : Int32), i + d = n → d < f → fX1_manyOf_h4 f c x (nI i) (nI n) rl = some (x + nI (cn (fun l => decide (rl l = c)) i d)) := by
  intro f
  induction f with
  | zero => intro d i x _ h; omega
  | succ f ih =>
    intro d i x hi hd
    show uX1_manyOf_h4 (fX1_manyOf_h4 f) c x (nI i) (nI n) rl = _
    unfold uX1_manyOf_h4
    cases d with
    | zero => exact if_p (nI_le (by omega) (by omega)) (congrArg some (nI_a0 x).symm)
    | succ d =>
      refine if_n (nI_ge (by omega) (by omega)) (ck_m (by omega) (by omega) ?_)
      show _ = some (x + nI ((if decide (rl i = c) = true then 1 else 0) + cn (fun l => decide (rl l = c)) (i + 1) d))
      rw [nI_clamp (by omega)]
      by_cases h : rl i = c
      · rw [if_pos h, nI_1, ih d (i + 1) (x + 1) (by omega) (by omega), decide_eq_true h, if_pos rfl, i32_as, one_add]
      · rw [if_neg h, nI_1, nI_a0, ih d (i + 1) x (by omega) (by omega), decide_eq_false h, if_neg (by decide), Nat.zero_add]
theorem count_loop {x1 c mo ip hi : Int32} (hx : x1 - 1 = c) (hn : n ≤ 16) : ∀ (f d i : Nat) (x : Int32), i + d = n → d < f → fX6_count_h103 f x1 x (nI i) (nI n) mo ip hi rl be = some (x + nI (cn (fun l => decide (rl l = c)) i d)) := by
  intro f
  induction f with
  | zero => intro d i x _ h; omega
  | succ f ih =>
    intro d i x hi hd
    show uX6_count_h103 (fX6_count_h103 f) x1 x (nI i) (nI n) mo ip _ rl be = _
    unfold uX6_count_h103
    cases d with
    | zero => exact if_p (nI_le (by omega) (by omega)) (congrArg some (nI_a0 x).symm)
    | succ d =>
      refine if_n (nI_ge (by omega) (by omega)) (ck_m (by omega) (by omega) ?_)
      show _ = some (x + nI ((if decide (rl i = c) = true then 1 else 0) + cn (fun l => decide (rl l = c)) (i + 1) d))
      rw [nI_clamp (by omega), hx]
      by_cases h : rl i = c
      · rw [if_pos h, nI_1, ih d (i + 1) (x + 1) (by omega) (by omega), decide_eq_true h, if_pos rfl, i32_as, one_add]
      · rw [if_neg h, nI_1, nI_a0, ih d (i + 1) x (by omega) (by omega), decide_eq_false h, if_neg (by decide), Nat.zero_add]
theorem c0_true : ∀ a, c0 (fun _ => true) a = a := by
  intro a
  induction a with
  | zero => rfl
  | succ a ih =>
    show c0 (fun _ => true) a + (if true = true then 1 else 0) = a + 1
    rw [ih, if_pos rfl]
theorem model_many (hE : EnvOK n k rl mt mr fr num ah be) : c0 (fun l => decide (rl l = 0)) n = k := by
  obtain ⟨hn, hk, hrk, hnum, hmt, hab⟩ := hE
  have e := c0_hit (S := fun _ => true) (f := fun r => (num r).toNatClampNeg) (k := n) k (fun i j hij hj _ _ e => by
    obtain ⟨x, x1, x2, x3, x4⟩ := hnum i (by omega)
    obtain ⟨y, y1, y2, y3, y4⟩ := hnum j hj
    have e' : (num i).toNatClampNeg = (num j).toNatClampNeg := e
    rw [x2, y2, nI_clamp (by omega), nI_clamp (by omega)] at e'
    subst e'
    have := nI_i (by omega) (by omega) (x4.symm.trans y4)
    omega) (fun j hj _ => by
    obtain ⟨x, x1, x2, _⟩ := hnum j hj
    show (num j).toNatClampNeg < n
    rw [x2, nI_clamp (by omega)]; exact x1)
  rw [c0_true] at e
  refine (c0_congr n (fun l hl => ?_)).trans e.symm
  rw [Bool.eq_iff_iff, decide_eq_true_iff, hit_iff]
  constructor
  · intro h
    rcases hrk l hl with ⟨_, r, r1, r2, r3, r4⟩ | ⟨h2, _⟩
    · refine ⟨r, r1, rfl, ?_⟩
      show (num r).toNatClampNeg = l
      rw [r4, nI_clamp (by omega)]
    · exact absurd h h2
  · rintro ⟨r, r1, _, r3⟩
    obtain ⟨x, x1, x2, x3, _⟩ := hnum r r1
    have r3' : (num r).toNatClampNeg = l := r3
    rw [x2, nI_clamp (by omega)] at r3'
    subst r3'
    exact x3
def sg (g : Nat → Nat) : Nat → Nat
  | 0 => 0
  | r + 1 => sg g r + g r
theorem sg_congr {g h : Nat → Nat} : ∀ k, (∀ r, r < k → g r = h r) → sg g k = sg h k
  | 0, _ => rfl
  | k + 1, e => by
    show sg g k + g k = sg h k + h k
    rw [sg_congr k (fun r hr => e r (by omega)), e k (by omega)]
theorem sg_add (g h : Nat → Nat) : ∀ k, sg (fun r => g r + h r) k = sg g k + sg h k
  | 0 => rfl
  | k + 1 => by
    show sg (fun r => g r + h r) k + (g k + h k) = sg g k + g k + (sg h k + h k)
    rw [sg_add g h k]; omega
theorem sg_c0 (P : Nat → Bool) : ∀ k, sg (fun q => if P q = true then 1 else 0) k = c0 P k
  | 0 => rfl
  | k + 1 => by
    show sg (fun q => if P q = true then 1 else 0) k + (if P k = true then 1 else 0) = c0 P k + (if P k = true then 1 else 0)
    rw [sg_c0 P k]
theorem sg_zero : ∀ k, sg (fun _ => 0) k = 0
  | 0 => rfl
  | k + 1 => sg_zero k
theorem dcount (P : Nat → Nat → Bool) (m : Nat) : ∀ k, sg (fun r => c0 (P r) m) k = sg (fun q => c0 (fun r => P r q) k) m
  | 0 => (sg_zero m).symm
  | k + 1 => by
    show sg (fun r => c0 (P r) m) k + c0 (P k) m = sg (fun q => c0 (fun r => P r q) k + (if P k q = true then 1 else 0)) m
    rw [dcount P m k, sg_add, sg_c0]
theorem bits_v {x : Int32} (h : ∀ i, 16 ≤ i → i < 32 → bt x i = false) : fJ6_bitCount_0f7a4 x = some (nI (c0 (bt x) 16)) ∧ fX6_ones x = some (nI (c0 (bt x) 16)) := by
  have h1 := bitCount_v (nat_lt16 h)
  have h2 := ones_v (nat_lt16 h)
  rw [← nI_bits x, pc_c0] at h1 h2
  exact ⟨h1, h2⟩
def Low (k : Nat) (b : Nat → Int32) : Prop := ∀ r, r < k → ∀ i, k ≤ i → i < 32 → bt (b r) i = false
theorem pairs_loop (hk : k ≤ 12) (hA : Low k ah) : ∀ (f d i : Nat), i + d = k → d < f → fX4_manyPairs_h4 f (nI (sg (fun r => c0 (bt (ah r)) 16) i)) (nI i) (nI k) ah = some (nI (sg (fun r => c0 (bt (ah r)) 16) k)) := by
  intro f
  induction f with
  | zero => intro d i _ h; omega
  | succ f ih =>
    intro d i hi hd
    show uX4_manyPairs_h4 (fX4_manyPairs_h4 f) _ (nI i) (nI k) ah = _
    unfold uX4_manyPairs_h4
    cases d with
    | zero =>
      obtain rfl : i = k := by omega
      exact if_p (nI_le (by omega) (by omega)) rfl
    | succ d =>
      refine if_n (nI_ge (by omega) (by omega)) (ck_m (by omega) (by omega) ?_)
      rw [nI_clamp (by omega), (bits_v (fun j h1 h2 => hA i (by omega) j (by omega) h2)).1, Option.bind_some, nI_add, nI_1]
      exact ih d (i + 1) (by omega) (by omega)
theorem ones5_loop {li ip hi : Int32} (hk : k ≤ 12) (hB : Low k be) : ∀ (f d i : Nat), i + d = k → d < f → fX6_count_h56 f (nI (sg (fun r => c0 (bt (be r)) 16) i)) (nI i) li (nI k) ip hi rl be = some (nI (sg (fun r => c0 (bt (be r)) 16) k)) := by
  intro f
  induction f with
  | zero => intro d i _ h; omega
  | succ f ih =>
    intro d i hi hd
    show uX6_count_h56 (fX6_count_h56 f) _ (nI i) li (nI k) ip _ rl be = _
    unfold uX6_count_h56
    cases d with
    | zero =>
      obtain rfl : i = k := by omega
      exact if_p (nI_le (by omega) (by omega)) rfl
    | succ d =>
      refine if_n (nI_ge (by omega) (by omega)) (ck_m (by omega) (by omega) ?_)
      rw [nI_clamp (by omega), (bits_v (fun j h1 h2 => hB i (by omega) j (by omega) h2)).2, Option.bind_some, nI_add, nI_1]
      exact ih d (i + 1) (by omega) (by omega)
theorem pairs_eq (hk : k ≤ 12) (hA : Low k ah) (hB : Low k be) (hab : ∀ q r, q < k → r < k → bt (ah r) q = bt (be q) r) : sg (fun r => c0 (bt (ah r)) 16) k = sg (fun r => c0 (bt (be r)) 16) k := by
  have cut : ∀ b : Nat → Int32, Low k b → ∀ r, r < k → c0 (bt (b r)) 16 = c0 (bt (b r)) k := by
    intro b hb r hr
    have := c0_add (S := bt (b r)) (e := k) (16 - k) (fun j h1 h2 => hb r hr j h1 (by omega))
    rw [show k + (16 - k) = 16 by omega] at this
    exact this
  rw [sg_congr k (cut ah hA), sg_congr k (cut be hB), dcount (fun r => bt (ah r)) k k]
  refine sg_congr k (fun q hq => c0_congr k (fun r hr => ?_))
  exact hab q r hq hr
theorem in13 {x : Int32} (h1 : ¬ x = 1) (h2 : ¬ x = 2) (h3 : ¬ x = 3) : fX6_in x 1 3 = some 0 := by
  unfold fX6_in
  refine ite_v (fun _ => rfl) (fun g1 => ite_v (fun _ => rfl) (fun g2 => ?_))
  exfalso
  rw [i32lt] at g1 g2
  rw [show (1 : Int32).toInt = 1 from rfl] at g1
  rw [show (3 : Int32).toInt = 3 from rfl] at g2
  obtain ⟨j, hj, rfl⟩ := nI_of (x := x) (by rw [i32lt, show (0 : Int32).toInt = 0 from rfl]; omega)
  rw [nI_toInt hj] at g1 g2
  obtain rfl | rfl | rfl : j = 1 ∨ j = 2 ∨ j = 3 := by omega
  · exact h1 rfl
  · exact h2 rfl
  · exact h3 rfl
theorem count_c (x : Int32) (q hd : Int32) (hE : EnvOK n k rl mt mr fr num ah be) (hA : Low k ah) (hB : Low k be) : ∃ v, fX5_count x q hd (nI n) rl (nI k) ah = some v ∧ fX6_count x (nI n) (nI k) q hd rl be = some v := by
  have hn := hE.1
  have hk := hE.2.1
  have hm := model_many hE
  have ml : ∀ c : Int32, fX1_manyOf c (nI n) rl = some (nI (c0 (fun l => decide (rl l = c)) n)) := by
    intro c
    have h := manyOf_loop (rl := rl) (c := c) hn FU n 0 0 (by omega) (by rw [FU_eq]; omega)
    rw [c0_cn, show (0 : Int32) + nI (c0 (fun l => decide (rl l = c)) n) = nI (c0 (fun l => decide (rl l = c)) n) from (nI_add 0 _).trans (by rw [Nat.zero_add])] at h
    exact h
  have cl : ∀ x1 c : Int32, x1 - 1 = c → fX6_count_h103 FU x1 0 0 (nI n) (nI k) q hd rl be = some (nI (c0 (fun l => decide (rl l = c)) n)) := by
    intro x1 c hx
    have h := count_loop (rl := rl) (be := be) (mo := nI k) (ip := q) (hi := hd) hx hn FU n 0 0 (by omega) (by rw [FU_eq]; omega)
    rw [c0_cn, show (0 : Int32) + nI (c0 (fun l => decide (rl l = c)) n) = nI (c0 (fun l => decide (rl l = c)) n) from (nI_add 0 _).trans (by rw [Nat.zero_add])] at h
    exact h
  unfold fX5_count fX6_count
  by_cases e0 : x = 0
  · exact ⟨nI n, if_p e0 rfl, if_p e0 rfl⟩
  by_cases e1 : x = 1
  · subst e1
    exact ⟨nI k, if_n (by decide) (if_p rfl rfl), if_n (by decide) (if_p rfl (bind_v (a := 1) (by decide) (if_n (by decide) ((cl 1 0 (by decide)).trans (by rw [hm])))))⟩
  by_cases e2 : x = 2
  · subst e2
    exact ⟨_, if_n (by decide) (if_n (by decide) (if_p rfl (bind_v (ml 1) rfl))), if_n (by decide) (if_n (by decide) (if_p rfl (bind_v (a := 1) (by decide) (if_n (by decide) (cl 2 1 (by decide))))))⟩
  by_cases e3 : x = 3
  · subst e3
    exact ⟨_, if_n (by decide) (if_n (by decide) (if_n (by decide) (if_p rfl (bind_v (ml 2) rfl)))), if_n (by decide) (if_n (by decide) (if_n (by decide) (if_p rfl (bind_v (a := 1) (by decide) (if_n (by decide) (cl 3 2 (by decide)))))))⟩
  by_cases e4 : x = 4
  · exact ⟨q, if_n e0 (if_n e1 (if_n e2 (if_n e3 (if_p e4 rfl)))), if_n e0 (if_n e1 (if_n e2 (if_n e3 (if_p e4 rfl))))⟩
  by_cases e5 : x = 5
  · have h5 := pairs_loop (ah := ah) hk hA FU k 0 (by omega) (by rw [FU_eq]; omega)
    have h6 := ones5_loop (rl := rl) (be := be) (li := nI n) (ip := q) (hi := hd) hk hB FU k 0 (by omega) (by rw [FU_eq]; omega)
    rw [← pairs_eq hk hA hB hE.2.2.2.2.2] at h6
    exact ⟨_, if_n e0 (if_n e1 (if_n e2 (if_n e3 (if_n e4 (if_p e5 (bind_v h5 rfl)))))), if_n e0 (if_n e1 (if_n e2 (if_n e3 (if_n e4 (if_p e5 h6)))))⟩
  by_cases e6 : x = 6
  · exact ⟨hd, if_n e0 (if_n e1 (if_n e2 (if_n e3 (if_n e4 (if_n e5 (if_p e6 rfl)))))), if_n e0 (if_n e1 (if_n e2 (if_n e3 (if_n e4 (if_n e5 (if_p e6 rfl))))))⟩
  · exact ⟨-102, if_n e0 (if_n e1 (if_n e2 (if_n e3 (if_n e4 (if_n e5 (if_n e6 rfl)))))), if_n e0 (if_n e1 (if_n e2 (if_n e3 (if_n e4 (if_n e5 (if_n e6 (bind_v (in13 e1 e2 e3) (if_p rfl rfl))))))))⟩
theorem needs_c (x y : Int32) (hE : EnvOK n k rl mt mr fr num ah be) : ∃ v, fX5_needs x y (nI n) (nI k) mr ah = some v ∧ fX6_needs x y (nI n) rl fr be = some v := by
  obtain ⟨hn, hk, hrk, hnum, hmt, hab⟩ := hE
  unfold fX5_needs fX6_needs
  rw [isLine_eq _ (by omega), isLine_eq _ (by omega)]
  rcases has_v x (show n < 2 ^ 31 by omega) with ⟨i, hi, rfl, e⟩ | ⟨_, e⟩
  · rcases has_v y (show n < 2 ^ 31 by omega) with ⟨j, hj, rfl, e'⟩ | ⟨_, e'⟩
    · have ci : (nI i).toNatClampNeg = i := nI_clamp (by omega)
      have cj : (nI j).toNatClampNeg = j := nI_clamp (by omega)
      rcases hrk i hi with ⟨z1, r, r1, r2, r3, r4⟩ | ⟨z1, z2⟩
      · rcases hrk j hj with ⟨w1, s, s1, s2, s3, s4⟩ | ⟨w1, w2⟩
        · refine ⟨if bt (ah s) r = true then 1 else 0, bind_v e (if_n (by decide) (bind_v e' (if_n (by decide) (bind_v (rankOf_v (by omega)) (bind_v (rankOf_v (by omega)) ?_))))), bind_v e (if_n (by decide) (bind_v e' (if_n (by decide) (bind_v (a := if bt (ah s) r = true then 1 else 0) ?_ ?_))))⟩
          · rw [r2, s2]
            refine bind_v (isAhead_v hk s1 r1) ?_
            by_cases b : bt (ah s) r = true
            · rw [if_pos b]; exact if_n (by decide) rfl
            · rw [if_neg b]; exact if_p (by decide) rfl
          · unfold fX6_needsOf
            refine ck_m (by omega) (by omega) ?_
            rw [ci]
            refine if_p z1 (ck_m (by omega) (by omega) ?_)
            rw [cj]
            refine if_p w1 (ck_m (by omega) (by omega) ?_)
            rw [r3]
            refine ck_m (by omega) (by omega) (ck_m (by omega) (by omega) ?_)
            rw [s3, nI_clamp (by omega), shr_bit _ (by omega), ← hab r s r1 s1]
            by_cases b : bt (ah s) r = true
            · rw [if_pos b]; exact if_p rfl rfl
            · rw [if_neg b]; exact if_n (by decide) rfl
          · by_cases b : bt (ah s) r = true
            · rw [if_pos b]; exact if_n (by decide) rfl
            · rw [if_neg b]; exact if_p (by decide) rfl
        · refine ⟨0, bind_v e (if_n (by decide) (bind_v e' (if_n (by decide) (bind_v (rankOf_v (by omega)) (bind_v (rankOf_v (by omega)) ?_))))), bind_v e (if_n (by decide) (bind_v e' (if_n (by decide) (bind_v (a := 0) ?_ (if_p rfl rfl)))))⟩
          · rw [r2, w2]
            exact bind_v (isAhead_r hk r1) (if_p rfl rfl)
          · unfold fX6_needsOf
            refine ck_m (by omega) (by omega) ?_
            rw [ci]
            refine if_p z1 (ck_m (by omega) (by omega) ?_)
            rw [cj]
            exact if_n w1 rfl
      · refine ⟨0, bind_v e (if_n (by decide) (bind_v e' (if_n (by decide) (bind_v (rankOf_v (by omega)) (bind_v (rankOf_v (by omega)) ?_))))), bind_v e (if_n (by decide) (bind_v e' (if_n (by decide) (bind_v (a := 0) ?_ (if_p rfl rfl)))))⟩
        · rw [z2]
          exact bind_v isAhead_l (if_p rfl rfl)
        · unfold fX6_needsOf
          refine ck_m (by omega) (by omega) ?_
          rw [ci]
          exact if_n z1 rfl
    · exact ⟨-101, bind_v e (if_n (by decide) (bind_v e' (if_p rfl rfl))), bind_v e (if_n (by decide) (bind_v e' (if_p rfl rfl)))⟩
  · exact ⟨-101, bind_v e (if_p rfl rfl), bind_v e (if_p rfl rfl)⟩
end TOLD
