/-! marks and hints of both -/
def EnvOK (n k : Nat) (rl mt mr fr num ah be : Nat → Int32) : Prop := n ≤ 16 ∧ k ≤ 12 ∧ RkOK n k rl mr fr num ∧ NumOK n k rl mr num ∧ MtOK n rl mt ∧ (∀ q r, q < k → r < k → bt (ah r) q = bt (be q) r)
def RowOK (n a : Nat) (row : Nat → Int32) : Prop := a ≤ 16 ∧ RowIn n a row ∧ RowDi a row
theorem nI_bits (x : Int32) : x = nI x.toBitVec.toNat := by
  apply Int32.toBitVec_inj.1
  show x.toBitVec = BitVec.ofNat 32 x.toBitVec.toNat
  exact BitVec.eq_of_toNat_eq (by simp)
theorem bt_nat (x : Int32) (i : Nat) : x.toBitVec.toNat.testBit i = bt x i := rfl
theorem nat_lt16 {x : Int32} (h : ∀ i, 16 ≤ i → i < 32 → bt x i = false) : x.toBitVec.toNat < 65536 := by
  have : x.toBitVec.toNat < 2 ^ 16 := by
    apply Nat.lt_pow_two_of_testBit
    intro i hi
    rw [bt_nat]
    rcases Nat.lt_or_ge i 32 with q | q
    · exact h i hi q
    · exact b_big q
  exact this
theorem i32_sac (x y z : Int32) : x - y + y - z = x - z := by rw [Int32.sub_add_cancel]
theorem hC_none {α : Type} (no : α) (yes : Nat → α) : hC none no yes = no := rfl
theorem hC_some {α : Type} (j : Nat) (no : α) (yes : Nat → α) : hC (some j) no yes = yes j := rfl
section BOTH
variable {n k a : Nat} {rl mt mr fr num row ah be : Nat → Int32}
theorem tk_R (hE : EnvOK n k rl mt mr fr num ah be) (hr : RowOK n a row) : RVal k a (tkI a rl mt mr row) := by
  intro i hi
  obtain ⟨l, _, _, h⟩ := tk_cases hE.1 hr.1 hr.2.1 hE.2.2.1 hE.2.2.2.2.1 hi
  rcases h with ⟨_, r, h1, h2, _⟩ | ⟨_, p, r, _, h1, _, _, _, _, h2, _⟩ | ⟨_, p, _, _, _, h2⟩ | ⟨_, _, h2⟩
  · exact Or.inr ⟨r, h1, h2⟩
  · exact Or.inr ⟨r, h1, h2⟩
  · exact Or.inl h2
  · exact Or.inl h2
theorem tk_inj (hE : EnvOK n k rl mt mr fr num ah be) (hr : RowOK n a row) {i j r : Nat} (hrk : r < k) (hij : i < j) (hj : j < a) (h1 : tkI a rl mt mr row i = nI r) (h2 : tkI a rl mt mr row j = nI r) : False := by
  have hn := hE.1
  have hk := hE.2.1
  have ha := hr.1
  have key : ∀ (i j : Nat), i < a → j < a → ¬ row i = row j → tkI a rl mt mr row i = nI r → tkI a rl mt mr row j = nI r → False := by
    intro i j hi hj hne h1 h2
    obtain ⟨l, hl, e, h⟩ := tk_cases hE.1 hr.1 hr.2.1 hE.2.2.1 hE.2.2.2.2.1 hi
    obtain ⟨l', hl', e', h'⟩ := tk_cases hE.1 hr.1 hr.2.1 hE.2.2.1 hE.2.2.2.2.1 hj
    rcases h with ⟨_, s, s1, s2, s3, _⟩ | ⟨_, p, s, p1, s1, m1, m2, _, pl1, s2, s3, _⟩ | ⟨_, p, _, _, _, s2⟩ | ⟨_, _, s2⟩
    · rw [h1] at s2
      have := nI_i (by omega) (by omega) s2
      subst this
      rcases h' with ⟨_, u, u1, u2, u3, _⟩ | ⟨_, p', u, p1', u1, m1', m2', _, pl1', u2, u3, _⟩ | ⟨_, p, _, _, _, u2⟩ | ⟨_, _, u2⟩
      · rw [h2] at u2
        have := nI_i (by omega) (by omega) u2
        subst this
        rw [s3] at u3
        exact hne (by rw [e, e', u3])
      · rw [h2] at u2
        have := nI_i (by omega) (by omega) u2
        subst this
        rw [s3] at u3
        exact (pl_none a 0 (by omega)).mp pl1' i (by omega) (by omega) (by rw [e, u3])
      · rw [h2] at u2; exact ne_m1 (by omega) u2
      · rw [h2] at u2; exact ne_m1 (by omega) u2
    · rw [h1] at s2
      have := nI_i (by omega) (by omega) s2
      subst this
      rcases h' with ⟨_, u, u1, u2, u3, _⟩ | ⟨_, p', u, p1', u1, m1', m2', _, pl1', u2, u3, _⟩ | ⟨_, p, _, _, _, u2⟩ | ⟨_, _, u2⟩
      · rw [h2] at u2
        have := nI_i (by omega) (by omega) u2
        subst this
        rw [s3] at u3
        exact (pl_none a 0 (by omega)).mp pl1 j (by omega) (by omega) (by rw [e', u3])
      · rw [h2] at u2
        have := nI_i (by omega) (by omega) u2
        subst this
        rw [s3] at u3
        have := nI_i (by omega) (by omega) u3
        subst this
        rw [m2] at m2'
        exact hne (by rw [e, e', m2'])
      · rw [h2] at u2; exact ne_m1 (by omega) u2
      · rw [h2] at u2; exact ne_m1 (by omega) u2
    · rw [h1] at s2; exact ne_m1 (by omega) s2
    · rw [h1] at s2; exact ne_m1 (by omega) s2
  exact key i j (by omega) hj (hr.2.2 i j hij hj) h1 h2
/-- what both work out of a row -/
theorem marks_v (hE : EnvOK n k rl mt mr fr num ah be) (hr : RowOK n a row) (kp0 ch0 : Int32) (R0 CL0 : Nat → Int32) : ∃ R CL kp m, (∀ j, j < a → R j = tkI a rl mt mr row j) ∧ (∀ j, bt kp j = true → j < a ∧ ¬ R j = -1) ∧ m = c0 (bt kp) a ∧ fX3_findRanks R0 (nI n) rl mt mr (nI a) row = some R ∧ fX3_findClashes R CL0 (nI k) ah (nI a) = some CL ∧ fX3_chooseKept kp0 R CL (nI a) = some kp ∧ fX3_countChanges kp ch0 (nI n) rl (nI k) (nI a) row = some (nI k - nI m + nI (c0 (nmB rl row) a)) ∧
    (∀ kb km tm tp ag, ∃ kn tn tp' ag', fX6_choose (nI a) kb km tm rl mt fr be row tp ag = some (kp, kn, tn, tp', ag') ∧ fX6_markOf (nI k) (nI a) kb km tm rl mt fr be row tp ag = some (nI k - nI m + nI (c0 (nmB rl row) a), kp, kn, tn, tp', ag')) := by
  obtain ⟨hn, hk, hrk, hnum, hmt, hab⟩ := hE
  obtain ⟨ha, hrow, hdi⟩ := hr
  obtain ⟨R, e1, e2⟩ := findRanks_v hn ha hrow hrk hmt R0
  have hR : RVal k a R := by
    intro i hi
    rw [e1 i hi]
    exact tk_R ⟨hn, hk, hrk, hnum, hmt, hab⟩ ⟨ha, hrow, hdi⟩ i hi
  obtain ⟨CL, e3, e4⟩ := findClashes_v (ah := ah) hk ha hR CL0
  obtain ⟨kp, e5, e6⟩ := chooseKept_v (a := a) (R := R) (CL := CL) (kp0 := kp0) ha
  have htk : ∀ i, i < a → fX6_takenFor (nI i) (nI a) rl mt fr row = some (R i) := by
    intro i hi
    rw [e1 i hi]
    exact takenFor_v hn ha hrow hrk hmt hi
  have hin : ∀ j, bt kp j = true → j < a ∧ ¬ R j = -1 := by
    intro j hj
    rcases Nat.lt_or_ge j 32 with q | q
    · rw [e5 j q] at hj
      obtain ⟨_, _, h3⟩ := gr_in _ 16 0 _ j hj
      obtain ⟨h4, h5⟩ := (Bool.and_eq_true _ _).mp h3
      exact ⟨of_decide_eq_true h4, of_decide_eq_true h5⟩
    · rw [b_big q] at hj; cases hj
  have hc16 : c0 (gr (fun i j => bt (CL i) j) 16 0 (fun j => decide (j < a) && decide (¬ R j = -1))) 16 = c0 (bt kp) 16 := c0_congr 16 (fun j hj => (e5 j (by omega)).symm)
  have hca : c0 (bt kp) 16 = c0 (bt kp) a := by
    have := c0_add (S := bt kp) (e := a) (16 - a) (fun j h1 h2 => by
      cases hb : bt kp j
      · rfl
      · have := (hin j hb).1; omega)
    rw [show a + (16 - a) = 16 by omega] at this
    exact this
  refine ⟨R, CL, kp, c0 (bt kp) a, e1, hin, rfl, e2, e4, e6, ?_, ?_⟩
  · unfold fX3_countChanges
    have hlt := nat_lt16 (x := kp) (fun i h1 _ => by
      cases hb : bt kp i
      · rfl
      · have := (hin i hb).1; omega)
    have hbc := bitCount_v hlt
    rw [← nI_bits kp] at hbc
    have hpc : pc kp.toBitVec.toNat = c0 (bt kp) a := by
      rw [pc_c0, ← hca]
      exact c0_congr 16 (fun j _ => bt_nat kp j)
    rw [hbc, Option.bind_some, hpc]
    have := changes_loop (rl := rl) hn ha hrow (kp := kp) (ch := ch0) (mk := nI k) FU a 0 (nI k - nI (c0 (bt kp) a)) (by omega) (by rw [FU_eq]; omega)
    rw [c0_cn] at this
    exact this
  · intro kb km tm tp ag
    obtain ⟨kb', tp', ag', f1, f2⟩ := choose_v (be := be) (tp0 := tp) (ag0 := ag) (kb0 := kb) (km0 := km) (tm0 := tm) (cf := fun i j => bt (CL i) j) (T := fun j => decide (j < a) && decide (¬ R j = -1)) ha (fun p => rfl) htk (fun i hi => by
      rcases hR i hi with q | ⟨r, h1, h2⟩
      · exact Or.inl q
      · exact Or.inr ⟨r, by omega, h2⟩) (fun i j r r' hij hj h1 h2 h3 h4 => by
      show bt (CL i) j = bt (be r') r
      rw [e3 i (by omega) j (by omega), decide_eq_true hij, decide_eq_true hj, Bool.true_and, Bool.true_and]
      unfold clB
      rw [h1, h2, nI_clamp (by omega), nI_clamp (by omega), decide_eq_true (ne_m1 (by omega)), decide_eq_true (ne_m1 (by omega)), Bool.true_and, Bool.true_and]
      have hr1 : r < k := by
        rcases hR i (by omega) with q | ⟨s, q1, q2⟩
        · rw [h1] at q; exact absurd q (ne_m1 (by omega))
        · rw [h1] at q2; have := nI_i (by omega) (by omega) q2; omega
      have hr2 : r' < k := by
        rcases hR j hj with q | ⟨s, q1, q2⟩
        · rw [h2] at q; exact absurd q (ne_m1 (by omega))
        · rw [h2] at q2; have := nI_i (by omega) (by omega) q2; omega
      exact hab r' r hr2 hr1)
    have hkb : kb' = kp := b_ext (fun j hj => by rw [f1 j hj, e5 j hj])
    rw [hkb] at f2
    rw [hc16, hca] at f2
    refine ⟨_, _, tp', ag', f2, ?_⟩
    unfold fX6_markOf
    rw [f2, Option.bind_some]
    show fX6_markOf_h26 FU (nI k - nI (c0 _ a) + nI (c0 _ a) - nI (c0 (bt kp) a)) 0 (nI k) (nI a) kp (nI (c0 (bt kp) a)) (nI (c0 _ a)) rl mt fr be row tp' ag' = _
    rw [i32_sac]
    have := mark_loop (mt := mt) (fr := fr) (rl := rl) hn ha hrow (be := be) (tp := tp') (ag := ag') (mk := nI k) (kb := kp) (km := nI (c0 (bt kp) a)) (tm := nI (c0 (fun j => decide (j < a) && decide (¬ R j = -1)) a)) FU a 0 (nI k - nI (c0 (bt kp) a)) (by omega) (by rw [FU_eq]; omega)
    rw [c0_cn] at this
    exact this
/-- no change left: nothing to hint at -/
theorem mark0 (hE : EnvOK n k rl mt mr fr num ah be) (hr : RowOK n a row) {R : Nat → Int32} {kp : Int32} (h1 : ∀ j, j < a → R j = tkI a rl mt mr row j) (h2 : ∀ j, bt kp j = true → j < a ∧ ¬ R j = -1) (h0 : nI k - nI (c0 (bt kp) a) + nI (c0 (nmB rl row) a) = 0) :
    (∀ j, j < a → ¬ R j = -1) ∧ (∀ j, j < a → ¬ rl (row j).toNatClampNeg = 2) ∧ (∀ r, r < k → ¬ pl row (num r) 0 a = -1) ∧ (∀ j, j < a → bt kp j = true) := by
  have hn := hE.1
  have hk := hE.2.1
  have ha := hr.1
  have hRv : ∀ j, j < a → R j = -1 ∨ ∃ r, r < k ∧ R j = nI r := fun j hj => by rw [h1 j hj]; exact tk_R hE hr j hj
  have hinj : ∀ (S : Nat → Bool), (∀ j, j < a → S j = true → ¬ R j = -1) → c0 S a = c0 (hit S (fun j => (R j).toNatClampNeg) a) k := by
    intro S hS
    refine c0_hit a (fun i j hij hj s1 s2 e => ?_) (fun j hj s => ?_)
    · rcases hRv i (by omega) with q | ⟨r, q1, q2⟩
      · exact hS i (by omega) s1 q
      · rcases hRv j hj with p | ⟨r', p1, p2⟩
        · exact hS j hj s2 p
        · have e' : (R i).toNatClampNeg = (R j).toNatClampNeg := e
          rw [q2, p2, nI_clamp (by omega), nI_clamp (by omega)] at e'
          subst e'
          rw [h1 i (by omega)] at q2
          rw [h1 j hj] at p2
          exact tk_inj hE hr q1 hij hj q2 p2
    · rcases hRv j hj with q | ⟨r, q1, q2⟩
      · exact absurd q (hS j hj s)
      · show (R j).toNatClampNeg < k
        rw [q2, nI_clamp (by omega)]; exact q1
  have hkp := hinj (bt kp) (fun j _ s => (h2 j s).2)
  have hle : c0 (bt kp) a ≤ k := by rw [hkp]; exact c0_le _ k
  have hnm := c0_le (nmB rl row) a
  rw [pk_sub hle, nI_add] at h0
  have hz : k - c0 (bt kp) a + c0 (nmB rl row) a = 0 := by
    rcases Nat.eq_zero_or_pos (k - c0 (bt kp) a + c0 (nmB rl row) a) with q | q
    · exact q
    · exact absurd h0 (nI_ne0 q (by omega))
  have hz1 : c0 (nmB rl row) a = 0 := by omega
  have hz2 : c0 (bt kp) a = k := by omega
  have hrole : ∀ j, j < a → rl (row j).toNatClampNeg = 0 := by
    intro j hj
    have := c0_none a hz1 j hj
    unfold nmB at this
    exact Classical.not_not.mp (of_decide_eq_false this)
  have hmod : ∀ j, j < a → ∃ l r, l < n ∧ r < k ∧ row j = nI l ∧ R j = nI r ∧ num r = nI l := by
    intro j hj
    obtain ⟨l, hl, e, h⟩ := tk_cases hE.1 hr.1 hr.2.1 hE.2.2.1 hE.2.2.2.2.1 hj
    have hro := hrole j hj
    rw [e, nI_clamp (by omega)] at hro
    rcases h with ⟨_, r, g1, g2, g3, _⟩ | ⟨q, _⟩ | ⟨q, _⟩ | ⟨q, _⟩
    · exact ⟨l, r, hl, g1, e, by rw [h1 j hj]; exact g2, g3⟩
    · rw [hro] at q; exact absurd q e02
    · rw [hro] at q; exact absurd q e02
    · exact absurd hro q
  have hnoR : ∀ j, j < a → ¬ R j = -1 := by
    intro j hj q
    obtain ⟨l, r, _, g, _, e, _⟩ := hmod j hj
    rw [e] at q
    exact ne_m1 (by omega) q
  refine ⟨hnoR, fun j hj q => ?_, fun r hrk q => ?_, fun j hj => ?_⟩
  · rw [hrole j hj] at q; exact e02 q
  · rw [hz2] at hkp
    have := c0_full k hkp.symm r hrk
    obtain ⟨j, g1, g2, g3⟩ := (hit_iff _ _ r a).mp this
    obtain ⟨l, r', _, g, el, e, en⟩ := hmod j g1
    have g3' : (R j).toNatClampNeg = r := g3
    rw [e, nI_clamp (by omega)] at g3'
    subst g3'
    exact (pl_none a 0 (by omega)).mp q j (by omega) (by omega) (by rw [el, en])
  · have hT := hinj (fun _ => true) (fun j hj _ => hnoR j hj)
    have hall : c0 (fun _ => true) a = a := by
      clear hkp hle hnm h0 hz hz1 hz2 hrole hmod hnoR hT hj hRv hinj h1 h2 hr ha
      induction a with
      | zero => rfl
      | succ a ih =>
        show c0 (fun _ => true) a + (if true = true then 1 else 0) = a + 1
        rw [ih, if_pos rfl]
    rw [hall] at hT
    have h3 : a ≤ k := by
      have := c0_le (hit (fun _ => true) (fun j => (R j).toNatClampNeg) a) k
      omega
    have h4 := c0_le (bt kp) a
    exact c0_full a (by omega) j hj
/-- what a hint can be -/
def HintOK (n a : Nat) (rl mt row : Nat → Int32) (hc hl hp : Int32) : Prop := hc = -1 ∨ (hc = 0 ∧ ∃ p, p < a ∧ hp = nI p) ∨ (hc = 3 ∧ ∃ p l q, p < a ∧ l < n ∧ q < n ∧ hp = nI p ∧ hl = nI l ∧ mt l = nI q ∧ pl row (nI q) 0 a = -1) ∨ (hc = 1 ∧ ∃ p l, p ≤ a ∧ l < n ∧ hp = nI p ∧ hl = nI l ∧ pl row (nI l) 0 a = -1) ∨ (hc = 2 ∧ ∃ p to, p < a ∧ to < a ∧ hp = nI to ∧ hl = row p)
theorem study_v (hE : EnvOK n k rl mt mr fr num ah be) (hr : RowOK n a row) (kp0 ch0 hc0 hl0 hp0 : Int32) (R0 CL0 : Nat → Int32) : ∃ kp mk hc hl hp R CL, fX3_study kp0 ch0 hc0 hl0 hp0 R0 CL0 (nI n) rl mt (nI k) num mr ah (nI a) row = some (kp, mk, hc, hl, hp, R, CL) ∧ HintOK n a rl mt row hc hl hp ∧
    (∀ kb km tm tp ag, ∃ kn tn tp' ag', fX6_choose (nI a) kb km tm rl mt fr be row tp ag = some (kp, kn, tn, tp', ag') ∧ fX6_markOf (nI k) (nI a) kb km tm rl mt fr be row tp ag = some (mk, kp, kn, tn, tp', ag')) ∧
    (∀ kb km tm c w h tp ag, ∃ kn tn tp' ag', fX6_look (nI k) (nI a) kb km tm c w h rl mt num fr be row tp ag = some (kp, kn, tn, hc, hl, hp, tp', ag')) := by
  obtain ⟨R, CL, kp, m, h1, h2, h3, h4, h5, h6, h7, h8⟩ := marks_v hE hr kp0 ch0 R0 CL0
  have hE' := hE
  have hr' := hr
  obtain ⟨hn, hk, hrk, hnum, hmt, hab⟩ := hE'
  obtain ⟨ha, hrow, hdi⟩ := hr'
  have hRv : ∀ j, j < a → R j = -1 ∨ ∃ r, r < k ∧ R j = nI r := fun j hj => by rw [h1 j hj]; exact tk_R hE hr j hj
  have htk : ∀ i, i < a → fX6_takenFor (nI i) (nI a) rl mt fr row = some (R i) := by
    intro i hi
    rw [h1 i hi]
    exact takenFor_v hn ha hrow hrk hmt hi
  have hkR : ∀ j, j < a → bt kp j = true → ∃ q, q < k ∧ R j = nI q := by
    intro j hj hb
    rcases hRv j hj with q | q
    · exact absurd q (h2 j hb).2
    · exact q
  have hkg : bt kp 99 = false := b_big (by omega)
  have hstudy : fX3_study kp0 ch0 hc0 hl0 hp0 R0 CL0 (nI n) rl mt (nI k) num mr ah (nI a) row = hC (fi (fun i => decide (R i = -1)) 0 a) (hC (fi (fun i => decide (rl (row i).toNatClampNeg = 2)) 0 a) (hC (fi (fun r => decide (pl row (num r) 0 a = -1)) 0 k) ((fX3_findMove kp hc0 hl0 hp0 R (nI k) ah (nI a) row).bind fun o38 => if o38.1 = 0 then some (kp, nI k - nI m + nI (c0 (nmB rl row) a), -1, -1, -1, R, CL) else some (kp, nI k - nI m + nI (c0 (nmB rl row) a), o38.2.1, o38.2.2.1, o38.2.2.2, R, CL)) (fun r => some (kp, nI k - nI m + nI (c0 (nmB rl row) a), 1, num r, nI (pf (cB kp R ah r) 99 0 a 0), R, CL))) (fun j => some (kp, nI k - nI m + nI (c0 (nmB rl row) a), 3, row j, nI j, R, CL))) (fun j => some (kp, nI k - nI m + nI (c0 (nmB rl row) a), 0, row j, nI j, R, CL)) := by
    unfold fX3_study
    rw [h4, Option.bind_some, h5, Option.bind_some, h6, Option.bind_some, h7, Option.bind_some]
    unfold fX3_findDrop
    rw [show (0 : Int32) = nI 0 from rfl, drop_loop ha FU a 0 (by omega) (by rw [FU_eq]; omega)]
    cases fi (fun i => decide (R i = -1)) 0 a with
    | some j => rfl
    | none =>
      rw [hC_none, hC_none, Option.bind_some, if_pos (show ((0 : Int32), hc0, hl0, hp0).1 = nI 0 from rfl)]
      dsimp only
      unfold fX3_findSwap
      rw [show (0 : Int32) = nI 0 from rfl, swap_loop hn ha hrow FU a 0 (by omega) (by rw [FU_eq]; omega)]
      cases fi (fun i => decide (rl (row i).toNatClampNeg = 2)) 0 a with
      | some j => rfl
      | none =>
        rw [hC_none, hC_none, Option.bind_some, if_pos (show ((0 : Int32), hc0, hl0, hp0).1 = nI 0 from rfl)]
        dsimp only
        unfold fX3_findAdd
        rw [show (0 : Int32) = nI 0 from rfl, add_loop hk ha hkR FU k 0 (by omega) (by rw [FU_eq]; omega)]
        cases fi (fun r => decide (pl row (num r) 0 a = -1)) 0 k with
        | some j => rfl
        | none => rfl
  have hlook : ∀ kb km tm c w h tp ag, ∃ kn tn tp' ag', fX6_look (nI k) (nI a) kb km tm c w h rl mt num fr be row tp ag = if nI k - nI m + nI (c0 (nmB rl row) a) = 0 then some (kp, kn, tn, -1, -1, -1, tp', ag') else hC (fi (fun i => decide (R i = -1)) 0 a) (hC (fi (fun i => decide (rl (row i).toNatClampNeg = 2)) 0 a) (hC (fi (fun r => decide (pl row (num r) 0 a = -1)) 0 k) (fX6_look_h179 FU 0 (nI k) (nI a) kp kn tn (-1) (-1) (-1) rl mt num fr be row tp' ag') (fun r => some (kp, kn, tn, 1, num r, nI (pf (cB kp R ah r) 99 0 a 0), tp', ag'))) (fun j => some (kp, kn, tn, 3, row j, nI j, tp', ag'))) (fun j => some (kp, kn, tn, 0, row j, nI j, tp', ag')) := by
    intro kb km tm c w h tp ag
    obtain ⟨kn, tn, tp', ag', g1, g2⟩ := h8 kb km tm tp ag
    refine ⟨kn, tn, tp', ag', ?_⟩
    unfold fX6_look
    rw [g2, Option.bind_some]
    have e25 := l25 (k := k) (num := num) (be := be) (kp := kp) (km := kn) (tm := tn) (hc := -1) (hl := -1) (hp := -1) (tp := tp') (ag := ag') ha htk FU a 0 (by omega) (by rw [FU_eq]; omega)
    have e71 := l71 (k := k) (mt := mt) (fr := fr) (num := num) (be := be) (kp := kp) (km := kn) (tm := tn) (hc := -1) (hl := -1) (hp := -1) (tp := tp') (ag := ag') (rl := rl) hn ha hrow FU a 0 (by omega) (by rw [FU_eq]; omega)
    have e123 := l123 (num := num) (kp := kp) (km := kn) (tm := tn) (hc := -1) (hl := -1) (hp := -1) (tp := tp') (ag := ag') hk ha hkR hab htk FU k 0 (by omega) (by rw [FU_eq]; omega)
    rw [show nI 0 = (0 : Int32) from rfl] at e25 e71 e123
    rw [← e123, ← e71, ← e25]
  by_cases hm0 : nI k - nI m + nI (c0 (nmB rl row) a) = 0
  · obtain ⟨z1, z2, z3, z4⟩ := mark0 hE hr h1 h2 (by rw [← h3]; exact hm0)
    have f1 : fi (fun i => decide (R i = -1)) 0 a = none := fi_no a 0 (fun j _ hj => decide_eq_false (z1 j (by omega)))
    have f2 : fi (fun i => decide (rl (row i).toNatClampNeg = 2)) 0 a = none := fi_no a 0 (fun j _ hj => decide_eq_false (z2 j (by omega)))
    have f3 : fi (fun r => decide (pl row (num r) 0 a = -1)) 0 k = none := fi_no k 0 (fun j _ hj => decide_eq_false (z3 j (by omega)))
    have f4 : fi (fun i => !bt kp i) 0 a = none := fi_no a 0 (fun j _ hj => by show (!bt kp j) = false; rw [z4 j (by omega)]; rfl)
    have hmv := move_loop (row := row) (ah := ah) (kp := kp) hk ha (R := R) (fun j hj => (hRv j hj).resolve_left (z1 j hj)) (hc := hc0) (hl := hl0) (hp := hp0) FU a 0 (by omega) (by rw [FU_eq]; omega)
    rw [f4] at hmv
    rw [f1, f2, f3] at hstudy
    refine ⟨kp, nI k - nI m + nI (c0 (nmB rl row) a), -1, -1, -1, R, CL, ?_, Or.inl rfl, h8, ?_⟩
    · rw [hstudy]
      show ((fX3_findMove_h2 FU (nI 0) kp hc0 hl0 hp0 R (nI k) ah (nI a) row).bind _) = _
      rw [hmv]
      rfl
    · intro kb km tm c w h tp ag
      obtain ⟨kn, tn, tp', ag', g⟩ := hlook kb km tm c w h tp ag
      rw [if_pos hm0] at g
      exact ⟨kn, tn, tp', ag', g⟩
  · cases f1 : fi (fun i => decide (R i = -1)) 0 a with
    | some j =>
      obtain ⟨_, j1, _⟩ := fi_some a 0 f1
      rw [f1] at hstudy
      refine ⟨kp, _, _, _, _, R, CL, hstudy, Or.inr (Or.inl ⟨rfl, j, by omega, rfl⟩), h8, ?_⟩
      intro kb km tm c w h tp ag
      obtain ⟨kn, tn, tp', ag', g⟩ := hlook kb km tm c w h tp ag
      rw [if_neg hm0, f1] at g
      exact ⟨kn, tn, tp', ag', g⟩
    | none =>
      have z1 : ∀ j, j < a → ¬ R j = -1 := fun j hj => of_decide_eq_false (fi_none a 0 f1 j (by omega) (by omega))
      cases f2 : fi (fun i => decide (rl (row i).toNatClampNeg = 2)) 0 a with
      | some j =>
        obtain ⟨_, j1, j2⟩ := fi_some a 0 f2
        have j2 := of_decide_eq_true j2
        rw [f1, f2] at hstudy
        refine ⟨kp, _, _, _, _, R, CL, hstudy, Or.inr (Or.inr (Or.inl ⟨rfl, ?_⟩)), h8, ?_⟩
        · obtain ⟨l, hl, e, hh⟩ := tk_cases hn ha hrow hrk hmt (i := j) (by omega)
          rw [e, nI_clamp (by omega)] at j2
          have hz := z1 j (by omega)
          rw [h1 j (by omega)] at hz
          rcases hh with ⟨q, _⟩ | ⟨_, p, r, p1, _, p2, _, _, p3, _⟩ | ⟨_, p, _, _, _, q⟩ | ⟨_, q, _⟩
          · rw [q] at j2; exact absurd j2 e02
          · exact ⟨j, l, p, by omega, hl, p1, rfl, e, p2, p3⟩
          · exact absurd q hz
          · exact absurd j2 q
        · intro kb km tm c w h tp ag
          obtain ⟨kn, tn, tp', ag', g⟩ := hlook kb km tm c w h tp ag
          rw [if_neg hm0, f1, f2] at g
          exact ⟨kn, tn, tp', ag', g⟩
      | none =>
        have z2 : ∀ j, j < a → ¬ rl (row j).toNatClampNeg = 2 := fun j hj => of_decide_eq_false (fi_none a 0 f2 j (by omega) (by omega))
        cases f3 : fi (fun r => decide (pl row (num r) 0 a = -1)) 0 k with
        | some r =>
          obtain ⟨_, r1, r2⟩ := fi_some k 0 f3
          have r2 := of_decide_eq_true r2
          rw [f1, f2, f3] at hstudy
          refine ⟨kp, _, _, _, _, R, CL, hstudy, Or.inr (Or.inr (Or.inr (Or.inl ⟨rfl, ?_⟩))), h8, ?_⟩
          · obtain ⟨l, hl, e, _⟩ := hnum r (by omega)
            rw [e] at r2
            refine ⟨_, l, pf_le _ 99 (by unfold cB; rw [hkg, Bool.false_and]) a 0 0 ?_ (by omega), hl, rfl, e, r2⟩
            rw [if_neg (by omega)]
            omega
          · intro kb km tm c w h tp ag
            obtain ⟨kn, tn, tp', ag', g⟩ := hlook kb km tm c w h tp ag
            rw [if_neg hm0, f1, f2, f3] at g
            exact ⟨kn, tn, tp', ag', g⟩
        | none =>
          have hmv := move_loop (row := row) (ah := ah) (kp := kp) hk ha (R := R) (fun j hj => (hRv j hj).resolve_left (z1 j hj)) (hc := hc0) (hl := hl0) (hp := hp0) FU a 0 (by omega) (by rw [FU_eq]; omega)
          have hl179 := fun kn tn tp' ag' => l179 (be := be) (ah := ah) (num := num) (kp := kp) (km := kn) (tm := tn) (hc := -1) (hl := -1) (hp := -1) (tp := tp') (ag := ag') hn hk ha hrow (R := R) (rl := rl) (mt := mt) (fr := fr) (fun j hj => by
            obtain ⟨l, hl, e, hh⟩ := tk_cases hn ha hrow hrk hmt (i := j) hj
            have hz := z1 j hj
            have hz2 := z2 j hj
            rw [h1 j hj] at hz
            rw [e, nI_clamp (by omega)] at hz2
            rcases hh with ⟨_, r, g1, g2, _, g3⟩ | ⟨q, _⟩ | ⟨q, _⟩ | ⟨_, _, q⟩
            · exact ⟨r, g1, by rw [h1 j hj]; exact g2, by rw [e, nI_clamp (by omega)]; exact g3⟩
            · exact absurd q hz2
            · exact absurd q hz2
            · exact absurd q hz) hab htk FU a 0 (by omega) (by rw [FU_eq]; omega)
          rw [f1, f2, f3] at hstudy
          have hstudy' : fX3_study kp0 ch0 hc0 hl0 hp0 R0 CL0 (nI n) rl mt (nI k) num mr ah (nI a) row = ((fX3_findMove_h2 FU (nI 0) kp hc0 hl0 hp0 R (nI k) ah (nI a) row).bind fun o38 => if o38.1 = 0 then some (kp, nI k - nI m + nI (c0 (nmB rl row) a), -1, -1, -1, R, CL) else some (kp, nI k - nI m + nI (c0 (nmB rl row) a), o38.2.1, o38.2.2.1, o38.2.2.2, R, CL)) := hstudy
          rw [hmv] at hstudy'
          cases f4 : fi (fun i => !bt kp i) 0 a with
          | some j =>
            obtain ⟨_, j1, j2⟩ := fi_some a 0 f4
            rw [f4] at hstudy'
            have hst2 : fX3_study kp0 ch0 hc0 hl0 hp0 R0 CL0 (nI n) rl mt (nI k) num mr ah (nI a) row = some (kp, nI k - nI m + nI (c0 (nmB rl row) a), 2, row j, nI (pf (cB kp R ah (R j).toNatClampNeg) j 0 a 0), R, CL) := hstudy'
            refine ⟨kp, _, _, _, _, R, CL, hst2, Or.inr (Or.inr (Or.inr (Or.inr ⟨rfl, j, _, by omega, ?_, rfl, rfl⟩))), h8, ?_⟩
            · have j2' : bt kp j = false := by
                have j3 : (!bt kp j) = true := j2
                cases hb : bt kp j
                · rfl
                · rw [hb] at j3; cases j3
              have := pf_le (cB kp R ah (R j).toNatClampNeg) j (by unfold cB; rw [j2', Bool.false_and]) (M := a - 1) a 0 0 (by rw [if_pos (by omega)]; omega) (by omega)
              omega
            · intro kb km tm c w h tp ag
              obtain ⟨kn, tn, tp', ag', g⟩ := hlook kb km tm c w h tp ag
              rw [if_neg hm0, f1, f2, f3] at g
              refine ⟨kn, tn, tp', ag', g.trans ?_⟩
              have := hl179 kn tn tp' ag'
              rw [f4] at this
              exact this
          | none =>
            rw [f4] at hstudy'
            refine ⟨kp, _, _, _, _, R, CL, hstudy', Or.inl rfl, h8, ?_⟩
            intro kb km tm c w h tp ag
            obtain ⟨kn, tn, tp', ag', g⟩ := hlook kb km tm c w h tp ag
            rw [if_neg hm0, f1, f2, f3] at g
            refine ⟨kn, tn, tp', ag', g.trans ?_⟩
            have := hl179 kn tn tp' ag'
            rw [f4] at this
            exact this
end BOTH
