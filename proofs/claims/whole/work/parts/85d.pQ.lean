/-! ones() and bitCount() -/
theorem frc_eq (n : Nat) (f : Nat → Bool) : frc n f = f n := by
  cases n <;> rfl
def pc (g : Nat) : Nat := pcA 16 g
theorem pcA_c0 : ∀ (d g : Nat), pcA d g = cn (fun j => g.testBit j) 0 d
  | 0, _ => rfl
  | d + 1, g => by
    show g % 2 + pcA d (g / 2) = (if g.testBit 0 = true then 1 else 0) + cn (fun j => g.testBit j) 1 d
    rw [pcA_c0 d (g / 2)]
    have e : ∀ (d p : Nat), cn (fun j => (g / 2).testBit j) p d = cn (fun j => g.testBit j) (p + 1) d := by
      intro d
      induction d with
      | zero => intro p; rfl
      | succ d ih =>
        intro p
        show (if (g / 2).testBit p = true then 1 else 0) + cn (fun j => (g / 2).testBit j) (p + 1) d = (if g.testBit (p + 1) = true then 1 else 0) + cn (fun j => g.testBit j) (p + 1 + 1) d
        rw [ih (p + 1), Nat.testBit_succ]
    rw [e d 0, Nat.testBit_zero]
    congr 1
    by_cases h : g % 2 = 1
    · rw [h]; rfl
    · have : g % 2 = 0 := by omega
      rw [this]; rfl
theorem pc_c0 (g : Nat) : pc g = c0 (fun j => g.testBit j) 16 := by
  unfold pc
  rw [pcA_c0]
  have := cn_c0 (fun j => g.testBit j) 16 0
  rw [show c0 (fun j => g.testBit j) 0 = 0 from rfl, Nat.add_zero, Nat.zero_add] at this
  exact this
theorem pc_le (g : Nat) : pc g ≤ 16 := by
  rw [pc_c0]; exact c0_le _ 16
def bcN (g : Nat) : Nat :=
  (((((((g - (g / 2 &&& 1431655765)) &&& 858993459) + ((g - (g / 2 &&& 1431655765)) / 4 &&& 858993459)) + (((g - (g / 2 &&& 1431655765)) &&& 858993459) + ((g - (g / 2 &&& 1431655765)) / 4 &&& 858993459)) / 16) &&& 252645135) + (((((g - (g / 2 &&& 1431655765)) &&& 858993459) + ((g - (g / 2 &&& 1431655765)) / 4 &&& 858993459)) + (((g - (g / 2 &&& 1431655765)) &&& 858993459) + ((g - (g / 2 &&& 1431655765)) / 4 &&& 858993459)) / 16) &&& 252645135) / 256) + ((((((g - (g / 2 &&& 1431655765)) &&& 858993459) + ((g - (g / 2 &&& 1431655765)) / 4 &&& 858993459)) + (((g - (g / 2 &&& 1431655765)) &&& 858993459) + ((g - (g / 2 &&& 1431655765)) / 4 &&& 858993459)) / 16) &&& 252645135) + (((((g - (g / 2 &&& 1431655765)) &&& 858993459) + ((g - (g / 2 &&& 1431655765)) / 4 &&& 858993459)) + (((g - (g / 2 &&& 1431655765)) &&& 858993459) + ((g - (g / 2 &&& 1431655765)) / 4 &&& 858993459)) / 16) &&& 252645135) / 256) / 65536) &&& 63
theorem pc_facts {g : Nat} (h : g < 65536) : bcN g = pc g ∧ (g = 0 ∨ pc (g &&& (g - 1)) + 1 = pc g) := by
  have := pchk_all h
  unfold pchk at this
  simp only [frc_eq] at this
  obtain ⟨h1, h2⟩ := (Bool.and_eq_true _ _).mp this
  refine ⟨Nat.eq_of_beq_eq_true h1, ?_⟩
  rcases (Bool.or_eq_true _ _).mp h2 with q | q
  · exact Or.inl (Nat.eq_of_beq_eq_true q)
  · exact Or.inr (Nat.eq_of_beq_eq_true q)
theorem ushr_l {n : Nat} (hn : n < 2 ^ 31) : ((nI n).toUInt32 >>> ((1 : Int32).toUInt32 &&& Int32.toUInt32 31)).toInt32 = nI (n / 2) ∧ ((nI n).toUInt32 >>> ((2 : Int32).toUInt32 &&& Int32.toUInt32 31)).toInt32 = nI (n / 4) ∧ ((nI n).toUInt32 >>> ((4 : Int32).toUInt32 &&& Int32.toUInt32 31)).toInt32 = nI (n / 16) ∧ ((nI n).toUInt32 >>> ((8 : Int32).toUInt32 &&& Int32.toUInt32 31)).toInt32 = nI (n / 256) ∧ ((nI n).toUInt32 >>> ((16 : Int32).toUInt32 &&& Int32.toUInt32 31)).toInt32 = nI (n / 65536) :=
  ⟨pk_ushrN (by omega) 1 1 (by decide), pk_ushrN (by omega) 2 2 (by decide), pk_ushrN (by omega) 4 4 (by decide), pk_ushrN (by omega) 8 8 (by decide), pk_ushrN (by omega) 16 16 (by decide)⟩
theorem and_l (n : Nat) : nI n &&& (1431655765 : Int32) = nI (n &&& 1431655765) ∧ nI n &&& (858993459 : Int32) = nI (n &&& 858993459) ∧ nI n &&& (252645135 : Int32) = nI (n &&& 252645135) ∧ nI n &&& (63 : Int32) = nI (n &&& 63) :=
  ⟨nx_and n 1431655765, nx_and n 858993459, nx_and n 252645135, nx_and n 63⟩
set_option maxRecDepth 20000 in
theorem bitCount_v {g : Nat} (h : g < 65536) : fJ6_bitCount_0f7a4 (nI g) = some (nI (pc g)) := by
  rw [← (pc_facts h).1]
  unfold fJ6_bitCount_0f7a4 bcN
  rw [(ushr_l (n := g) (by omega)).1, (and_l (g / 2)).1, pk_sub (show (g / 2 &&& 1431655765) ≤ g from Nat.le_trans Nat.and_le_left (Nat.div_le_self g 2))]
  have b1 : g - (g / 2 &&& 1431655765) < 65536 := by omega
  generalize g - (g / 2 &&& 1431655765) = i1 at b1 ⊢
  rw [(ushr_l (n := i1) (by omega)).2.1, (and_l i1).2.1, (and_l (i1 / 4)).2.1, nI_add]
  have c1 : i1 &&& 858993459 ≤ i1 := Nat.and_le_left
  have c2 : i1 / 4 &&& 858993459 ≤ i1 / 4 := Nat.and_le_left
  have b2 : (i1 &&& 858993459) + (i1 / 4 &&& 858993459) < 131072 := by omega
  generalize (i1 &&& 858993459) + (i1 / 4 &&& 858993459) = i2 at b2 ⊢
  rw [(ushr_l (n := i2) (by omega)).2.2.1, nI_add, (and_l (i2 + i2 / 16)).2.2.1]
  have c3 : (i2 + i2 / 16) &&& 252645135 ≤ i2 + i2 / 16 := Nat.and_le_left
  have b3 : (i2 + i2 / 16) &&& 252645135 < 262144 := by omega
  generalize (i2 + i2 / 16) &&& 252645135 = i3 at b3 ⊢
  rw [(ushr_l (n := i3) (by omega)).2.2.2.1, nI_add]
  have b4 : i3 + i3 / 256 < 524288 := by omega
  generalize i3 + i3 / 256 = i4 at b4 ⊢
  rw [(ushr_l (n := i4) (by omega)).2.2.2.2, nI_add, (and_l _).2.2.2]
theorem ones_loop : ∀ (f g c : Nat), pc g < f → g < 65536 → fX6_ones_h4 f (nI c) (nI g) = some (nI (c + pc g)) := by
  intro f
  induction f with
  | zero => intro g c h; omega
  | succ f ih =>
    intro g c hf hg
    show uX6_ones_h4 (fX6_ones_h4 f) (nI c) (nI g) = _
    unfold uX6_ones_h4
    by_cases h0 : g = 0
    · subst h0
      rw [if_pos (by decide)]
      rfl
    · rw [if_neg (nI_ne0 (by omega) (by omega))]
      rcases (pc_facts hg).2 with q | q
      · exact absurd q h0
      · have e1 : nI g - 1 = nI (g - 1) := by
          rw [show g = (g - 1) + 1 by omega, nI_pred]
          rfl
        have hle : g &&& (g - 1) ≤ g := Nat.and_le_left
        rw [e1, nx_and, nI_1, ih (g &&& (g - 1)) (c + 1) (by omega) (by omega), show c + 1 + pc (g &&& (g - 1)) = c + pc g by omega]
theorem ones_v {g : Nat} (h : g < 65536) : fX6_ones (nI g) = some (nI (pc g)) := by
  unfold fX6_ones
  have := ones_loop FU g 0 (by have := pc_le g; rw [FU_eq]; omega) h
  rw [Nat.zero_add] at this
  exact this
