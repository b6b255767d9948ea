/-! counting bits, by program -/
def pcA : Nat → Nat → Nat
  | 0, _ => 0
  | d + 1, g => g % 2 + pcA d (g / 2)
def frc (n : Nat) (f : Nat → Bool) : Bool := Nat.rec (motive := fun _ => Bool) (f 0) (fun m _ => f (Nat.succ m)) n
def pchk : Nat → Nat → Bool
  | 0, b => frc b fun g => frc (pcA 16 g) fun c => frc (g - (g / 2 &&& 1431655765)) fun i1 => frc ((i1 &&& 858993459) + (i1 / 4 &&& 858993459)) fun i2 => frc ((i2 + i2 / 16) &&& 252645135) fun i3 => frc (i3 + i3 / 256) fun i4 => frc (i4 + i4 / 65536) fun i5 => Nat.beq (i5 &&& 63) c && (Nat.beq g 0 || Nat.beq (pcA 16 (g &&& (g - 1)) + 1) c)
  | d + 1, b => pchk d b && pchk d (b + 2 ^ d)
theorem pchk_0 : pchk 14 0 = true := by decide +kernel
theorem pchk_1 : pchk 14 16384 = true := by decide +kernel
theorem pchk_2 : pchk 14 32768 = true := by decide +kernel
theorem pchk_3 : pchk 14 49152 = true := by decide +kernel
theorem pchk_at : ∀ (d b g : Nat), pchk d b = true → b ≤ g → g < b + 2 ^ d → pchk 0 g = true
  | 0, b, g, h, h1, h2 => by
    obtain rfl : g = b := by omega
    exact h
  | d + 1, b, g, h, h1, h2 => by
    have h' : (pchk d b && pchk d (b + 2 ^ d)) = true := h
    obtain ⟨g1, g2⟩ := (Bool.and_eq_true _ _).mp h'
    by_cases q : g < b + 2 ^ d
    · exact pchk_at d b g g1 h1 q
    · exact pchk_at d (b + 2 ^ d) g g2 (by omega) (by rw [Nat.pow_succ] at h2; omega)
theorem pchk_all {g : Nat} (h : g < 65536) : pchk 0 g = true := by
  by_cases h1 : g < 16384
  · exact pchk_at 14 0 g pchk_0 (by omega) (by omega)
  by_cases h2 : g < 32768
  · exact pchk_at 14 16384 g pchk_1 (by omega) (by omega)
  by_cases h3 : g < 49152
  · exact pchk_at 14 32768 g pchk_2 (by omega) (by omega)
  · exact pchk_at 14 49152 g pchk_3 (by omega) (by omega)
