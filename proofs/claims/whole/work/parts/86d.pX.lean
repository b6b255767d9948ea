/-! the calls that deal out: line, decoy, wrong, input, wipe -/
theorem jm_congr {T T' : Nat → Bool} {a a' : Nat → Int32} : ∀ q, (∀ r, r < q → T r = T' r ∧ a r = a' r) → jm T a q = jm T' a' q
  | 0, _ => rfl
  | q + 1, h => by
    show (if T q = true then jm T a q ||| (a q ||| nI (2 ^ q)) else jm T a q) = (if T' q = true then jm T' a' q ||| (a' q ||| nI (2 ^ q)) else jm T' a' q)
    rw [jm_congr q (fun r hr => h r (by omega)), (h q (by omega)).1, (h q (by omega)).2]
theorem bacc_congrT {T T' : Nat → Bool} {b : Nat → Int32} : ∀ (d q : Nat) (acc : Int32), (∀ j, q ≤ j → j < q + d → T j = T' j) → bacc T b acc q d = bacc T' b acc q d
  | 0, _, _, _ => rfl
  | d + 1, q, acc, h => by
    show bacc T b (if T q = true then acc ||| (nI (2 ^ q) ||| b q) else acc) (q + 1) d = bacc T' b (if T' q = true then acc ||| (nI (2 ^ q) ||| b q) else acc) (q + 1) d
    rw [h q (by omega) (by omega)]
    exact bacc_congrT d (q + 1) _ (fun j h1 h2 => h j (by omega) (by omega))
theorem tB_congr {kd vs ws kd' vs' ws' : Nat → Int32} {a b : Nat} (ha : kd a = kd' a ∧ vs a = vs' a ∧ ws a = ws' a) (hb : kd b = kd' b ∧ vs b = vs' b ∧ ws b = ws' b) : tB kd vs ws a b = tB kd' vs' ws' a b := by
  unfold tB
  rw [ha.1, ha.2.1, ha.2.2, hb.1, hb.2.1, hb.2.2]
def TT (kd vs ws num : Nat → Int32) : Nat → Nat → Bool := fun r q => tB kd vs ws (num r).toNatClampNeg (num q).toNatClampNeg
def LinesOK (n k : Nat) (kd vs ws rl mt : Nat → Int32) (wc : Int32) (num mr fr ah mw be bf : Nat → Int32) (wy : Nat → Int64) : Prop :=
  n ≤ 16 ∧ k ≤ 12 ∧ (∀ l, l < n → okLine (kd l) (vs l) (ws l)) ∧ RkOK n k rl mr fr num ∧ (∀ l, n ≤ l → l < 16 → mr l = -1) ∧ NumOK n k rl mr num ∧ MtOK n rl mt ∧ AhOK (TT kd vs ws num) k ah ∧ BehOK (TT kd vs ws num) k 0 be ∧ (∀ r, r < k → bf r = ah r) ∧ (∀ p, p < 2 ^ k → wy p = lN (wT ah k p)) ∧ WcOK ah k wc mw
section LINES
variable {n k a : Nat} {kd vs ws rl mt mr fr num ah mw be bf : Nat → Int32} {wy : Nat → Int64} {wc : Int32}
theorem num_ln (hn : n ≤ 16) (h : NumOK n k rl mr num) : ∀ r, r < k → num r = nI (num r).toNatClampNeg ∧ (num r).toNatClampNeg < n := by
  intro r hr
  obtain ⟨l, h1, h2, _⟩ := h r hr
  rw [h2, nI_clamp (by omega)]
  exact ⟨rfl, h1⟩
theorem lines_env (h : LinesOK n k kd vs ws rl mt wc num mr fr ah mw be bf wy) : EnvOK n k rl mt mr fr num ah be := by
  obtain ⟨hn, hk, h1, h2, h3, h4, h5, h6, h7, h8, h9, h10⟩ := h
  exact ⟨hn, hk, h2, h4, h5, fun q r hq hr => ah_is_be hk h6 h7 hr hq⟩
theorem lines_low (h : LinesOK n k kd vs ws rl mt wc num mr fr ah mw be bf wy) : Low k ah ∧ Low k be := by
  obtain ⟨hn, hk, h1, h2, h3, h4, h5, h6, h7, h8, h9, h10⟩ := h
  refine ⟨fun r hr i hi h32 => ?_, fun r hr i hi h32 => ?_⟩
  · cases hb : bt (ah r) i
    · rfl
    · have := ah_up hk h6 r hr i h32 hb
      omega
  · cases hb : bt (be r) i
    · rfl
    · have := be_up hk h7 (k - r) r (by omega) i h32 hr hb
      omega
theorem lines_wc {wc' : Int32} {mw' : Nat → Int32} (h : LinesOK n k kd vs ws rl mt wc num mr fr ah mw be bf wy) (hw : WcOK ah k wc' mw') : LinesOK n k kd vs ws rl mt wc' num mr fr ah mw' be bf wy := by
  obtain ⟨hn, hk, h1, h2, h3, h4, h5, h6, h7, h8, h9, h10⟩ := h
  exact ⟨hn, hk, h1, h2, h3, h4, h5, h6, h7, h8, h9, hw⟩
theorem ok_upd {x y z : Int32} (h : ∀ l, l < n → okLine (kd l) (vs l) (ws l)) (hx : okLine x y z) : ∀ l, l < n + 1 → okLine (upd kd n x l) (upd vs n y l) (upd ws n z l) := by
  intro l hl
  by_cases e : l = n
  · subst e
    rw [upd_s, upd_s, upd_s]; exact hx
  · rw [upd_n e, upd_n e, upd_n e]; exact h l (by omega)
theorem TT_upd {x y z : Int32} {num' : Nat → Int32} (hln : ∀ r, r < k → num r = nI (num r).toNatClampNeg ∧ (num r).toNatClampNeg < n) (hnum : ∀ r, r < k → num' r = num r) {r q : Nat} (hr : r < k) (hq : q < k) : TT kd vs ws num r q = TT (upd kd n x) (upd vs n y) (upd ws n z) num' r q := by
  unfold TT
  rw [hnum r hr, hnum q hq]
  have h1 := (hln r hr).2
  have h2 := (hln q hq).2
  exact tB_congr ⟨(upd_n (by omega)).symm, (upd_n (by omega)).symm, (upd_n (by omega)).symm⟩ ⟨(upd_n (by omega)).symm, (upd_n (by omega)).symm, (upd_n (by omega)).symm⟩
/-- one more line that is not of the model -/
theorem lines_add {x y z c : Int32} {mt' : Nat → Int32} (h : LinesOK n k kd vs ws rl mt wc num mr fr ah mw be bf wy) (hn16 : n < 16) (hx : okLine x y z) (hc : ¬ c = 0) (hmt : MtOK (n + 1) (upd rl n c) mt') : LinesOK (n + 1) k (upd kd n x) (upd vs n y) (upd ws n z) (upd rl n c) mt' wc num mr fr ah mw be bf wy := by
  obtain ⟨hn, hk, h1, h2, h3, h4, h5, h6, h7, h8, h9, h10⟩ := h
  have hln := num_ln hn h4
  refine ⟨by omega, hk, ok_upd h1 hx, fun l hl => ?_, fun l h1 h2 => h3 l (by omega) h2, fun r hr => ?_, hmt, fun q hq => ?_, fun r h0 hr => ?_, h8, h9, h10⟩
  · by_cases e : l = n
    · subst e
      rw [upd_s]
      exact Or.inr ⟨hc, h3 l (by omega) hn16⟩
    · rw [upd_n e]; exact h2 l (by omega)
  · obtain ⟨l, q1, q2, q3, q4⟩ := h4 r hr
    exact ⟨l, by omega, q2, by rw [upd_n (by omega)]; exact q3, q4⟩
  · exact (h6 q hq).trans (jm_congr (T := fun r => TT kd vs ws num r q) (T' := fun r => TT (upd kd n x) (upd vs n y) (upd ws n z) num r q) (a := ah) (a' := ah) q (fun r hr => ⟨TT_upd hln (fun _ _ => rfl) (by omega) hq, rfl⟩))
  · exact (h7 r h0 hr).trans (bacc_congrT (T := TT kd vs ws num r) (T' := TT (upd kd n x) (upd vs n y) (upd ws n z) num r) (b := be) (k - 1 - r) (r + 1) 0 (fun j j1 j2 => TT_upd hln (fun _ _ => rfl) hr (by omega)))
end LINES
