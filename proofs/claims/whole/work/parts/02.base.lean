/-! own words: checks, steps of an Option, what a method that only reads, or writes, says -/
def FU : Nat := 70000
def inB (i : Int32) (n : Nat) : Bool := decide (0 ≤ i.toInt ∧ i.toInt < (n : Int))
theorem inB_in {i : Int32} {n : Nat} (h : inB i n = true) : vp_in i n := vp_in_iff.mpr (of_decide_eq_true h)
def is01 (v : Int32) : Bool := decide (v = 0 ∨ v = 1)
def ck {α : Type} (b : Bool) (x : Option α) : Option α := if b = true then x else none
theorem ckE {α : Type} {b : Bool} {x : Option α} {o : α} {P : Prop} (h : ck b x = some o) (k : b = true → x = some o → P) : P := by
  unfold ck at h
  by_cases hb : b = true
  · rw [if_pos hb] at h; exact k hb h
  · rw [if_neg hb] at h; cases h
theorem ifp {α : Type} {c : Prop} [Decidable c] {X Y : Option α} {o : α} (h : (if c then X else Y) = some o) (hc : c) : X = some o := by
  rw [if_pos hc] at h; exact h
theorem ifn {α : Type} {c : Prop} [Decidable c] {X Y : Option α} {o : α} (h : (if c then X else Y) = some o) (hc : ¬ c) : Y = some o := by
  rw [if_neg hc] at h; exact h
theorem ifnp {α : Type} {c : Prop} [Decidable c] {X Y : Option α} {o : α} (h : (if ¬ c then X else Y) = some o) (hc : c) : Y = some o := by
  rw [if_neg (fun q => q hc)] at h; exact h
theorem bnd {α β : Type} {x : Option α} {g : α → Option β} {o : β} {P : Prop} (h : x.bind g = some o) (k : ∀ a, x = some a → g a = some o → P) : P := by
  cases x with
  | none => cases h
  | some a => exact k a rfl h
def nW : List Cond := [.methodLinkNest "BlockMarker" 9 yX1_init "BlockMarker", .fieldLinkNest "BlockMarker" 57 "BlockMarker$Lines" "many" "I" "BlockMarker", .fieldLinkNest "BlockMarker" 61 "BlockMarker$Model" "length" "I" "BlockMarker", .fieldLinkNest "BlockMarker$Marking" 106 "BlockMarker$Model" "length" "I" "BlockMarker", .methodLinkNest "BlockMarker" 25 yX0_init "BlockMarker", .fieldLinkNest "BlockMarker$Marking" 69 "BlockMarker$Answer" "length" "I" "BlockMarker", .fieldLinkNest "BlockMarker" 87 "BlockMarker$Answer" "length" "I" "BlockMarker", .fieldLinkNest "BlockMarker$Model" 68 "BlockMarker$Answer" "length" "I" "BlockMarker", .fieldLinkNest "BlockMarker" 155 "BlockMarker$Marking" "changes" "I" "BlockMarker", .fieldLinkNest "BlockMarker" 161 "BlockMarker$Marking" "hintChange" "I" "BlockMarker", .fieldLinkNest "BlockMarker" 164 "BlockMarker$Marking" "hintLine" "I" "BlockMarker", .fieldLinkNest "BlockMarker" 167 "BlockMarker$Marking" "hintPlace" "I" "BlockMarker", .methodLinkNest "BlockMarker" 46 yX2_init "BlockMarker", .fieldLinkNest "BlockMarker" 139 "BlockMarker$Machine" "manyPrints" "I" "BlockMarker"]
def nNest : Cond → Bool
  | .fieldLinkNest .. => true
  | .methodLinkNest .. => true
  | _ => false
theorem nW_nest : ∀ w ∈ nW, nNest w = true := by decide +kernel
theorem nW_tbl : ∀ w ∈ nW, w ∈ tables_1 := by decide +kernel
theorem nNest_tables {w : Cond} (h : nNest w = true) : w.onTables = true := by
  cases w <;> first | rfl | (cases h)
theorem nNest_warm {w : Cond} (h : nNest w = true) {s U : State} (hW : s.WarmedH U.vm) (hZ : va_Nw w s) : va_Nw w U := by
  cases w <;> first | exact va_Nw.warmF hW hZ | exact va_Nw.warmM hW hZ | (cases h)
abbrev tyT : Type := List (ClassId × FieldType)
def kK (D : va_G) (tys : tyT) (U : State) : Prop := va_K D vwCl tys U ∧ ∀ w ∈ nW, va_Nw w U
theorem kK.warm {D : va_G} {tys : tyT} {s U : State} (h : kK D tys s) (hW : s.WarmedH U.vm) : kK D tys U := ⟨va_K.moved hW.alike h.1, fun w hw => nNest_warm (nW_nest w hw) hW (h.2 w hw)⟩
theorem kK.calling {D : va_G} {tys : tyT} {U : State} (h : kK D tys U) (g : JFrame) (mk : MethodId) (a : Array Value) : kK D tys (U.calling g mk a) := ⟨va_K.moved (u := U) (U := U.calling g mk a) (Vm.Alike.refl U.vm) h.1, fun w hw => va_Nw.same (u := U) (U := U.calling g mk a) (nNest_tables (nW_nest w hw)) rfl (h.2 w hw)⟩
abbrev tyL (cI cJ cG : ClassId) : tyT := [(cI, .int), (cJ, .long), (cG, .array .int)]
/-- a method that only reads: the heap is the same -/
def rP (D : va_G) (tys : tyT) (cw : va_W) (Hs : Heap) (U : State) : Prop := U.heap = Hs ∧ va_P D vwCl cw Hs ∧ kK D tys U
abbrev rQi (r : Int32) (Hs : Heap) : Array Value → State → Outcome → State → Prop := va_Qi (S := Unit) (fun r' _ => r' = r) (fun _ t => t.heap = Hs) (fun _ => False)
abbrev rQl (r : Int64) (Hs : Heap) : Array Value → State → Outcome → State → Prop := va_Ql (S := Unit) (fun r' _ => r' = r) (fun _ t => t.heap = Hs) (fun _ => False)
/-- a method that writes: its cells cw become cw' -/
def wP (D : va_G) (tys : tyT) (cw : va_W) (sz : Nat) (U : State) : Prop := U.heap.size = sz ∧ va_P D vwCl cw U.heap ∧ kK D tys U ∧ va_D (fun _ => True) cw
abbrev wB (D : va_G) (cw cw' : va_W) (sz : Nat) (t : State) : Prop := va_P D vwCl cw' t.heap ∧ va_D (va_A cw sz) cw'
abbrev wQi (D : va_G) (r : Int32) (cw cw' : va_W) (sz : Nat) : Array Value → State → Outcome → State → Prop := va_Qi (S := Unit) (fun r' _ => r' = r) (fun _ t => wB D cw cw' sz t) (va_A cw sz)
abbrev wQl (D : va_G) (r : Int64) (cw cw' : va_W) (sz : Nat) : Array Value → State → Outcome → State → Prop := va_Ql (S := Unit) (fun r' _ => r' = r) (fun _ t => wB D cw cw' sz t) (va_A cw sz)
abbrev wQv (D : va_G) (cw cw' : va_W) (sz : Nat) : Array Value → State → Outcome → State → Prop := va_Qv (S := Unit) (fun _ => True) (fun _ t => wB D cw cw' sz t) (va_A cw sz)
theorem rBlind {av : List Value} {D : va_G} {tys : tyT} {cw : va_W} {Hs : Heap} : FrameBlind (va_Pc av (rP D tys cw Hs)) := fun a U g mk q => ⟨q.1, q.2.1, q.2.2.1, q.2.2.2.calling g mk a⟩
theorem wBlind {av : List Value} {D : va_G} {tys : tyT} {cw : va_W} {sz : Nat} : FrameBlind (va_Pc av (wP D tys cw sz)) := fun a U g mk q => ⟨q.1, q.2.1, q.2.2.1, q.2.2.2.1.calling g mk a, q.2.2.2.2⟩
