/-! THE REFERENCE: what asks a row of numbers -/
theorem nM_lt {R : gW} {k : Nat} (hc : 0 ≤ R 3 ∧ R 3 ≤ 20) (hk : k < 2147483648) : iN k < R 3 ↔ k < nM R := by
  obtain ⟨h1, h2⟩ := nM_of hc
  have e : iN k < R 3 ↔ iN k < iN (nM R) := by rw [← h1]
  rw [e, iN_lt hk (by omega)]
theorem t20 {t : Int32} (h : 0 ≤ t ∧ t < 20) : t = iN t.toNatClampNeg ∧ t.toNatClampNeg < 20 := by
  obtain ⟨h1, h2⟩ := iN_of h.1
  refine ⟨h1, ?_⟩
  have h3 : iN t.toNatClampNeg < iN 20 := by rw [← h1]; exact h.2
  exact (iN_lt h2 (by decide)).mp h3
noncomputable def f165 : gD := fun Lv σ => match Lv with
  | [some (.ref p), some (.int x), none] => cond (Nat.beq p 324 || Nat.beq p 325 || Nat.beq p 326) (some (some (0 ≤ σ p 3 ∧ σ p 3 ≤ 20), some (.int (fWho (σ p) x)), σ)) none
  | _ => none
def kinP (R : gW) (t : Nat) (b : Int32) (o : Nat) : Bool := decide (o ≠ t ∧ 0 < fld R t 2 ∧ fld R o 2 = fld R t 2 ∧ fld R o 0 / 8 = b)
def kin (R : gW) (t : Nat) (b : Int32) : Int32 := iN (cnt (kinP R t b) (nM R))
noncomputable def f168 : gD := fun Lv σ => match Lv with
  | [some (.ref p), some (.int t), some (.int b), none, none, none] => cond (Nat.beq p 324 || Nat.beq p 325 || Nat.beq p 326) (some (some ((0 ≤ t ∧ t < 20) ∧ 0 ≤ σ p 3 ∧ σ p 3 ≤ 20), some (.int (kin (σ p) t.toNatClampNeg b)), σ)) none
  | _ => none
/-! THE REFERENCE: joys, reasons, rises -/
abbrev isWin (x : Int32) : Prop := x - x / 4 * 4 = 0 ∨ x - x / 4 * 4 = 3
abbrev isFwd (x : Int32) : Prop := x - x / 2 * 2 = 1
noncomputable def f162 : gD := fun Lv σ => match Lv with
  | [some (.int x)] => some (none, some (.int (bI (isWin x))), σ)
  | _ => none
noncomputable def f163 : gD := fun Lv σ => match Lv with
  | [some (.int x)] => some (none, some (.int (bI (isFwd x))), σ)
  | _ => none
noncomputable def f164 : gD := fun Lv σ => match Lv with
  | [some (.ref p)] => cond (Nat.beq p 324 || Nat.beq p 325 || Nat.beq p 326) (some (none, some (.int ((σ p 0 + 1) / 2)), σ)) none
  | _ => none
noncomputable def f166 : gD := fun Lv σ => match Lv with
  | [some (.int k), some (.int x), some (.int f)] => some (none, some (.int (bI (k = 1 ∨ f ≤ x / 4))), σ)
  | _ => none
noncomputable def gpfB_l : List (Nat × gD) := gpfA_l
noncomputable def gpfB : gP := gpl0 gpfB_l
theorem gpfB_ok : gPok gpfB := gpfA_ok
abbrev fMay (R : gW) (t : Nat) (x : Int32) : Prop := fld R t 1 = 1 ∨ R 1 ≤ x / 4
def fJoy (R : gW) (t : Nat) (x : Int32) : Int32 := 4 * kin R t (x / 8) + (if isWin x then fld R t 3 else 0) + (if isFwd (x / 4) then fld R t 4 else 0) - fld R t 6 * (if x / 4 - fld R t 5 < 0 then -(x / 4 - fld R t 5) else x / 4 - fld R t 5)
def fJo (R : gW) (t : Nat) : Int32 := fJoy R t (fld R t 0)
noncomputable def f167 : gD := fun Lv σ => match Lv with
  | [some (.ref p), some (.int t), some (.int x)] => cond (Nat.beq p 324 || Nat.beq p 325 || Nat.beq p 326) (some (some (0 ≤ t ∧ t < 20), some (.int (bI (fMay (σ p) t.toNatClampNeg x))), σ)) none
  | _ => none
noncomputable def f169 : gD := fun Lv σ => match Lv with
  | [some (.ref p), some (.int t), some (.int x), none, none] => cond (Nat.beq p 324 || Nat.beq p 325 || Nat.beq p 326) (some (some ((0 ≤ t ∧ t < 20) ∧ 0 ≤ σ p 3 ∧ σ p 3 ≤ 20), some (.int (fJoy (σ p) t.toNatClampNeg x)), σ)) none
  | _ => none
