/-! THE REFERENCE: the plan is written -/
noncomputable def sgr (R : gW) (x : Int32) : Int32 := if fWho R x < 0 then 46 else iN (lOf (R (9 + 10 * (fWho R x).toNatClampNeg + 9)) 0) + (if fJo R (fWho R x).toNatClampNeg < 0 then 64 else 96)
noncomputable def plr (R : gW) (r c : Nat) : Int32 := if c = 0 then (if iN r < R 1 then 61 else 45) else if c = 1 then (if isFwd (iN r) then 62 else 60) else if c = 6 then 10 else sgr R (4 * iN r + iN (c - 2))
noncomputable def plB (R : gW) (j : Nat) : Int32 := plr R (j / 7) (j % 7)
/-- w bytes of the plan are written -/
noncomputable def Wp (σ : gS) (w : Nat) (τ : gS) : Prop := Wf σ τ ∧ τ 323 17 = iN w ∧ ∀ j, j < w → τ 331 j = plB (σ 324) j
theorem plB_at {R : gW} {r c : Nat} (hc : c < 7) : plB R (7 * r + c) = plr R r c := by
  unfold plB
  rw [show (7 * r + c) / 7 = r by omega, show (7 * r + c) % 7 = c by omega]
/-- the reference's byte of the plan -/
noncomputable def rPb (R : gW) (i : Int32) : Int32 := if i < 0 then -1 else if i < R 0 * 7 then plB R i.toNatClampNeg else -2
