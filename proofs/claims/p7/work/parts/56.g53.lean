-- text 53
/-! THE CLASS: the name on the tape, a new traveller -/
/-- a traveller as it begins -/
def cZr (σ : gS) (w : Nat) : gS := fun q j => if q = w ∧ j < 9 then 0 else if q = w ∧ j = 9 then 99 else σ q j
def cAdm (σ : gS) (p w : Nat) : gS := gup (cCnt (cTv σ (p + 2 + (σ p 7).toNatClampNeg) w) p w 1) p 7 (σ p 7 + 1)
theorem cBeg_ne {σ : gS} {q : Nat} (h : ¬ q = 1) : cBeg σ q = σ q := by
  funext j
  unfold cBeg cTok cTk4
  rw [gup_ne (by omega), gup_ne (by omega), gup_ne (by omega), gup_ne (by omega), gup_ne (by omega)]
theorem cBeg_1 {σ : gS} : cBeg σ 1 2 = iN (tkS (σ 3) (σ 2 1).toNatClampNeg 0) ∧ cBeg σ 1 3 = iN (tkE (σ 3) (σ 2 1).toNatClampNeg 0) ∧ cBeg σ 1 4 = tkK (σ 3) (σ 2 1).toNatClampNeg 0 := by
  have e2 : gup (gup σ 1 5 0) 1 3 0 2 1 = σ 2 1 := by rw [gup_ne (by omega), gup_ne (by omega)]
  have e3 : gup (gup σ 1 5 0) 1 3 0 3 = σ 3 := funext fun j => by rw [gup_ne (by omega), gup_ne (by omega)]
  have e1 : (gup (gup σ 1 5 0) 1 3 0 1 3).toNatClampNeg = 0 := by rw [gup_at]; rfl
  unfold cBeg cTok
  rw [e1, e2, e3]
  unfold cTk4
  refine ⟨?_, gup_at _ _ _, ?_⟩
  · rw [gup_ne (by omega), gup_ne (by omega), gup_at]
  · rw [gup_ne (by omega), gup_at]
theorem tkS_b {T : gW} {L n : Nat} (h : n ≤ L) : n ≤ tkS T L n ∧ tkS T L n ≤ L := by
  have := skp_b (P := fun i => decide (cKd (T i) = 1)) (d := L - n) (s := n)
  unfold tkS
  omega
