-- text 81
/-! THE CLASS: a traveller is read -/
theorem RK_cg {σ τ : gS} (h : RK σ) (h1 : τ 1 = σ 1) (h2 : τ 2 = σ 2) (h3 : τ 3 = σ 3) : RK τ := by
  unfold RK RW RD at *
  rw [h1, h2, h3]
  exact h
theorem RK_4 {σ : gS} {j : Nat} {x : Int32} (h : RK σ) : RK (gup σ 4 j x) := RK_cg h (funext fun i => gup_ne (by omega)) (funext fun i => gup_ne (by omega)) (funext fun i => gup_ne (by omega))
theorem cPs_far {σ : gS} {c : Int32} {q : Nat} (h : ¬ q = 1) : cPs σ c q = σ q := by
  funext j
  unfold cPs
  split
  · exact cTok_ne (by omega)
  · exact gup_ne (by omega)
theorem cInt_far {σ : gS} {a b : Int32} {q : Nat} (h : ¬ q = 1) : cInt σ a b q = σ q := cPs_far h
theorem cWd_k {σ : gS} {B : List Int32} (h : RK σ) (hw : cWd σ B) : RD σ := h.1.1.2 (by rw [hw.1]; decide)
/-- the seat's word; the seat; the name -/
def rA (σ : gS) : gS := cPs (cZr σ 4) (bI (cWd (cZr σ 4) (jW 1000003)))
def rB (σ : gS) : gS := gup (cInt (cFs σ) 0 (σ 32 4 * 4 - 1)) 4 1 (cNu (cFs σ))
def rC (σ : gS) : gS := gup (cPs σ (bI (cNm σ))) 4 0 (cPk (σ 3) (σ 2 1).toNatClampNeg (σ 1 2).toNatClampNeg (min ((σ 1 3).toNatClampNeg - (σ 1 2).toNatClampNeg) 5))
/-- what may stand -/
abbrev rTh (σ : gS) (p : Nat) : Prop := σ 1 5 = 0 ∧ cWd σ (jW p)
def rT (σ : gS) : gS := if rTh σ 1000004 then gup (cTok σ) 4 2 1 else σ
def rF (σ : gS) : gS := if rTh σ 1000005 then gup (cInt (cTok σ) 1 9) 4 3 (cNu (cTok σ)) else σ
def rW (σ : gS) : gS := if rTh σ 1000006 then gup (cInt (cLkH (cTok σ)) 0 9) 4 4 (cLik (cTok σ)) else σ
def rAh (σ : gS) : gS := if rTh σ 1000007 then gup (cInt (cLkH (cTok σ)) 0 9) 4 5 (cLik (cTok σ)) else σ
def rR1 (σ : gS) : gS := gup (cInt (cTok σ) 0 (σ 32 4 - 1)) 4 6 (cNu (cTok σ))
def rR (σ : gS) : gS := if rTh σ 1000008 then gup (cInt (rR1 σ) 0 3) 4 7 (cNu (rR1 σ)) else σ
def rS (σ : gS) : gS := if rTh σ 1000009 then gup (cInt (cTok σ) 0 99) 4 8 (cNu (cTok σ)) else σ
def rP (σ : gS) : gS := if rTh σ 1000010 then gup (cInt (cTok σ) 1 99) 4 9 (cNu (cTok σ)) else σ
theorem z00 : (0 : Int32) ≤ 0 := by decide
theorem z01 : (0 : Int32) ≤ 1 := by decide
theorem rA_RK {σ : gS} (h : RK σ) : RK (rA σ) := by
  have h0 : RK (cZr σ 4) := RK_cg h (cZr_ne (by decide)) (cZr_ne (by decide)) (cZr_ne (by decide))
  refine cPs_RK h0 (fun q => ?_)
  have q : cWd (cZr σ 4) (jW 1000003) := Decidable.not_not.mp (fun z => q (bI_0.mpr z))
  rw [q.1]
  decide
theorem rB_RK {σ : gS} (h : RK σ) : RK (rB σ) := RK_4 (cInt_RK (cFs_RK h) z00)
theorem rC_RK {σ : gS} (h : RK σ) : RK (rC σ) := by
  refine RK_4 (cPs_RK h (fun q => ?_))
  have q : cNm σ := Decidable.not_not.mp (fun z => q (bI_0.mpr z))
  rw [q.1]
  decide
theorem rT_RK {σ : gS} (h : RK σ) : RK (rT σ) := by
  unfold rT
  split
  · rename_i q; exact RK_4 (cTok_RK (cWd_k h q.2))
  · exact h
theorem rF_RK {σ : gS} (h : RK σ) : RK (rF σ) := by
  unfold rF
  split
  · rename_i q; exact RK_4 (cInt_RK (cTok_RK (cWd_k h q.2)) z01)
  · exact h
theorem rW_RK {σ : gS} (h : RK σ) : RK (rW σ) := by
  unfold rW
  split
  · rename_i q; exact RK_4 (cInt_RK (cLkH_RK (cTok_RK (cWd_k h q.2))) z00)
  · exact h
theorem rAh_RK {σ : gS} (h : RK σ) : RK (rAh σ) := by
  unfold rAh
  split
  · rename_i q; exact RK_4 (cInt_RK (cLkH_RK (cTok_RK (cWd_k h q.2))) z00)
  · exact h
theorem rR1_RK {σ : gS} (h : RD σ) : RK (rR1 σ) := RK_4 (cInt_RK (cTok_RK h) z00)
theorem rR_RK {σ : gS} (h : RK σ) : RK (rR σ) := by
  unfold rR
  split
  · rename_i q; exact RK_4 (cInt_RK (rR1_RK (cWd_k h q.2)) z00)
  · exact h
theorem rS_RK {σ : gS} (h : RK σ) : RK (rS σ) := by
  unfold rS
  split
  · rename_i q; exact RK_4 (cInt_RK (cTok_RK (cWd_k h q.2)) z00)
  · exact h
theorem rP_RK {σ : gS} (h : RK σ) : RK (rP σ) := by
  unfold rP
  split
  · rename_i q; exact RK_4 (cInt_RK (cTok_RK (cWd_k h q.2)) z01)
  · exact h
