noncomputable def gpdl_l : List (Nat × gD) := (102, f102) :: (62, f62) :: (29, f29) :: (30, f30) :: gpdk_l
noncomputable def gpdl : gP := gpl0 gpdl_l
theorem gpdl_ok : gPok gpdl := gpl0_cons ok102 (gpl0_cons ok62 (gpl0_cons ok29 (gpl0_cons ok30 (gpdk_ok))))
-- text 54
/-! THE CLASS: come -/
/-- the guest's numbers -/
def cGue (σ : gS) (x k f w s : Int32) : gS := gup (gup (gup (gup (gup (gup (cBeg σ) 58 0 (cNam σ)) 58 1 x) 58 2 k) 58 3 f) 58 8 w) 58 9 s
def cGu0 (σ : gS) (x k f w s : Int32) : gS := cGue (cZr (cRem (cBeg σ)) 58) x k f w s
def cCom (σ : gS) (x k f w s : Int32) : gS := gup (cAdd (cAdm (cGu0 σ x k f w s) 6 58) 0 (σ 6 7) x) 2 1 0
theorem cGue_ne {σ : gS} {x k f w s : Int32} {q : Nat} (h : ¬ q = 58) (h1 : ¬ q = 1) : cGue σ x k f w s q = σ q := by
  funext j
  unfold cGue
  rw [gup_ne (by omega), gup_ne (by omega), gup_ne (by omega), gup_ne (by omega), gup_ne (by omega), gup_ne (by omega), cBeg_ne h1]
theorem cZr_ne {σ : gS} {w q : Nat} (h : ¬ q = w) : cZr σ w q = σ q := by
  funext j
  unfold cZr
  rw [if_neg (by omega), if_neg (by omega)]
theorem cGu0_ne {σ : gS} {x k f w s : Int32} {q : Nat} (h7 : 0 ≤ σ 6 7 ∧ σ 6 7 ≤ 20) (h : q < 113) (h2 : ¬ q = 58) (h1 : ¬ q = 1) : cGu0 σ x k f w s q = σ q := by
  unfold cGu0
  rw [cGue_ne h2 h1, cZr_ne h2, cRem_far (Or.inl h) (by rw [cBeg_ne (by decide)]; exact h7), cBeg_ne h1]
