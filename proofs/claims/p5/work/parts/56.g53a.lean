noncomputable def f62 : gD := fun Lv σ => match Lv with
  | [some (.ref p), some (.ref w)] => cond (Nat.beq p 6 || Nat.beq p 32) (some (some ((0 ≤ σ p 7 ∧ σ p 7 < 20) ∧ gTv w), none, cAdm σ p w)) none
  | _ => none
theorem ok62 : gFok 62 f62 := by
  intro Lv σ q h hc K hK
  unfold f62 at h
  split at h
  · rename_i p w
    obtain ⟨hb, h⟩ := c_no h
    have hb0 := hb
    rcases s_or hb0 with hb0 | hb0
    · have e := b_eq hb0
      subst e
      cases h
      exact s62_6 (hc _ rfl) hK
    · have e := b_eq hb0
      subst e
      cases h
      exact s62_32 (hc _ rfl) hK
  · cases h
set_option maxRecDepth 20000 in
theorem w29 {σ : gS} {K : gK} (h : (0 ≤ σ 2 1 ∧ σ 2 1 ≤ 1000) ∧ ((¬ ((cBeg σ) 1 2) = 0 → ((0 : Int32) = 0 ∨ (0 : Int32) = 1) ∧ K (some (.int 0)) (cBeg σ)) ∧ (((cBeg σ) 1 2) = 0 → ((¬ ((cBeg σ) 1 3) = ((cBeg σ) 2 1) → ((0 : Int32) = 0 ∨ (0 : Int32) = 1) ∧ K (some (.int 0)) (cBeg σ)) ∧ (((cBeg σ) 1 3) = ((cBeg σ) 2 1) → (RW (cBeg σ)) ∧ (((bI (cNm (cBeg σ))) = 0 → ((0 : Int32) = 0 ∨ (0 : Int32) = 1) ∧ K (some (.int 0)) (cBeg σ)) ∧ (¬ (bI (cNm (cBeg σ))) = 0 → ((1 : Int32) = 0 ∨ (1 : Int32) = 1) ∧ K (some (.int 1)) (cBeg σ)))))))) : gE 29 0 [some (.ref 1)] [] σ K :=
  gw_run (cy := 29) (cuts := []) (inl := []) (pf := gpdk) gpdk_ok 400 (by decide) h
theorem s29 {σ : gS} {K : gK} (hc : 0 ≤ σ 2 1 ∧ σ 2 1 ≤ 1000) (hK : K (some (.int (bI (cTN σ)))) (cBeg σ)) : gE 29 0 [some (.ref 1)] [] σ K := by
  obtain ⟨hr, hE⟩ := cBeg_RW hc
  have yes : cTN σ → ((1 : Int32) = 0 ∨ (1 : Int32) = 1) ∧ K (some (.int 1)) (cBeg σ) := fun h => ⟨Or.inr rfl, by rw [bI_y h] at hK; exact hK⟩
  have no : ¬ cTN σ → ((0 : Int32) = 0 ∨ (0 : Int32) = 1) ∧ K (some (.int 0)) (cBeg σ) := fun h => ⟨Or.inl rfl, by rw [bI_n h] at hK; exact hK⟩
  refine w29 ⟨hc, ?_⟩
  exact ⟨fun h => no (fun q => h q.1), fun h => ⟨fun h2 => no (fun q => h2 q.2.1), fun h2 => ⟨hr, fun h3 => no (fun q => bI_0.mp h3 q.2.2), fun h3 => yes ⟨h, h2, Decidable.not_not.mp (fun q => h3 (bI_0.mpr q))⟩⟩⟩⟩
noncomputable def f29 : gD := fun Lv σ => match Lv with
  | [some (.ref q0)] => cond (Nat.beq q0 1) (some (some (0 ≤ σ 2 1 ∧ σ 2 1 ≤ 1000), some (.int (bI (cTN σ))), cBeg σ)) none
  | _ => none
theorem ok29 : gFok 29 f29 := by
  intro Lv σ q h hc K hK
  unfold f29 at h
  split at h
  · rename_i q0
    obtain ⟨hb, h⟩ := c_no h
    have hb0 := hb
    have e0 := b_eq hb0
    subst e0
    cases h
    exact s29 (hc _ rfl) hK
  · cases h
set_option maxRecDepth 20000 in
theorem w30 {σ : gS} {K : gK} (h : (0 ≤ σ 2 1 ∧ σ 2 1 ≤ 1000) ∧ (RW (cBeg σ) ∧ (0 ≤ (cBeg σ) 1 3 ∧ (cBeg σ) 1 3 ≤ 1001)) ∧ K (some (.int (cPk ((cBeg σ) 3) ((cBeg σ) 2 1).toNatClampNeg ((cBeg σ) 1 2).toNatClampNeg (min (((cBeg σ) 1 3).toNatClampNeg - ((cBeg σ) 1 2).toNatClampNeg) 5)))) (cBeg σ)) : gE 30 0 [some (.ref 1)] [] σ K :=
  gw_run (cy := 30) (cuts := []) (inl := []) (pf := gpdk) gpdk_ok 400 (by decide) h
theorem s30 {σ : gS} {K : gK} (hc : 0 ≤ σ 2 1 ∧ σ 2 1 ≤ 1000) (hK : K (some (.int (cNam σ))) (cBeg σ)) : gE 30 0 [some (.ref 1)] [] σ K := by
  exact w30 ⟨hc, cBeg_RW hc, hK⟩
noncomputable def f30 : gD := fun Lv σ => match Lv with
  | [some (.ref q0)] => cond (Nat.beq q0 1) (some (some (0 ≤ σ 2 1 ∧ σ 2 1 ≤ 1000), some (.int (cNam σ)), cBeg σ)) none
  | _ => none
theorem ok30 : gFok 30 f30 := by
  intro Lv σ q h hc K hK
  unfold f30 at h
  split at h
  · rename_i q0
    obtain ⟨hb, h⟩ := c_no h
    have hb0 := hb
    have e0 := b_eq hb0
    subst e0
    cases h
    exact s30 (hc _ rfl) hK
  · cases h
noncomputable def gpdl_l : List (Nat × gD) := (102, f102) :: (62, f62) :: (29, f29) :: (30, f30) :: gpdk_l
noncomputable def gpdl : gP := gpl0 gpdl_l
theorem gpdl_ok : gPok gpdl := gpl0_cons ok102 (gpl0_cons ok62 (gpl0_cons ok29 (gpl0_cons ok30 (gpdk_ok))))
-- text 54
/-! THE CLASS: come -/
/-- the guest's numbers -/
def cGue (σ : gS) (x k f w s : Int32) : gS := gup (gup (gup (gup (gup (gup (cBeg σ) 58 0 (cNam σ)) 58 1 x) 58 2 k) 58 3 f) 58 8 w) 58 9 s
def cGu0 (σ : gS) (x k f w s : Int32) : gS := cGue (cZr (cRem (cBeg σ)) 58) x k f w s
def cCom (σ : gS) (x k f w s : Int32) : gS := gup (cAdd (cAdm (cGu0 σ x k f w s) 6 58) 0 (σ 6 7) x) 2 1 0
theorem cGue_ne {σ : gS} {x k f w s : Int32} {q : Nat} (h : ¬ q = 58) (h1 : ¬ q = 1) : cGue σ x k f w s q = σ q := by
  funext j
  unfold cGue
  rw [gup_ne (by omega), gup_ne (by omega), gup_ne (by omega), gup_ne (by omega), gup_ne (by omega), gup_ne (by omega), cBeg_ne h1]
theorem cZr_ne {σ : gS} {w q : Nat} (h : ¬ q = w) : cZr σ w q = σ q := by
  funext j
  unfold cZr
  rw [if_neg (by omega), if_neg (by omega)]
