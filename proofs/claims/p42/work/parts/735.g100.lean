/-! RELATION: a setup begins; what a load leaves as it is -/
theorem PT_tok {T : gW} {L n : Nat} {σ τ : gS} (hc : PC T L σ τ) (lE : n ≤ L) (a2 : σ 1 3 = iN n) (b2 : τ 323 11 = iN n) : PT T L n (cTok σ) (rNx τ) := by
  obtain ⟨c1, c2, c3, c4, c5, c6⟩ := hc
  have nL : (σ 2 1).toNatClampNeg = L := by rw [c2, iN_nat (by omega)]
  have nE : (σ 1 3).toNatClampNeg = n := by rw [a2, iN_nat (by omega)]
  have mL : (τ 323 8).toNatClampNeg = L := by rw [c3, iN_nat (by omega)]
  have mE : (τ 323 11).toNatClampNeg = n := by rw [b2, iN_nat (by omega)]
  obtain ⟨t1, t2, t3⟩ := cTok_1 nL nE
  rw [c1] at t1 t2 t3
  have eS : rSt τ = tkS T L n := by
    unfold rSt
    rw [mL, mE]
    exact tkS_cg c4 lE
  have bE := tkS_b (T := T) lE
  have eP := rPl_cg c4 bE.2
  have eV := rVa_cg c4 bE.2
  have eK := rKi_cg c4 bE.2
  refine ⟨lE, ⟨t1, t2, t3⟩, ?_⟩
  rw [rNx_e, mL, eS, eP, eV, eK]
  exact ⟨rfl, rfl, rfl, rfl⟩
theorem PQ_1 {T : gW} {L : Nat} {σ τ : gS} (hc : PC T L σ τ) : PQ T L (cS1 σ) (dS1 τ) := by
  have c : PC T L (gup (gup (cClT σ) 1 5 0) 1 3 0) (gup (gup (gup (dZk τ 330) 323 11 0) 323 15 0) 323 9 (-2)) := by
    obtain ⟨c1, c2, c3, c4, c5, c6⟩ := hc
    refine ⟨?_, ?_, ?_, fun i hi => ?_, c5, c6⟩
    · funext i; rw [gup_ne (by omega), gup_ne (by omega), cClT_ne (by decide) (by decide) (by decide), c1]
    · rw [gup_ne (by omega), gup_ne (by omega), cClT_ne (by decide) (by decide) (by decide), c2]
    · rw [gup_ne (by omega), gup_ne (by omega), gup_ne (by omega)]
      unfold dZk
      rw [grow_ne (by decide), c3]
    · rw [gup_ne (by omega), gup_ne (by omega), gup_ne (by omega)]
      unfold dZk
      rw [grow_ne (by decide), c4 i hi]
  refine ⟨PC_nx c, Or.inl ⟨?_, ⟨?_, ?_⟩, 0, PT_tok c (Nat.zero_le _) (gup_at _ _ _) ?_⟩⟩
  · unfold cS1 cBeg
    rw [cTok_5, gup_ne (by omega), gup_at]
  · unfold dS1
    rw [rNx_3 (by omega), gup_ne (by omega), gup_at]
  · unfold dS1
    rw [rNx_3 (by omega), gup_at]
  · rw [gup_ne (by omega), gup_ne (by omega), gup_at]
    rfl
theorem gup32_1 {σ : gS} {j q : Nat} {x : Int32} (h : ¬ q = 32) : gup σ 32 j x q = σ q := funext fun i => gup_ne (by omega)
theorem gup25_3 {σ : gS} {j q : Nat} {x : Int32} (h : ¬ q = 325) : gup σ 325 j x q = σ q := funext fun i => gup_ne (by omega)
/-- heads alike -/
noncomputable def PH (σ τ : gS) : Prop := σ 1 5 = 0 → σ 32 4 = τ 325 0 ∧ (2 ≤ τ 325 0 ∧ τ 325 0 ≤ 10)
theorem cSet0_ne {σ : gS} {q j : Nat} (h : ¬ q = 1) (h2 : ¬ (q = 32 ∧ (j = 4 ∨ j = 5))) : cSet0 σ q j = cClT σ q j := by
  unfold cSet0 cS6 cS5 cS4 cS3 cS2 cS1
  rw [cPs_far h, gup_ne (by omega), cInt_far h, cPs_far h, gup_ne (by omega), cInt_far h, cPs_far h, cBeg_ne h]
theorem dSet0_ne {τ : gS} {j : Nat} (h : ¬ j = 0) (h2 : ¬ j = 1) : dSet0 τ 325 j = dZk τ 330 325 j := by
  unfold dSet0 dS6 dS5 dS4 dS3 dS2 dS1 rTn
  rw [rTk_25, gup_ne (by omega), rTk_25, rTk_25, gup_ne (by omega), rTk_25, rTk_25, rNx_far (by decide), gup_ne (by omega), gup_ne (by omega), gup_ne (by omega)]
theorem dSet0_0 {τ : gS} {j : Nat} (h : ¬ j = 0) (h2 : ¬ j = 1) (h3 : j < 330) : dSet0 τ 325 j = 0 := by
  rw [dSet0_ne h h2]
  unfold dZk
  rw [grow_at, if_pos h3]
