-- text 100
/-! RELATION: a setup begins; what a load leaves as it is -/
theorem PT_tok {T : gW} {L n : Nat} {σ τ : gS} (hc : PC T L σ τ) (lE : n ≤ L) (a2 : σ 1 3 = iN n) (b2 : τ 323 11 = iN n) : PT T L n (cTok σ) (rNx τ) := by
  obtain ⟨c1, c2, c3, c4, c5, c6⟩ := hc
  have nL : (σ 2 1).toNatClampNeg = L := by rw [c2, iN_nat (by omega)]
  have nE : (σ 1 3).toNatClampNeg = n := by rw [a2, iN_nat (by omega)]
  have mL : (τ 323 8).toNatClampNeg = L := by rw [c3, iN_nat (by omega)]
  have mE : (τ 323 11).toNatClampNeg = n := by rw [b2, iN_nat (by omega)]
  obtain ⟨t1, t2, t3⟩ := cTok_1 nL nE
  rw [c1] at t1 t2 t3
  have eS : rSt τ = tkS T L n := by
    unfold rSt
    rw [mL, mE]
    exact tkS_cg c4 lE
  have bE := tkS_b (T := T) lE
  have eP := rPl_cg c4 bE.2
  have eV := rVa_cg c4 bE.2
  have eK := rKi_cg c4 bE.2
  refine ⟨lE, ⟨t1, t2, t3⟩, ?_⟩
  rw [rNx_e, mL, eS, eP, eV, eK]
  exact ⟨rfl, rfl, rfl, rfl⟩
theorem PQ_1 {T : gW} {L : Nat} {σ τ : gS} (hc : PC T L σ τ) : PQ T L (cS1 σ) (dS1 τ) := by
  have c : PC T L (gup (gup (cClT σ) 1 5 0) 1 3 0) (gup (gup (gup (dZk τ 330) 323 11 0) 323 15 0) 323 9 (-2)) := by
    obtain ⟨c1, c2, c3, c4, c5, c6⟩ := hc
    refine ⟨?_, ?_, ?_, fun i hi => ?_, c5, c6⟩
    · funext i; rw [gup_ne (by omega), gup_ne (by omega), cClT_ne (by decide) (by decide) (by decide), c1]
    · rw [gup_ne (by omega), gup_ne (by omega), cClT_ne (by decide) (by decide) (by decide), c2]
    · rw [gup_ne (by omega), gup_ne (by omega), gup_ne (by omega)]
      unfold dZk
      rw [grow_ne (by decide), c3]
    · rw [gup_ne (by omega), gup_ne (by omega), gup_ne (by omega)]
      unfold dZk
      rw [grow_ne (by decide), c4 i hi]
  refine ⟨PC_nx c, Or.inl ⟨?_, ⟨?_, ?_⟩, 0, PT_tok c (Nat.zero_le _) (gup_at _ _ _) ?_⟩⟩
  · unfold cS1 cBeg
    rw [cTok_5, gup_ne (by omega), gup_at]
  · unfold dS1
    rw [rNx_3 (by omega), gup_ne (by omega), gup_at]
  · unfold dS1
    rw [rNx_3 (by omega), gup_at]
  · rw [gup_ne (by omega), gup_ne (by omega), gup_at]
    rfl
theorem gup32_1 {σ : gS} {j q : Nat} {x : Int32} (h : ¬ q = 32) : gup σ 32 j x q = σ q := funext fun i => gup_ne (by omega)
theorem gup25_3 {σ : gS} {j q : Nat} {x : Int32} (h : ¬ q = 325) : gup σ 325 j x q = σ q := funext fun i => gup_ne (by omega)
/-- heads alike -/
noncomputable def PH (σ τ : gS) : Prop := σ 1 5 = 0 → σ 32 4 = τ 325 0 ∧ (2 ≤ τ 325 0 ∧ τ 325 0 ≤ 10)
theorem PQ_set {T : gW} {L : Nat} {σ τ : gS} (hc : PC T L σ τ) : PQ T L (cSet0 σ) (dSet0 τ) ∧ (cSet0 σ 1 5 = 0 → cSet0 σ 32 4 = dSet0 τ 325 0 ∧ (2 ≤ dSet0 τ 325 0 ∧ dSet0 τ 325 0 ≤ 10) ∧ cSet0 σ 32 5 = dSet0 τ 325 1) := by
  have q1 := PQ_1 hc
  unfold cSet0 dSet0
  obtain ⟨s1, hs1⟩ : ∃ s, cS1 σ = s := ⟨_, rfl⟩
  obtain ⟨t1, ht1⟩ : ∃ t, dS1 τ = t := ⟨_, rfl⟩
  rw [hs1, ht1] at q1
  rw [hs1, ht1]
  have q2 : PQ T L (cS2 s1) (dS2 t1) := PQ_pass q1 (fun _ m ht => PT_1000001 q1.1 ht) (fun _ q => by rw [q.1]; decide)
  obtain ⟨s2, hs2⟩ : ∃ s, cS2 s1 = s := ⟨_, rfl⟩
  obtain ⟨t2, ht2⟩ : ∃ t, dS2 t1 = t := ⟨_, rfl⟩
  rw [hs2, ht2] at q2
  rw [hs2, ht2]
  obtain ⟨i1, i2⟩ := PQ_int (a := 2) (b := 10) q2 (by decide)
  have q3 : PQ T L (cS3 s2) (dS3 t2) := PQ_cg i1 (gup32_1 (by decide)) (gup32_1 (by decide)) (gup32_1 (by decide)) (gup25_3 (by decide)) (gup25_3 (by decide))
  have h3 : PH (cS3 s2) (dS3 t2) := by
    unfold PH cS3 dS3
    rw [gup_ne (by omega), gup_at, gup_at]
    intro z
    obtain ⟨j1, j2, j3⟩ := i2 z
    rw [j3]
    exact ⟨rfl, j2⟩
  obtain ⟨s3, hs3⟩ : ∃ s, cS3 s2 = s := ⟨_, rfl⟩
  obtain ⟨t3, ht3⟩ : ∃ t, dS3 t2 = t := ⟨_, rfl⟩
  rw [hs3, ht3] at q3 h3
  rw [hs3, ht3]
  have q4 : PQ T L (cS4 s3) (dS4 t3) := PQ_pass q3 (fun _ m ht => PT_1000002 q3.1 ht) (fun _ q => by rw [q.1]; decide)
  have h4 : PH (cS4 s3) (dS4 t3) := by
    intro z
    have := h3 (cPs_0 z).1
    unfold cS4 dS4
    rw [cPs_far (by decide), rTk_25]
    exact this
  obtain ⟨s4, hs4⟩ : ∃ s, cS4 s3 = s := ⟨_, rfl⟩
  obtain ⟨t4, ht4⟩ : ∃ t, dS4 t3 = t := ⟨_, rfl⟩
  rw [hs4, ht4] at q4 h4
  rw [hs4, ht4]
  have q5' : PQ T L (cInt s4 0 (s4 32 4)) (rTn t4 0 (t4 325 0)) ∧ (cInt s4 0 (s4 32 4) 1 5 = 0 → s4 1 5 = 0 ∧ rNm t4 0 (t4 325 0) = cNu s4) := by
    by_cases w : s4 1 5 = 0
    · rw [(h4 w).1]
      obtain ⟨a1, a2⟩ := PQ_int (a := 0) (b := t4 325 0) q4 (by decide)
      exact ⟨a1, fun z => ⟨w, (a2 z).2.2⟩⟩
    · have e : cInt s4 0 (s4 32 4) = gup s4 1 5 1 := by
        unfold cInt cPs
        rw [if_neg (fun z => w z.1)]
      have e2 : rTn t4 0 (t4 325 0) = t4 := rTk_f (PQ_fw q4 w).1
      rw [e, e2]
      exact ⟨PQ_w q4 w, fun z => absurd z (by rw [gup_at]; decide)⟩
  have q5 : PQ T L (cS5 s4) (dS5 t4) := PQ_cg q5'.1 (gup32_1 (by decide)) (gup32_1 (by decide)) (gup32_1 (by decide)) (gup25_3 (by decide)) (gup25_3 (by decide))
  have h5 : cS5 s4 1 5 = 0 → cS5 s4 32 4 = dS5 t4 325 0 ∧ (2 ≤ dS5 t4 325 0 ∧ dS5 t4 325 0 ≤ 10) ∧ cS5 s4 32 5 = dS5 t4 325 1 := by
    unfold cS5 dS5
    rw [gup_ne (by omega), gup_ne (by omega), gup_ne (by omega), gup_at, gup_at]
    intro z
    obtain ⟨j1, j3⟩ := q5'.2 z
    obtain ⟨k1, k2⟩ := h4 j1
    rw [cInt_far (by decide), rTn_far (by decide), j3]
    exact ⟨k1, k2, rfl⟩
  obtain ⟨s5, hs5⟩ : ∃ s, cS5 s4 = s := ⟨_, rfl⟩
  obtain ⟨t5, ht5⟩ : ∃ t, dS5 t4 = t := ⟨_, rfl⟩
  rw [hs5, ht5] at q5 h5
  rw [hs5, ht5]
  refine ⟨PQ_pass q5 (fun _ m ht => (PT_sg q5.1 ht).1) (fun w q => ?_), fun z => ?_⟩
  · obtain ⟨f, m, ht⟩ := PQ_no q5 w
    intro z
    have z2 := (PT_end q5.1 ht).mp z
    have := (PT_sg q5.1 ht).1.mp q
    rw [z2] at this
    exact absurd this (by decide)
  · have := h5 (cPs_0 z).1
    unfold cS6 dS6
    rw [cPs_far (by decide), rTk_25, rTk_25]
    exact this
theorem cSet0_ne {σ : gS} {q j : Nat} (h : ¬ q = 1) (h2 : ¬ (q = 32 ∧ (j = 4 ∨ j = 5))) : cSet0 σ q j = cClT σ q j := by
  unfold cSet0 cS6 cS5 cS4 cS3 cS2 cS1
  rw [cPs_far h, gup_ne (by omega), cInt_far h, cPs_far h, gup_ne (by omega), cInt_far h, cPs_far h, cBeg_ne h]
theorem dSet0_ne {τ : gS} {j : Nat} (h : ¬ j = 0) (h2 : ¬ j = 1) : dSet0 τ 325 j = dZk τ 330 325 j := by
  unfold dSet0 dS6 dS5 dS4 dS3 dS2 dS1 rTn
  rw [rTk_25, gup_ne (by omega), rTk_25, rTk_25, gup_ne (by omega), rTk_25, rTk_25, rNx_far (by decide), gup_ne (by omega), gup_ne (by omega), gup_ne (by omega)]
theorem dSet0_0 {τ : gS} {j : Nat} (h : ¬ j = 0) (h2 : ¬ j = 1) (h3 : j < 330) : dSet0 τ 325 j = 0 := by
  rw [dSet0_ne h h2]
  unfold dZk
  rw [grow_at, if_pos h3]
/-- an empty train, read by both -/
theorem HL_0 {T : gW} {L : Nat} {σ τ : gS} (hc : PC T L σ τ) : HL T L 0 (cSet0 σ) (dSet0 τ) := by
  obtain ⟨q, h⟩ := PQ_set hc
  refine ⟨q, fun w => ?_⟩
  obtain ⟨h1, h2, h3⟩ := h w
  have r3 : dSet0 τ 325 3 = 0 := dSet0_0 (by decide) (by decide) (by decide)
  have nR : nM (dSet0 τ 325) = 0 := by unfold nM; rw [r3]; rfl
  have hd : ∀ j, j < 9 → cR (cSet0 σ) 32 j = dSet0 τ 325 j := by
    intro j hj
    rw [cR_h hj]
    by_cases e0 : j = 0
    · subst e0; exact h1
    · by_cases e1 : j = 1
      · subst e1; exact h3
      · rw [cSet0_ne (by decide) (by omega), dSet0_0 e0 e1 (by omega)]
        unfold cClT
        rw [if_neg (by omega), if_neg (by omega), if_pos (by omega)]
  have nC : nM (cR (cSet0 σ) 32) = 0 := by unfold nM; rw [hd 3 (by decide), r3]; rfl
  refine ⟨⟨⟨hd, fun t ht => by rw [nC] at ht; exact absurd ht (Nat.not_lt_zero _)⟩, ⟨?_, ?_, ?_⟩, ⟨⟨?_, ?_⟩, ?_, ?_⟩, ?_⟩, ⟨?_, ?_, ?_, h2⟩, nR⟩
  · rw [hd 3 (by decide), r3]; decide
  · intro t ht
    rw [nC] at ht
    exact absurd ht (Nat.not_lt_zero _)
  · intro a ha f hf
    unfold mem
    rw [nC, cSet0_ne (by decide) (by omega)]
    unfold cClT
    rw [if_pos (by omega)]
    rfl
  · rw [cSet0_ne (by decide) (by omega)]
    unfold cClT
    rw [if_neg (by omega), if_pos (by omega)]
    decide
  · rw [cSet0_ne (by decide) (by omega)]
    unfold cClT
    rw [if_neg (by omega), if_pos (by omega)]
    decide
  · rw [cSet0_ne (by decide) (by omega), dSet0_0 (by decide) (by decide) (by decide)]
    unfold cClT
    rw [if_neg (by omega), if_pos (by omega)]
  · intro i hi
    have e : cSet0 σ (32 + 24) 2 = 0 := by
      rw [cSet0_ne (by decide) (by omega)]
      unfold cClT
      rw [if_neg (by omega), if_pos (by omega)]
    rw [e] at hi
    exact absurd hi (Nat.not_lt_zero _)
  · intro t ht
    rw [nR] at ht
    exact absurd ht (Nat.not_lt_zero _)
  · intro t ht
    rw [nR] at ht
    exact absurd ht (Nat.not_lt_zero _)
  · intro t ht
    rw [nR] at ht
    exact absurd ht (Nat.not_lt_zero _)
  · refine ⟨?_, fun t ht => ?_⟩
    · rw [nR]
      exact Nat.le_refl _
    · rw [nR] at ht
      exact absurd ht (Nat.not_lt_zero _)
/-- class and reference read the tape alike -/
theorem FN_set {T : gW} {L : Nat} {σ τ : gS} (hc : PC T L σ τ) : FN (cSet σ) (dSet τ) := by
  rw [cSet_e, dSet_e]
  exact FN_lp 20 0 _ _ rfl (HL_0 hc)
