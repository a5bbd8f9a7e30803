-- text 86
/-! THE CLASS: a setup is read -/
set_option maxRecDepth 20000 in
theorem w31 {σ : gS} {K : gK} (h : (0 ≤ (cClT σ) 2 1 ∧ (cClT σ) 2 1 ≤ 1000) ∧ gE 31 8 [some (.ref 1), some (.ref 32), none] [] (cBeg (cClT σ)) K) : gE 31 0 [some (.ref 1), some (.ref 32), none] [] σ K :=
  gw_run (cy := 31) (cuts := [8, 14, 25, 31, 44, 56]) (inl := []) (pf := gpdt) gpdt_ok 400 (by decide) h
set_option maxRecDepth 20000 in
theorem c31_8 {σ : gS} {K : gK} (h : (RK σ) ∧ gE 31 14 [some (.ref 1), some (.ref 32), none] [] (cPs σ (bI (cWd σ (jW 1000001)))) K) : gE 31 8 [some (.ref 1), some (.ref 32), none] [] σ K :=
  gw_run (cy := 31) (cuts := [8, 14, 25, 31, 44, 56]) (inl := []) (pf := gpdt) gpdt_ok 400 (by decide) h
set_option maxRecDepth 20000 in
theorem c31_14 {σ : gS} {K : gK} (h : (RK σ ∧ 0 ≤ (2 : Int32)) ∧ gE 31 25 [some (.ref 1), some (.ref 32), none] [] (gup (cInt σ (2 : Int32) (10 : Int32)) 32 4 (cNu σ)) K) : gE 31 14 [some (.ref 1), some (.ref 32), none] [] σ K :=
  gw_run (cy := 31) (cuts := [8, 14, 25, 31, 44, 56]) (inl := []) (pf := gpdt) gpdt_ok 400 (by decide) h
set_option maxRecDepth 20000 in
theorem c31_25 {σ : gS} {K : gK} (h : (RK σ) ∧ gE 31 31 [some (.ref 1), some (.ref 32), none] [] (cPs σ (bI (cWd σ (jW 1000002)))) K) : gE 31 25 [some (.ref 1), some (.ref 32), none] [] σ K :=
  gw_run (cy := 31) (cuts := [8, 14, 25, 31, 44, 56]) (inl := []) (pf := gpdt) gpdt_ok 400 (by decide) h
set_option maxRecDepth 20000 in
theorem c31_31 {σ : gS} {K : gK} (h : (RK σ ∧ 0 ≤ (0 : Int32)) ∧ gE 31 44 [some (.ref 1), some (.ref 32), none] [] (gup (cInt σ (0 : Int32) (σ 32 4)) 32 5 (cNu σ)) K) : gE 31 31 [some (.ref 1), some (.ref 32), none] [] σ K :=
  gw_run (cy := 31) (cuts := [8, 14, 25, 31, 44, 56]) (inl := []) (pf := gpdt) gpdt_ok 400 (by decide) h
set_option maxRecDepth 20000 in
theorem c31_44 {σ : gS} {K : gK} (h : (RW σ) ∧ (¬ (bI (cBy (σ 3) (σ 2 1).toNatClampNeg (σ 1 2).toNatClampNeg = (59 : Int32))) = 0 → RD σ) ∧ gE 31 56 [some (.ref 1), some (.ref 32), some (.int 0)] [] (cPs σ (bI (cBy (σ 3) (σ 2 1).toNatClampNeg (σ 1 2).toNatClampNeg = (59 : Int32)))) K) : gE 31 44 [some (.ref 1), some (.ref 32), none] [] σ K :=
  gw_run (cy := 31) (cuts := [8, 14, 25, 31, 44, 56]) (inl := []) (pf := gpdt) gpdt_ok 400 (by decide) h
set_option maxRecDepth 20000 in
theorem c31_56 {σ : gS} {K : gK} {l2 : Int32} (h : ((¬ l2 < 20 → ((¬ (σ 1 4) = 0 → ((0 : Int32) = 0 ∨ (0 : Int32) = 1) ∧ K (some (.int 0)) σ) ∧ ((σ 1 4) = 0 → ((¬ (σ 1 5) = 0 → ((0 : Int32) = 0 ∨ (0 : Int32) = 1) ∧ K (some (.int 0)) σ) ∧ ((σ 1 5) = 0 → ((1 : Int32) = 0 ∨ (1 : Int32) = 1) ∧ K (some (.int 1)) σ))))) ∧ (l2 < 20 → (((σ 1 4) = 0 → ((¬ (σ 1 4) = 0 → ((0 : Int32) = 0 ∨ (0 : Int32) = 1) ∧ K (some (.int 0)) σ) ∧ ((σ 1 4) = 0 → ((¬ (σ 1 5) = 0 → ((0 : Int32) = 0 ∨ (0 : Int32) = 1) ∧ K (some (.int 0)) σ) ∧ ((σ 1 5) = 0 → ((1 : Int32) = 0 ∨ (1 : Int32) = 1) ∧ K (some (.int 1)) σ))))) ∧ (¬ (σ 1 4) = 0 → ((¬ (σ 1 5) = 0 → ((¬ (σ 1 4) = 0 → ((0 : Int32) = 0 ∨ (0 : Int32) = 1) ∧ K (some (.int 0)) σ) ∧ ((σ 1 4) = 0 → ((¬ (σ 1 5) = 0 → ((0 : Int32) = 0 ∨ (0 : Int32) = 1) ∧ K (some (.int 0)) σ) ∧ ((σ 1 5) = 0 → ((1 : Int32) = 0 ∨ (1 : Int32) = 1) ∧ K (some (.int 1)) σ))))) ∧ ((σ 1 5) = 0 → (RK σ ∧ (0 ≤ σ 32 7 ∧ σ 32 7 < 20)) ∧ gE 31 56 [some (.ref 1), some (.ref 32), some (.int (l2 + 1))] [] (rTrv σ) K))))))) : gE 31 56 [some (.ref 1), some (.ref 32), some (.int l2)] [] σ K :=
  gw_run (cy := 31) (cuts := [8, 14, 25, 31, 44, 56]) (inl := []) (pf := gpdt) gpdt_ok 400 (by decide) h
theorem cClT_ne {σ : gS} {q j : Nat} (h : ¬ q = 55) (h2 : ¬ q = 56) (h3 : ¬ q = 32) : cClT σ q j = σ q j := by
  unfold cClT
  rw [if_neg (by omega), if_neg (by omega), if_neg (by omega)]
theorem RK_32 {σ : gS} {j : Nat} {x : Int32} (h : RK σ) : RK (gup σ 32 j x) := RK_cg h (funext fun i => gup_ne (by omega)) (funext fun i => gup_ne (by omega)) (funext fun i => gup_ne (by omega))
noncomputable def cS1 (σ : gS) : gS := cBeg (cClT σ)
noncomputable def cS2 (σ : gS) : gS := cPs σ (bI (cWd σ (jW 1000001)))
noncomputable def cS3 (σ : gS) : gS := gup (cInt σ 2 10) 32 4 (cNu σ)
noncomputable def cS4 (σ : gS) : gS := cPs σ (bI (cWd σ (jW 1000002)))
noncomputable def cS5 (σ : gS) : gS := gup (cInt σ 0 (σ 32 4)) 32 5 (cNu σ)
noncomputable def cS6 (σ : gS) : gS := cPs σ (bI (cB0 σ = 59))
theorem cS1_RK {σ : gS} (h : 0 ≤ σ 2 1 ∧ σ 2 1 ≤ 1000) : RK (cS1 σ) := by
  have e : gup (gup (cClT σ) 1 5 0) 1 3 0 2 1 = σ 2 1 := by rw [gup_ne (by omega), gup_ne (by omega), cClT_ne (by decide) (by decide) (by decide)]
  refine cTok_RK ?_
  unfold RD
  rw [e, gup_at]
  exact ⟨h, z00, h.1⟩
theorem cWP_RK {σ : gS} {p : Nat} (h : RK σ) : RK (cPs σ (bI (cWd σ (jW p)))) := by
  refine cPs_RK h (fun q => ?_)
  have q : cWd σ (jW p) := Decidable.not_not.mp (fun z => q (bI_0.mpr z))
  rw [q.1]
  decide
theorem cS2_RK {σ : gS} (h : RK σ) : RK (cS2 σ) := cWP_RK h
theorem cS3_RK {σ : gS} (h : RK σ) : RK (cS3 σ) := RK_32 (cInt_RK h (by decide))
theorem cS4_RK {σ : gS} (h : RK σ) : RK (cS4 σ) := cWP_RK h
theorem cS5_RK {σ : gS} (h : RK σ) : RK (cS5 σ) := RK_32 (cInt_RK h (by decide))
theorem cS6_RK {σ : gS} (h : RK σ) : RK (cS6 σ) := by
  refine cPs_RK h (fun q => ?_)
  have q : cB0 σ = 59 := Decidable.not_not.mp (fun z => q (bI_0.mpr z))
  exact RK_sg h q (by decide)
theorem rZ_RK {σ : gS} (h : RK σ) (h7 : 0 ≤ σ 32 7 ∧ σ 32 7 < 20) : RK (rZ σ) := by
  have f7 : cPs σ 1 32 7 = σ 32 7 := by rw [cPs_far (by decide)]
  unfold rZ
  split
  · rename_i q
    have k : RK (cPs σ 1) := cPs_RK h (fun _ => RK_sg h q.1 (by decide))
    split
    · exact RK_cg k (cAdm_far (by rw [f7]; exact h7) (by omega)) (cAdm_far (by rw [f7]; exact h7) (by omega)) (cAdm_far (by rw [f7]; exact h7) (by omega))
    · exact k
  · exact cPs_RK h (fun q => absurd rfl q)
theorem rZ_7 {σ : gS} : rZ σ 32 7 = σ 32 7 ∨ rZ σ 32 7 = σ 32 7 + 1 := by
  unfold rZ
  split
  · split
    · right
      unfold cAdm
      rw [gup_at, cPs_far (by decide)]
    · left
      rw [cPs_far (by decide)]
  · left
    rw [cPs_far (by decide)]
theorem rTrv_RK {σ : gS} (h : RK σ) (h7 : 0 ≤ σ 32 7 ∧ σ 32 7 < 20) : RK (rTrv σ) := by
  rw [rTrv_e]
  exact rZ_RK (rMid_RK h) (by rw [rMid_far (by decide) (by decide)]; exact h7)
theorem rTrv_7 {σ : gS} : rTrv σ 32 7 = σ 32 7 ∨ rTrv σ 32 7 = σ 32 7 + 1 := by
  have := rZ_7 (σ := rMid σ)
  rw [rTrv_e]
  rw [rMid_far (q := 32) (by decide) (by decide)] at this
  exact this
noncomputable def cLp : Nat → gS → gS
  | 0, σ => σ
  | d + 1, σ => if σ 1 4 = 0 ∨ ¬ σ 1 5 = 0 then σ else cLp d (rTrv σ)
noncomputable def cSet0 (σ : gS) : gS := cS6 (cS5 (cS4 (cS3 (cS2 (cS1 σ)))))
theorem cSet_x : ∃ f : gS → gS, ∀ σ, f σ = cLp 20 (cSet0 σ) := ⟨fun σ => cLp 20 (cSet0 σ), fun _ => rfl⟩
noncomputable def cSet : gS → gS := Classical.choose cSet_x
theorem cSet_e : ∀ σ, cSet σ = cLp 20 (cSet0 σ) := Classical.choose_spec cSet_x
theorem cSet0_RK {σ : gS} (h : 0 ≤ σ 2 1 ∧ σ 2 1 ≤ 1000) : RK (cSet0 σ) := cS6_RK (cS5_RK (cS4_RK (cS3_RK (cS2_RK (cS1_RK h)))))
theorem cSet0_7 {σ : gS} : cSet0 σ 32 7 = 0 := by
  unfold cSet0 cS6 cS5 cS4 cS3 cS2 cS1
  rw [cPs_far (by decide), gup_ne (by decide), cInt_far (by decide), cPs_far (by decide), gup_ne (by decide), cInt_far (by decide), cPs_far (by decide), cBeg_ne (by decide)]
  unfold cClT
  rw [if_neg (by decide), if_neg (by decide), if_pos (by decide)]
theorem cLp_st {σ : gS} {t : Nat} (ht : t < 20) (h7 : 0 ≤ σ 32 7 ∧ σ 32 7 ≤ iN t) : (0 ≤ σ 32 7 ∧ σ 32 7 < 20) ∧ (0 ≤ rTrv σ 32 7 ∧ rTrv σ 32 7 ≤ iN (t + 1)) := by
  obtain ⟨e, l⟩ := iN_of h7.1
  obtain ⟨m, hm⟩ : ∃ m, (σ 32 7).toNatClampNeg = m := ⟨_, rfl⟩
  rw [hm] at e l
  have h2 := h7.2
  rw [e] at h2
  have h2 := (iN_le l (by omega)).mp h2
  refine ⟨⟨h7.1, by rw [e]; exact (iN_lt (m := 20) l (by decide)).mpr (by omega)⟩, ?_⟩
  rcases rTrv_7 (σ := σ) with q | q
  · rw [q, e]
    exact ⟨(iN_le (k := 0) (by decide) l).mpr (by omega), (iN_le l (by omega)).mpr (by omega)⟩
  · rw [q, e, iN_one]
    exact ⟨(iN_le (k := 0) (by decide) (by omega)).mpr (by omega), (iN_le (by omega) (by omega)).mpr (by omega)⟩
theorem cLp_ok : ∀ (d t : Nat) (σ : gS), t + d = 20 → RK σ → (0 ≤ σ 32 7 ∧ σ 32 7 ≤ iN t) → RK (cLp d σ) ∧ (0 ≤ cLp d σ 32 7 ∧ cLp d σ 32 7 ≤ 20)
  | 0, t, σ, h, hk, h7 => by
    have : t = 20 := by omega
    subst this
    exact ⟨hk, h7⟩
  | d + 1, t, σ, h, hk, h7 => by
    obtain ⟨a, b⟩ := cLp_st (by omega) h7
    unfold cLp
    split
    · exact ⟨hk, h7.1, by have := a.2; grind⟩
    · exact cLp_ok d (t + 1) _ (by omega) (rTrv_RK hk a) b
theorem cSet_ok {σ : gS} (h : 0 ≤ σ 2 1 ∧ σ 2 1 ≤ 1000) : RK (cSet σ) ∧ (0 ≤ cSet σ 32 7 ∧ cSet σ 32 7 ≤ 20) := by
  rw [cSet_e]
  exact cLp_ok 20 0 _ rfl (cSet0_RK h) (by rw [cSet0_7]; decide)
theorem rs_fin {σ : gS} {K : gK} (hK : K (some (.int (bI (σ 1 4 = 0 ∧ σ 1 5 = 0)))) σ) : ((¬ (σ 1 4) = 0 → ((0 : Int32) = 0 ∨ (0 : Int32) = 1) ∧ K (some (.int 0)) σ) ∧ ((σ 1 4) = 0 → ((¬ (σ 1 5) = 0 → ((0 : Int32) = 0 ∨ (0 : Int32) = 1) ∧ K (some (.int 0)) σ) ∧ ((σ 1 5) = 0 → ((1 : Int32) = 0 ∨ (1 : Int32) = 1) ∧ K (some (.int 1)) σ)))) := by
  refine ⟨fun h => ⟨Or.inl rfl, ?_⟩, fun h => ⟨fun h2 => ⟨Or.inl rfl, ?_⟩, fun h2 => ⟨Or.inr rfl, ?_⟩⟩⟩
  · rw [bI_n (fun q => h q.1)] at hK; exact hK
  · rw [bI_n (fun q => h2 q.2)] at hK; exact hK
  · rw [bI_y ⟨h, h2⟩] at hK; exact hK
theorem rs_lp {K : gK} : ∀ (d t : Nat) (σ : gS), t + d = 20 → RK σ → (0 ≤ σ 32 7 ∧ σ 32 7 ≤ iN t) → K (some (.int (bI (cLp d σ 1 4 = 0 ∧ cLp d σ 1 5 = 0)))) (cLp d σ) → gE 31 56 [some (.ref 1), some (.ref 32), some (.int (iN t))] [] σ K
  | 0, t, σ, h, hk, h7, hK => by
    have : t = 20 := by omega
    subst this
    exact c31_56 ⟨fun _ => rs_fin hK, fun q => absurd q (by decide)⟩
  | d + 1, t, σ, h, hk, h7, hK => by
    obtain ⟨a, b⟩ := cLp_st (by omega) h7
    unfold cLp at hK
    refine c31_56 ⟨fun q => absurd ((iN_lt (m := 20) (by omega) (by decide)).mpr (by omega)) q, fun _ => ⟨fun q => ?_, fun q => ⟨fun q2 => ?_, fun q2 => ⟨⟨hk, a⟩, ?_⟩⟩⟩⟩
    · rw [if_pos (Or.inl q)] at hK
      exact rs_fin hK
    · rw [if_pos (Or.inr q2)] at hK
      exact rs_fin hK
    · rw [if_neg (fun z => z.elim q (fun z => z q2))] at hK
      rw [iN_one]
      exact rs_lp d (t + 1) _ (by omega) (rTrv_RK hk a) b hK
theorem s31 {σ : gS} {K : gK} (hc : 0 ≤ σ 2 1 ∧ σ 2 1 ≤ 1000) (hK : K (some (.int (bI (cSet σ 1 4 = 0 ∧ cSet σ 1 5 = 0)))) (cSet σ)) : gE 31 0 [some (.ref 1), some (.ref 32), none] [] σ K := by
  rw [cSet_e] at hK
  have k1 := cS1_RK hc
  have k2 := cS2_RK k1
  have k3 := cS3_RK k2
  have k4 := cS4_RK k3
  have k5 := cS5_RK k4
  have hd : ¬ bI (cB0 (cS5 (cS4 (cS3 (cS2 (cS1 σ))))) = 59) = 0 → RD (cS5 (cS4 (cS3 (cS2 (cS1 σ))))) := fun q => k5.1.1.2 (RK_sg k5 (Decidable.not_not.mp (fun z => q (bI_0.mpr z))) (by decide))
  refine w31 ⟨?_, c31_8 ⟨k1, c31_14 ⟨⟨k2, by decide⟩, c31_25 ⟨k3, c31_31 ⟨⟨k4, z00⟩, c31_44 ⟨k5.1.1.1, hd, rs_lp 20 0 (cSet0 σ) rfl (cSet0_RK hc) ?_ hK⟩⟩⟩⟩⟩⟩
  · rw [cClT_ne (by decide) (by decide) (by decide)]
    exact hc
  · rw [cSet0_7]
    decide
noncomputable def f31 : gD := fun Lv σ => match Lv with
  | [some (.ref q0), some (.ref q1), none] => cond ((Nat.beq q0 1) && (Nat.beq q1 32)) (some (some (0 ≤ σ 2 1 ∧ σ 2 1 ≤ 1000), some (.int (bI (cSet σ 1 4 = 0 ∧ cSet σ 1 5 = 0))), cSet σ)) none
  | _ => none
theorem ok31 : gFok 31 f31 := by
  intro Lv σ q h hc K hK
  unfold f31 at h
  split at h
  · rename_i q0 q1
    obtain ⟨hb, h⟩ := c_no h
    obtain ⟨hc1, hb1⟩ := s_and hb
    have hb0 := hc1
    have e0 := b_eq hb0
    subst e0
    have e1 := b_eq hb1
    subst e1
    cases h
    exact s31 (hc _ rfl) hK
  · cases h
noncomputable def gpdu_l : List (Nat × gD) := (31, f31) :: gpdt_l
noncomputable def gpdu : gP := gpl0 gpdu_l
theorem gpdu_ok : gPok gpdu := gpl0_cons ok31 (gpdt_ok)
