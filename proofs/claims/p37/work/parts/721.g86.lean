section
-- text 86
/-! THE CLASS: a setup is read -/
set_option maxRecDepth 20000 in
theorem w31 {σ : gS} {K : gK} (h : (0 ≤ (cClT σ) 2 1 ∧ (cClT σ) 2 1 ≤ 1000) ∧ gE 31 8 [some (.ref 1), some (.ref 32), none] [] (cBeg (cClT σ)) K) : gE 31 0 [some (.ref 1), some (.ref 32), none] [] σ K :=
  gw_run (cy := 31) (cuts := [8, 14, 25, 31, 44, 56]) (inl := []) (pf := gpdt) gpdt_ok 400 (by decide) h
set_option maxRecDepth 20000 in
theorem c31_8 {σ : gS} {K : gK} (h : (RK σ) ∧ gE 31 14 [some (.ref 1), some (.ref 32), none] [] (cPs σ (bI (cWd σ (jW 1000001)))) K) : gE 31 8 [some (.ref 1), some (.ref 32), none] [] σ K :=
  gw_run (cy := 31) (cuts := [8, 14, 25, 31, 44, 56]) (inl := []) (pf := gpdt) gpdt_ok 400 (by decide) h
set_option maxRecDepth 20000 in
theorem c31_14 {σ : gS} {K : gK} (h : (RK σ ∧ 0 ≤ (2 : Int32)) ∧ gE 31 25 [some (.ref 1), some (.ref 32), none] [] (gup (cInt σ (2 : Int32) (10 : Int32)) 32 4 (cNu σ)) K) : gE 31 14 [some (.ref 1), some (.ref 32), none] [] σ K :=
  gw_run (cy := 31) (cuts := [8, 14, 25, 31, 44, 56]) (inl := []) (pf := gpdt) gpdt_ok 400 (by decide) h
set_option maxRecDepth 20000 in
theorem c31_25 {σ : gS} {K : gK} (h : (RK σ) ∧ gE 31 31 [some (.ref 1), some (.ref 32), none] [] (cPs σ (bI (cWd σ (jW 1000002)))) K) : gE 31 25 [some (.ref 1), some (.ref 32), none] [] σ K :=
  gw_run (cy := 31) (cuts := [8, 14, 25, 31, 44, 56]) (inl := []) (pf := gpdt) gpdt_ok 400 (by decide) h
set_option maxRecDepth 20000 in
theorem c31_31 {σ : gS} {K : gK} (h : (RK σ ∧ 0 ≤ (0 : Int32)) ∧ gE 31 44 [some (.ref 1), some (.ref 32), none] [] (gup (cInt σ (0 : Int32) (σ 32 4)) 32 5 (cNu σ)) K) : gE 31 31 [some (.ref 1), some (.ref 32), none] [] σ K :=
  gw_run (cy := 31) (cuts := [8, 14, 25, 31, 44, 56]) (inl := []) (pf := gpdt) gpdt_ok 400 (by decide) h
set_option maxRecDepth 20000 in
theorem c31_44 {σ : gS} {K : gK} (h : (RW σ) ∧ (¬ (bI (cBy (σ 3) (σ 2 1).toNatClampNeg (σ 1 2).toNatClampNeg = (59 : Int32))) = 0 → RD σ) ∧ gE 31 56 [some (.ref 1), some (.ref 32), some (.int 0)] [] (cPs σ (bI (cBy (σ 3) (σ 2 1).toNatClampNeg (σ 1 2).toNatClampNeg = (59 : Int32)))) K) : gE 31 44 [some (.ref 1), some (.ref 32), none] [] σ K :=
  gw_run (cy := 31) (cuts := [8, 14, 25, 31, 44, 56]) (inl := []) (pf := gpdt) gpdt_ok 400 (by decide) h
set_option maxRecDepth 20000 in
theorem c31_56 {σ : gS} {K : gK} {l2 : Int32} (h : ((¬ l2 < 20 → ((¬ (σ 1 4) = 0 → ((0 : Int32) = 0 ∨ (0 : Int32) = 1) ∧ K (some (.int 0)) σ) ∧ ((σ 1 4) = 0 → ((¬ (σ 1 5) = 0 → ((0 : Int32) = 0 ∨ (0 : Int32) = 1) ∧ K (some (.int 0)) σ) ∧ ((σ 1 5) = 0 → ((1 : Int32) = 0 ∨ (1 : Int32) = 1) ∧ K (some (.int 1)) σ))))) ∧ (l2 < 20 → (((σ 1 4) = 0 → ((¬ (σ 1 4) = 0 → ((0 : Int32) = 0 ∨ (0 : Int32) = 1) ∧ K (some (.int 0)) σ) ∧ ((σ 1 4) = 0 → ((¬ (σ 1 5) = 0 → ((0 : Int32) = 0 ∨ (0 : Int32) = 1) ∧ K (some (.int 0)) σ) ∧ ((σ 1 5) = 0 → ((1 : Int32) = 0 ∨ (1 : Int32) = 1) ∧ K (some (.int 1)) σ))))) ∧ (¬ (σ 1 4) = 0 → ((¬ (σ 1 5) = 0 → ((¬ (σ 1 4) = 0 → ((0 : Int32) = 0 ∨ (0 : Int32) = 1) ∧ K (some (.int 0)) σ) ∧ ((σ 1 4) = 0 → ((¬ (σ 1 5) = 0 → ((0 : Int32) = 0 ∨ (0 : Int32) = 1) ∧ K (some (.int 0)) σ) ∧ ((σ 1 5) = 0 → ((1 : Int32) = 0 ∨ (1 : Int32) = 1) ∧ K (some (.int 1)) σ))))) ∧ ((σ 1 5) = 0 → (RK σ ∧ (0 ≤ σ 32 7 ∧ σ 32 7 < 20)) ∧ gE 31 56 [some (.ref 1), some (.ref 32), some (.int (l2 + 1))] [] (rTrv σ) K))))))) : gE 31 56 [some (.ref 1), some (.ref 32), some (.int l2)] [] σ K :=
  gw_run (cy := 31) (cuts := [8, 14, 25, 31, 44, 56]) (inl := []) (pf := gpdt) gpdt_ok 400 (by decide) h
theorem cClT_ne {σ : gS} {q j : Nat} (h : ¬ q = 55) (h2 : ¬ q = 56) (h3 : ¬ q = 32) : cClT σ q j = σ q j := by
  unfold cClT
  rw [if_neg (by omega), if_neg (by omega), if_neg (by omega)]
theorem RK_32 {σ : gS} {j : Nat} {x : Int32} (h : RK σ) : RK (gup σ 32 j x) := RK_cg h (funext fun i => gup_ne (by omega)) (funext fun i => gup_ne (by omega)) (funext fun i => gup_ne (by omega))
noncomputable def cS1 (σ : gS) : gS := cBeg (cClT σ)
noncomputable def cS2 (σ : gS) : gS := cPs σ (bI (cWd σ (jW 1000001)))
noncomputable def cS3 (σ : gS) : gS := gup (cInt σ 2 10) 32 4 (cNu σ)
noncomputable def cS4 (σ : gS) : gS := cPs σ (bI (cWd σ (jW 1000002)))
noncomputable def cS5 (σ : gS) : gS := gup (cInt σ 0 (σ 32 4)) 32 5 (cNu σ)
noncomputable def cS6 (σ : gS) : gS := cPs σ (bI (cB0 σ = 59))
theorem cS1_RK {σ : gS} (h : 0 ≤ σ 2 1 ∧ σ 2 1 ≤ 1000) : RK (cS1 σ) := by
  have e : gup (gup (cClT σ) 1 5 0) 1 3 0 2 1 = σ 2 1 := by rw [gup_ne (by omega), gup_ne (by omega), cClT_ne (by decide) (by decide) (by decide)]
  refine cTok_RK ?_
  unfold RD
  rw [e, gup_at]
  exact ⟨h, z00, h.1⟩
theorem cWP_RK {σ : gS} {p : Nat} (h : RK σ) : RK (cPs σ (bI (cWd σ (jW p)))) := by
  refine cPs_RK h (fun q => ?_)
  have q : cWd σ (jW p) := Decidable.not_not.mp (fun z => q (bI_0.mpr z))
  rw [q.1]
  decide
theorem cS2_RK {σ : gS} (h : RK σ) : RK (cS2 σ) := cWP_RK h
theorem cS3_RK {σ : gS} (h : RK σ) : RK (cS3 σ) := RK_32 (cInt_RK h (by decide))
theorem cS4_RK {σ : gS} (h : RK σ) : RK (cS4 σ) := cWP_RK h
theorem cS5_RK {σ : gS} (h : RK σ) : RK (cS5 σ) := RK_32 (cInt_RK h (by decide))
theorem cS6_RK {σ : gS} (h : RK σ) : RK (cS6 σ) := by
  refine cPs_RK h (fun q => ?_)
  have q : cB0 σ = 59 := Decidable.not_not.mp (fun z => q (bI_0.mpr z))
  exact RK_sg h q (by decide)
theorem rZ_RK {σ : gS} (h : RK σ) (h7 : 0 ≤ σ 32 7 ∧ σ 32 7 < 20) : RK (rZ σ) := by
  have f7 : cPs σ 1 32 7 = σ 32 7 := by rw [cPs_far (by decide)]
  unfold rZ
  split
  · rename_i q
    have k : RK (cPs σ 1) := cPs_RK h (fun _ => RK_sg h q.1 (by decide))
    split
    · exact RK_cg k (cAdm_far (by rw [f7]; exact h7) (by omega)) (cAdm_far (by rw [f7]; exact h7) (by omega)) (cAdm_far (by rw [f7]; exact h7) (by omega))
    · exact k
  · exact cPs_RK h (fun q => absurd rfl q)
theorem rZ_7 {σ : gS} : rZ σ 32 7 = σ 32 7 ∨ rZ σ 32 7 = σ 32 7 + 1 := by
  unfold rZ
  split
  · split
    · right
      unfold cAdm
      rw [gup_at, cPs_far (by decide)]
    · left
      rw [cPs_far (by decide)]
  · left
    rw [cPs_far (by decide)]
theorem rTrv_RK {σ : gS} (h : RK σ) (h7 : 0 ≤ σ 32 7 ∧ σ 32 7 < 20) : RK (rTrv σ) := by
  rw [rTrv_e]
  exact rZ_RK (rMid_RK h) (by rw [rMid_far (by decide) (by decide)]; exact h7)
theorem rTrv_7 {σ : gS} : rTrv σ 32 7 = σ 32 7 ∨ rTrv σ 32 7 = σ 32 7 + 1 := by
  have := rZ_7 (σ := rMid σ)
  rw [rTrv_e]
  rw [rMid_far (q := 32) (by decide) (by decide)] at this
  exact this
noncomputable def cLp : Nat → gS → gS
  | 0, σ => σ
  | d + 1, σ => if σ 1 4 = 0 ∨ ¬ σ 1 5 = 0 then σ else cLp d (rTrv σ)
noncomputable def cSet0 (σ : gS) : gS := cS6 (cS5 (cS4 (cS3 (cS2 (cS1 σ)))))
theorem cSet_x : ∃ f : gS → gS, ∀ σ, f σ = cLp 20 (cSet0 σ) := ⟨fun σ => cLp 20 (cSet0 σ), fun _ => rfl⟩
noncomputable def cSet : gS → gS := Classical.choose cSet_x
theorem cSet_e : ∀ σ, cSet σ = cLp 20 (cSet0 σ) := Classical.choose_spec cSet_x
theorem cSet0_RK {σ : gS} (h : 0 ≤ σ 2 1 ∧ σ 2 1 ≤ 1000) : RK (cSet0 σ) := cS6_RK (cS5_RK (cS4_RK (cS3_RK (cS2_RK (cS1_RK h)))))
theorem cSet0_7 {σ : gS} : cSet0 σ 32 7 = 0 := by
  unfold cSet0 cS6 cS5 cS4 cS3 cS2 cS1
  rw [cPs_far (by decide), gup_ne (by decide), cInt_far (by decide), cPs_far (by decide), gup_ne (by decide), cInt_far (by decide), cPs_far (by decide), cBeg_ne (by decide)]
  unfold cClT
  rw [if_neg (by decide), if_neg (by decide), if_pos (by decide)]
theorem cLp_st {σ : gS} {t : Nat} (ht : t < 20) (h7 : 0 ≤ σ 32 7 ∧ σ 32 7 ≤ iN t) : (0 ≤ σ 32 7 ∧ σ 32 7 < 20) ∧ (0 ≤ rTrv σ 32 7 ∧ rTrv σ 32 7 ≤ iN (t + 1)) := by
  obtain ⟨e, l⟩ := iN_of h7.1
  obtain ⟨m, hm⟩ : ∃ m, (σ 32 7).toNatClampNeg = m := ⟨_, rfl⟩
  rw [hm] at e l
  have h2 := h7.2
  rw [e] at h2
  have h2 := (iN_le l (by omega)).mp h2
  refine ⟨⟨h7.1, by rw [e]; exact (iN_lt (m := 20) l (by decide)).mpr (by omega)⟩, ?_⟩
  rcases rTrv_7 (σ := σ) with q | q
  · rw [q, e]
    exact ⟨(iN_le (k := 0) (by decide) l).mpr (by omega), (iN_le l (by omega)).mpr (by omega)⟩
  · rw [q, e, iN_one]
    exact ⟨(iN_le (k := 0) (by decide) (by omega)).mpr (by omega), (iN_le (by omega) (by omega)).mpr (by omega)⟩
theorem cLp_ok : ∀ (d t : Nat) (σ : gS), t + d = 20 → RK σ → (0 ≤ σ 32 7 ∧ σ 32 7 ≤ iN t) → RK (cLp d σ) ∧ (0 ≤ cLp d σ 32 7 ∧ cLp d σ 32 7 ≤ 20)
  | 0, t, σ, h, hk, h7 => by
    have : t = 20 := by omega
    subst this
    exact ⟨hk, h7⟩
  | d + 1, t, σ, h, hk, h7 => by
    obtain ⟨a, b⟩ := cLp_st (by omega) h7
    unfold cLp
    split
    · exact ⟨hk, h7.1, by have := a.2; grind⟩
    · exact cLp_ok d (t + 1) _ (by omega) (rTrv_RK hk a) b
theorem cSet_ok {σ : gS} (h : 0 ≤ σ 2 1 ∧ σ 2 1 ≤ 1000) : RK (cSet σ) ∧ (0 ≤ cSet σ 32 7 ∧ cSet σ 32 7 ≤ 20) := by
  rw [cSet_e]
  exact cLp_ok 20 0 _ rfl (cSet0_RK h) (by rw [cSet0_7]; decide)
theorem rs_fin {σ : gS} {K : gK} (hK : K (some (.int (bI (σ 1 4 = 0 ∧ σ 1 5 = 0)))) σ) : ((¬ (σ 1 4) = 0 → ((0 : Int32) = 0 ∨ (0 : Int32) = 1) ∧ K (some (.int 0)) σ) ∧ ((σ 1 4) = 0 → ((¬ (σ 1 5) = 0 → ((0 : Int32) = 0 ∨ (0 : Int32) = 1) ∧ K (some (.int 0)) σ) ∧ ((σ 1 5) = 0 → ((1 : Int32) = 0 ∨ (1 : Int32) = 1) ∧ K (some (.int 1)) σ)))) := by
  refine ⟨fun h => ⟨Or.inl rfl, ?_⟩, fun h => ⟨fun h2 => ⟨Or.inl rfl, ?_⟩, fun h2 => ⟨Or.inr rfl, ?_⟩⟩⟩
  · rw [bI_n (fun q => h q.1)] at hK; exact hK
  · rw [bI_n (fun q => h2 q.2)] at hK; exact hK
  · rw [bI_y ⟨h, h2⟩] at hK; exact hK
theorem rs_lp {K : gK} : ∀ (d t : Nat) (σ : gS), t + d = 20 → RK σ → (0 ≤ σ 32 7 ∧ σ 32 7 ≤ iN t) → K (some (.int (bI (cLp d σ 1 4 = 0 ∧ cLp d σ 1 5 = 0)))) (cLp d σ) → gE 31 56 [some (.ref 1), some (.ref 32), some (.int (iN t))] [] σ K
  | 0, t, σ, h, hk, h7, hK => by
    have : t = 20 := by omega
    subst this
    exact c31_56 ⟨fun _ => rs_fin hK, fun q => absurd q (by decide)⟩
  | d + 1, t, σ, h, hk, h7, hK => by
    obtain ⟨a, b⟩ := cLp_st (by omega) h7
    unfold cLp at hK
    refine c31_56 ⟨fun q => absurd ((iN_lt (m := 20) (by omega) (by decide)).mpr (by omega)) q, fun _ => ⟨fun q => ?_, fun q => ⟨fun q2 => ?_, fun q2 => ⟨⟨hk, a⟩, ?_⟩⟩⟩⟩
    · rw [if_pos (Or.inl q)] at hK
      exact rs_fin hK
    · rw [if_pos (Or.inr q2)] at hK
      exact rs_fin hK
    · rw [if_neg (fun z => z.elim q (fun z => z q2))] at hK
      rw [iN_one]
      exact rs_lp d (t + 1) _ (by omega) (rTrv_RK hk a) b hK
theorem s31 {σ : gS} {K : gK} (hc : 0 ≤ σ 2 1 ∧ σ 2 1 ≤ 1000) (hK : K (some (.int (bI (cSet σ 1 4 = 0 ∧ cSet σ 1 5 = 0)))) (cSet σ)) : gE 31 0 [some (.ref 1), some (.ref 32), none] [] σ K := by
  rw [cSet_e] at hK
  have k1 := cS1_RK hc
  have k2 := cS2_RK k1
  have k3 := cS3_RK k2
  have k4 := cS4_RK k3
  have k5 := cS5_RK k4
  have hd : ¬ bI (cB0 (cS5 (cS4 (cS3 (cS2 (cS1 σ))))) = 59) = 0 → RD (cS5 (cS4 (cS3 (cS2 (cS1 σ))))) := fun q => k5.1.1.2 (RK_sg k5 (Decidable.not_not.mp (fun z => q (bI_0.mpr z))) (by decide))
  refine w31 ⟨?_, c31_8 ⟨k1, c31_14 ⟨⟨k2, by decide⟩, c31_25 ⟨k3, c31_31 ⟨⟨k4, z00⟩, c31_44 ⟨k5.1.1.1, hd, rs_lp 20 0 (cSet0 σ) rfl (cSet0_RK hc) ?_ hK⟩⟩⟩⟩⟩⟩
  · rw [cClT_ne (by decide) (by decide) (by decide)]
    exact hc
  · rw [cSet0_7]
    decide
noncomputable def f31 : gD := fun Lv σ => match Lv with
  | [some (.ref q0), some (.ref q1), none] => cond ((Nat.beq q0 1) && (Nat.beq q1 32)) (some (some (0 ≤ σ 2 1 ∧ σ 2 1 ≤ 1000), some (.int (bI (cSet σ 1 4 = 0 ∧ cSet σ 1 5 = 0))), cSet σ)) none
  | _ => none
theorem ok31 : gFok 31 f31 := by
  intro Lv σ q h hc K hK
  unfold f31 at h
  split at h
  · rename_i q0 q1
    obtain ⟨hb, h⟩ := c_no h
    obtain ⟨hc1, hb1⟩ := s_and hb
    have hb0 := hc1
    have e0 := b_eq hb0
    subst e0
    have e1 := b_eq hb1
    subst e1
    cases h
    exact s31 (hc _ rfl) hK
  · cases h
noncomputable def gpdu_l : List (Nat × gD) := (31, f31) :: gpdt_l
noncomputable def gpdu : gP := gpl0 gpdu_l
theorem gpdu_ok : gPok gpdu := gpl0_cons ok31 (gpdt_ok)
end
section
-- text 87
/-! THE CLASS: load -/
set_option maxRecDepth 20000 in
theorem w110 {σ : gS} {K : gK} (h : (0 ≤ σ 2 1 ∧ σ 2 1 ≤ 1000) ∧ gE 110 12 [some (.ref 0), some (.int (bI (cSet σ 1 4 = 0 ∧ cSet σ 1 5 = 0))), none] [] (cSet σ) K) : gE 110 0 [some (.ref 0), none, none] [] σ K :=
  gw_run (cy := 110) (cuts := [12, 46, 57, 59, 77]) (inl := []) (pf := gpdu) gpdu_ok 400 (by decide) h
set_option maxRecDepth 20000 in
theorem c110_12 {σ : gS} {K : gK} {l1 : Int32} (h : ((l1 = 0 → ((¬ l1 = 0 → gE 110 46 [some (.ref 0), some (.int l1), none] [] (gup (gup σ 0 9 (σ 1 2)) 2 1 0) K) ∧ (l1 = 0 → K (some (.int (-1))) (gup (gup σ 0 9 (σ 1 2)) 2 1 0)))) ∧ (¬ l1 = 0 → ((¬ l1 = 0 → gE 110 46 [some (.ref 0), some (.int l1), none] [] (gup (gup σ 0 9 (-2)) 2 1 0) K) ∧ (l1 = 0 → K (some (.int (-1))) (gup (gup σ 0 9 (-2)) 2 1 0)))))) : gE 110 12 [some (.ref 0), some (.int l1), none] [] σ K :=
  gw_run (cy := 110) (cuts := [12, 46, 57, 59, 77]) (inl := []) (pf := gpdu) gpdu_ok 400 (by decide) h
set_option maxRecDepth 20000 in
theorem c110_46 {σ : gS} {K : gK} {l1 : Int32} (h : (0 ≤ σ 32 7 ∧ σ 32 7 ≤ 20) ∧ gE 110 57 [some (.ref 0), some (.int l1), none] [] (cCo σ 6 32) K) : gE 110 46 [some (.ref 0), some (.int l1), none] [] σ K :=
  gw_run (cy := 110) (cuts := [12, 46, 57, 59, 77]) (inl := []) (pf := gpdu) gpdu_ok 400 (by decide) h
set_option maxRecDepth 20000 in
theorem c110_57 {σ : gS} {K : gK} {l1 : Int32} (h : gE 110 59 [some (.ref 0), some (.int l1), some (.int 0)] [] σ K) : gE 110 57 [some (.ref 0), some (.int l1), none] [] σ K :=
  gw_run (cy := 110) (cuts := [12, 46, 57, 59, 77]) (inl := []) (pf := gpdu) gpdu_ok 400 (by decide) h
set_option maxRecDepth 20000 in
theorem c110_59 {σ : gS} {K : gK} {l1 l2 : Int32} (h : ((¬ l2 < 2 → gE 110 77 [some (.ref 0), some (.int l1), some (.int l2)] [] σ K) ∧ (l2 < 2 → ((0 ≤ l2 ∧ l2 < 2) ∧ ((0 : Int32) = 0 ∨ (0 : Int32) = 1)) ∧ gE 110 59 [some (.ref 0), some (.int l1), some (.int (l2 + 1))] [] (gup σ 112 l2.toNatClampNeg 0) K))) : gE 110 59 [some (.ref 0), some (.int l1), some (.int l2)] [] σ K :=
  gw_run (cy := 110) (cuts := [12, 46, 57, 59, 77]) (inl := []) (pf := gpdu) gpdu_ok 400 (by decide) h
set_option maxRecDepth 20000 in
theorem c110_77 {σ : gS} {K : gK} {l1 l2 : Int32} (h : K (some (.int ((gup σ 113 2 0) 6 7))) (gup σ 113 2 0)) : gE 110 77 [some (.ref 0), some (.int l1), some (.int l2)] [] σ K :=
  gw_run (cy := 110) (cuts := [12, 46, 57, 59, 77]) (inl := []) (pf := gpdu) gpdu_ok 400 (by decide) h
/-- what a good load leaves -/
noncomputable def cLo1 (σ : gS) : gS := gup (gup (gup (cCo (gup (gup (cSet σ) 0 9 (-2)) 2 1 0) 6 32) 112 0 0) 112 1 0) 113 2 0
noncomputable def cLo0 (σ : gS) : gS := gup (gup (cSet σ) 0 9 (cSet σ 1 2)) 2 1 0
abbrev cLk (σ : gS) : Prop := cSet σ 1 4 = 0 ∧ cSet σ 1 5 = 0
theorem clL_x : ∃ f : gS → gS, ∀ σ, f σ = (if cLk σ then cLo1 σ else cLo0 σ) := ⟨fun σ => (if cLk σ then cLo1 σ else cLo0 σ), fun _ => rfl⟩
noncomputable def clL : gS → gS := Classical.choose clL_x
theorem clL_e : ∀ σ, clL σ = (if cLk σ then cLo1 σ else cLo0 σ) := Classical.choose_spec clL_x
theorem s110 {σ : gS} {K : gK} (hc : 0 ≤ σ 2 1 ∧ σ 2 1 ≤ 1000) (hK : K (some (.int (if cLk σ then cSet σ 32 7 else -1))) (clL σ)) : gE 110 0 [some (.ref 0), none, none] [] σ K := by
  obtain ⟨k, h7⟩ := cSet_ok hc
  rw [clL_e] at hK
  refine w110 ⟨hc, c110_12 ?_⟩
  by_cases q : cLk σ
  · rw [if_pos q, if_pos q] at hK
    rw [bI_y q]
    obtain ⟨τ, hτ⟩ : ∃ τ, gup (gup (cSet σ) 0 9 (-2)) 2 1 0 = τ := ⟨_, rfl⟩
    have e7 : τ 32 7 = cSet σ 32 7 := by rw [← hτ, gup_ne (by omega), gup_ne (by omega)]
    have n7 : (τ 32 7).toNatClampNeg ≤ 20 := by rw [e7]; exact (c20 h7).2
    unfold cLo1 at hK
    rw [hτ] at hK ⊢
    refine ⟨fun z => absurd z (by decide), fun _ => ⟨fun _ => c110_46 ⟨by rw [e7]; exact h7, c110_57 (c110_59 ⟨fun z => absurd (by decide) z, fun _ => ⟨⟨by decide, Or.inl rfl⟩, c110_59 ⟨fun z => absurd (by decide) z, fun _ => ⟨⟨by decide, Or.inl rfl⟩, c110_59 ⟨fun _ => c110_77 ?_, fun z => absurd z (by decide)⟩⟩⟩⟩⟩)⟩, fun z => absurd z (by decide)⟩⟩
    have a0 : (0 : Int32).toNatClampNeg = 0 := rfl
    have a1 : ((0 : Int32) + 1).toNatClampNeg = 1 := by decide
    rw [a0, a1]
    have v : gup (gup (gup (cCo τ 6 32) 112 0 0) 112 1 0) 113 2 0 6 7 = cSet σ 32 7 := by
      rw [gup_ne (by omega), gup_ne (by omega), gup_ne (by omega), cCo_hd (Or.inr (by decide)) n7 (by decide) (by decide), e7]
    rw [v]
    exact hK
  · rw [if_neg q, if_neg q] at hK
    rw [bI_n q]
    exact ⟨fun _ => ⟨fun z => absurd rfl z, fun _ => hK⟩, fun z => absurd rfl z⟩
noncomputable def f110 : gD := fun Lv σ => match Lv with
  | [some (.ref q0), none, none] => cond (Nat.beq q0 0) (some (some (0 ≤ σ 2 1 ∧ σ 2 1 ≤ 1000), some (.int (if cLk σ then cSet σ 32 7 else -1)), clL σ)) none
  | _ => none
theorem ok110 : gFok 110 f110 := by
  intro Lv σ q h hc K hK
  unfold f110 at h
  split at h
  · rename_i q0
    obtain ⟨hb, h⟩ := c_no h
    have hb0 := hb
    have e0 := b_eq hb0
    subst e0
    cases h
    exact s110 (hc _ rfl) hK
  · cases h
noncomputable def gpdv_l : List (Nat × gD) := (110, f110) :: gpdu_l
noncomputable def gpdv : gP := gpl0 gpdv_l
theorem gpdv_ok : gPok gpdv := gpl0_cons ok110 (gpdu_ok)
end
section
-- text 88
/-! THE REFERENCE: words and numbers on the tape -/
abbrev NX (σ : gS) : Prop := RT σ ∧ (0 ≤ σ 323 11 ∧ σ 323 11 ≤ σ 323 8)
theorem NX_n {σ : gS} (h : NX σ) : ∃ L n, σ 323 8 = iN L ∧ σ 323 11 = iN n ∧ L ≤ 1000 ∧ n ≤ L ∧ (σ 323 8).toNatClampNeg = L ∧ (σ 323 11).toNatClampNeg = n := by
  obtain ⟨⟨h1, h2⟩, h3, h4⟩ := h
  obtain ⟨e1, l1⟩ := iN_of h1
  obtain ⟨e2, l2⟩ := iN_of h3
  refine ⟨_, _, e1, e2, ?_, ?_, rfl, rfl⟩
  · rw [e1] at h2; exact (iN_le (m := 1000) l1 (by decide)).mp h2
  · rw [e1, e2] at h4; exact (iN_le l2 l1).mp h4
theorem cKd_3 {w : Int32} : cKd w = 3 ↔ isDg w := by
  unfold cKd isDg
  grind
/-- a run's end -/
noncomputable def rnE (c : Int32) (T : gW) (L S : Nat) : Nat := skp (fun i => decide (cKd (T i) = c)) (L - S) S
theorem rnE_b {c : Int32} {T : gW} {L S : Nat} (h : S ≤ L) : S ≤ rnE c T L S ∧ rnE c T L S ≤ L := by
  have := skp_b (P := fun i => decide (cKd (T i) = c)) (d := L - S) (s := S)
  unfold rnE
  omega
/-- a word's letters as a number -/
noncomputable def wvN (T : gW) (s : Nat) : Nat → Int32
  | 0 => 0
  | k + 1 => 27 * wvN T s k + T (s + k) - 96
noncomputable def hRn (σ : gS) (S j : Nat) (v : Int32) : gS := gup (gup σ 323 14 v) 323 11 (iN (S + j))
theorem hRn_1 {σ : gS} {S j : Nat} {v : Int32} : gup (hRn σ S j v) 323 11 (iN (S + j) + 1) = hRn σ S (j + 1) v := by
  unfold hRn
  rw [gup_tw, iN_one]
  rfl
theorem hRn_2 {σ : gS} {S j : Nat} {v w x : Int32} : gup (gup (hRn σ S j v) 323 14 w) 323 11 x = gup (gup σ 323 14 w) 323 11 x := by
  funext q i
  unfold hRn gup
  grind
theorem hWd_x : ∃ f : gS → gS, ∀ σ, f σ = gup (gup (gup σ 323 14 (wvN (σ 330) (σ 323 11).toNatClampNeg (min (rnE 2 (σ 330) (σ 323 8).toNatClampNeg (σ 323 11).toNatClampNeg - (σ 323 11).toNatClampNeg) 6))) 323 11 (iN (rnE 2 (σ 330) (σ 323 8).toNatClampNeg (σ 323 11).toNatClampNeg))) 323 13 (if 6 < rnE 2 (σ 330) (σ 323 8).toNatClampNeg (σ 323 11).toNatClampNeg - (σ 323 11).toNatClampNeg then 6 else 1) := ⟨fun σ => gup (gup (gup σ 323 14 (wvN (σ 330) (σ 323 11).toNatClampNeg (min (rnE 2 (σ 330) (σ 323 8).toNatClampNeg (σ 323 11).toNatClampNeg - (σ 323 11).toNatClampNeg) 6))) 323 11 (iN (rnE 2 (σ 330) (σ 323 8).toNatClampNeg (σ 323 11).toNatClampNeg))) 323 13 (if 6 < rnE 2 (σ 330) (σ 323 8).toNatClampNeg (σ 323 11).toNatClampNeg - (σ 323 11).toNatClampNeg then 6 else 1), fun _ => rfl⟩
noncomputable def hWd : gS → gS := Classical.choose hWd_x
theorem hWd_e : ∀ σ, hWd σ = gup (gup (gup σ 323 14 (wvN (σ 330) (σ 323 11).toNatClampNeg (min (rnE 2 (σ 330) (σ 323 8).toNatClampNeg (σ 323 11).toNatClampNeg - (σ 323 11).toNatClampNeg) 6))) 323 11 (iN (rnE 2 (σ 330) (σ 323 8).toNatClampNeg (σ 323 11).toNatClampNeg))) 323 13 (if 6 < rnE 2 (σ 330) (σ 323 8).toNatClampNeg (σ 323 11).toNatClampNeg - (σ 323 11).toNatClampNeg then 6 else 1) := Classical.choose_spec hWd_x
theorem hNb_x : ∃ f : gS → gS, ∀ σ, f σ = gup (gup (gup σ 323 14 (nuN (σ 330) (σ 323 11).toNatClampNeg (min (rnE 3 (σ 330) (σ 323 8).toNatClampNeg (σ 323 11).toNatClampNeg - (σ 323 11).toNatClampNeg) 2))) 323 11 (iN (rnE 3 (σ 330) (σ 323 8).toNatClampNeg (σ 323 11).toNatClampNeg))) 323 13 (if 2 < rnE 3 (σ 330) (σ 323 8).toNatClampNeg (σ 323 11).toNatClampNeg - (σ 323 11).toNatClampNeg then 6 else 2) := ⟨fun σ => gup (gup (gup σ 323 14 (nuN (σ 330) (σ 323 11).toNatClampNeg (min (rnE 3 (σ 330) (σ 323 8).toNatClampNeg (σ 323 11).toNatClampNeg - (σ 323 11).toNatClampNeg) 2))) 323 11 (iN (rnE 3 (σ 330) (σ 323 8).toNatClampNeg (σ 323 11).toNatClampNeg))) 323 13 (if 2 < rnE 3 (σ 330) (σ 323 8).toNatClampNeg (σ 323 11).toNatClampNeg - (σ 323 11).toNatClampNeg then 6 else 2), fun _ => rfl⟩
noncomputable def hNb : gS → gS := Classical.choose hNb_x
theorem hNb_e : ∀ σ, hNb σ = gup (gup (gup σ 323 14 (nuN (σ 330) (σ 323 11).toNatClampNeg (min (rnE 3 (σ 330) (σ 323 8).toNatClampNeg (σ 323 11).toNatClampNeg - (σ 323 11).toNatClampNeg) 2))) 323 11 (iN (rnE 3 (σ 330) (σ 323 8).toNatClampNeg (σ 323 11).toNatClampNeg))) 323 13 (if 2 < rnE 3 (σ 330) (σ 323 8).toNatClampNeg (σ 323 11).toNatClampNeg - (σ 323 11).toNatClampNeg then 6 else 2) := Classical.choose_spec hNb_x
set_option maxRecDepth 20000 in
theorem w190 {σ : gS} {K : gK} (h : ((0 ≤ (σ 323 11)) ∧ RT σ) ∧ (((bI ((σ 323 11) < σ 323 8 ∧ isSm (σ 330 (σ 323 11).toNatClampNeg))) = 0 → ((¬ 6 < ((σ 323 11) - (σ 323 12)) → K none (gup σ 323 13 1)) ∧ (6 < ((σ 323 11) - (σ 323 12)) → K none (gup σ 323 13 6)))) ∧ (¬ (bI ((σ 323 11) < σ 323 8 ∧ isSm (σ 330 (σ 323 11).toNatClampNeg))) = 0 → ((¬ ((σ 323 11) - (σ 323 12)) < 6 → gE 190 0 [some (.ref 323)] [] (gup σ 323 11 ((σ 323 11) + 1)) K) ∧ (((σ 323 11) - (σ 323 12)) < 6 → (0 ≤ (σ 323 11) ∧ (σ 323 11) < 1000) ∧ gE 190 0 [some (.ref 323)] [] (gup (gup σ 323 14 (((27 * (σ 323 14)) + (σ 330 (σ 323 11).toNatClampNeg)) - 96)) 323 11 (((gup σ 323 14 (((27 * (σ 323 14)) + (σ 330 (σ 323 11).toNatClampNeg)) - 96)) 323 11) + 1)) K))))) : gE 190 0 [some (.ref 323)] [] σ K :=
  gw_run (cy := 190) (cuts := [0]) (inl := []) (pf := gpdv) gpdv_ok 400 (by decide) h
theorem s190 {σ : gS} {K : gK} (hc : NX σ ∧ σ 323 12 = σ 323 11 ∧ σ 323 14 = 0) (hK : K none (hWd σ)) : gE 190 0 [some (.ref 323)] [] σ K := by
  obtain ⟨hN, hb, hv⟩ := hc
  obtain ⟨L, S, eL, eS, lL, lS, nL, nS⟩ := NX_n hN
  rw [hWd_e, nL, nS] at hK
  obtain ⟨E, hE⟩ : ∃ E, rnE 2 (σ 330) L S = E := ⟨_, rfl⟩
  rw [hE] at hK
  have f12 : ∀ j v, hRn σ S j v 323 12 = iN S := fun j v => by
    unfold hRn
    rw [gup_ne (by omega), gup_ne (by omega), hb, eS]
  have f11 : ∀ j v, hRn σ S j v 323 11 = iN (S + j) := fun j v => gup_at _ _ _
  have f14 : ∀ j v, hRn σ S j v 323 14 = v := fun j v => by
    unfold hRn
    rw [gup_ne (by omega), gup_at]
  have f8 : ∀ j v, hRn σ S j v 323 8 = iN L := fun j v => by
    unfold hRn
    rw [gup_ne (by omega), gup_ne (by omega), eL]
  have f30 : ∀ j v, hRn σ S j v 330 = σ 330 := fun j v => funext fun i => by
    unfold hRn
    rw [gup_ne (by omega), gup_ne (by omega)]
  have fT : ∀ j v, RT (hRn σ S j v) := fun j v => by
    show 0 ≤ hRn σ S j v 323 8 ∧ hRn σ S j v 323 8 ≤ 1000
    rw [f8, ← eL]
    exact hN.1
  have fs : ∀ j, S + j ≤ L → iN (S + j) - iN S = iN j := fun j hj => by
    rw [iN_sub (by omega) (by omega), Nat.add_sub_cancel_left]
  have fin : ∀ j, S + j ≤ L → E = S + j → ¬ (S + j < L ∧ isSm (σ 330 (S + j))) → gE 190 0 [some (.ref 323)] [] (hRn σ S j (wvN (σ 330) S (min j 6))) K := by
    intro j hj hE2 hno
    refine w190 ?_
    rw [f11, f12, f8, f30, fs j hj, iN_nat (by omega)]
    refine ⟨⟨(iN_le (k := 0) (by decide) (by omega)).mpr (by omega), fT _ _⟩, fun _ => ⟨fun h6 => ?_, fun h6 => ?_⟩, fun z => absurd (bI_0.mpr (fun q => hno ⟨(iN_lt (by omega) (by omega)).mp q.1, q.2⟩)) z⟩
    · have h6 : ¬ 6 < j := fun q => h6 ((iN_lt (k := 6) (by decide) (by omega)).mpr q)
      rw [hE2, Nat.add_sub_cancel_left, if_neg h6] at hK
      exact hK
    · have h6 : 6 < j := (iN_lt (k := 6) (by decide) (by omega)).mp h6
      rw [hE2, Nat.add_sub_cancel_left, if_pos h6] at hK
      exact hK
  have go : ∀ j, S + j < L → isSm (σ 330 (S + j)) → gE 190 0 [some (.ref 323)] [] (hRn σ S (j + 1) (wvN (σ 330) S (min (j + 1) 6))) K → gE 190 0 [some (.ref 323)] [] (hRn σ S j (wvN (σ 330) S (min j 6))) K := by
    intro j hj hy hn
    refine w190 ?_
    rw [f14, f11, f12, f8, f30, fs j (by omega), iN_nat (by omega), hRn_1, hRn_2, gup_ne (by omega), f11]
    refine ⟨⟨(iN_le (k := 0) (by decide) (by omega)).mpr (by omega), fT _ _⟩, fun z => absurd ⟨(iN_lt (by omega) (by omega)).mpr hj, hy⟩ (bI_0.mp z), fun _ => ⟨fun h6 => ?_, fun h6 => ⟨⟨(iN_le (k := 0) (by decide) (by omega)).mpr (by omega), (iN_lt (m := 1000) (by omega) (by decide)).mpr (by omega)⟩, ?_⟩⟩⟩
    · have h6 : ¬ j < 6 := fun q => h6 ((iN_lt (m := 6) (by omega) (by decide)).mpr q)
      rw [show min (j + 1) 6 = 6 by omega] at hn
      rw [show min j 6 = 6 by omega]
      exact hn
    · have h6 : j < 6 := (iN_lt (m := 6) (by omega) (by decide)).mp h6
      rw [show min (j + 1) 6 = j + 1 by omega] at hn
      rw [show min j 6 = j by omega, iN_one]
      exact hn
  have key : ∀ d j, S + j + d = L → E = skp (fun i => decide (cKd (σ 330 i) = 2)) d (S + j) → gE 190 0 [some (.ref 323)] [] (hRn σ S j (wvN (σ 330) S (min j 6))) K := by
    intro d
    induction d with
    | zero =>
      intro j hj hE2
      exact fin j (by omega) hE2 (by omega)
    | succ d ih =>
      intro j hj hE2
      unfold skp at hE2
      by_cases q : decide (cKd (σ 330 (S + j)) = 2) = true
      · rw [if_pos q] at hE2
        exact go j (by omega) (cKd_2.mp (of_decide_eq_true q)) (ih (j + 1) (by omega) hE2)
      · rw [if_neg q] at hE2
        exact fin j (by omega) hE2 (fun z => q (decide_eq_true (cKd_2.mpr z.2)))
  have e0 : hRn σ S 0 (wvN (σ 330) S (min 0 6)) = σ := by
    unfold hRn
    rw [gup_id (p := 323) (j := 14) (show σ 323 14 = wvN (σ 330) S (min 0 6) from hv), gup_id]
    exact eS
  have := key (L - S) 0 (by omega) hE.symm
  rw [e0] at this
  exact this
noncomputable def f190 : gD := fun Lv σ => match Lv with
  | [some (.ref q0)] => cond (Nat.beq q0 323) (some (some (NX σ ∧ σ 323 12 = σ 323 11 ∧ σ 323 14 = 0), none, hWd σ)) none
  | _ => none
theorem ok190 : gFok 190 f190 := by
  intro Lv σ q h hc K hK
  unfold f190 at h
  split at h
  · rename_i q0
    obtain ⟨hb, h⟩ := c_no h
    have hb0 := hb
    have e0 := b_eq hb0
    subst e0
    cases h
    exact s190 (hc _ rfl) hK
  · cases h
set_option maxRecDepth 20000 in
theorem w191 {σ : gS} {K : gK} (h : ((0 ≤ (σ 323 11)) ∧ RT σ) ∧ (((bI ((σ 323 11) < σ 323 8 ∧ isDg (σ 330 (σ 323 11).toNatClampNeg))) = 0 → ((¬ 2 < ((σ 323 11) - (σ 323 12)) → K none (gup σ 323 13 2)) ∧ (2 < ((σ 323 11) - (σ 323 12)) → K none (gup σ 323 13 6)))) ∧ (¬ (bI ((σ 323 11) < σ 323 8 ∧ isDg (σ 330 (σ 323 11).toNatClampNeg))) = 0 → ((¬ ((σ 323 11) - (σ 323 12)) < 2 → gE 191 0 [some (.ref 323)] [] (gup σ 323 11 ((σ 323 11) + 1)) K) ∧ (((σ 323 11) - (σ 323 12)) < 2 → (0 ≤ (σ 323 11) ∧ (σ 323 11) < 1000) ∧ gE 191 0 [some (.ref 323)] [] (gup (gup σ 323 14 (((10 * (σ 323 14)) + (σ 330 (σ 323 11).toNatClampNeg)) - 48)) 323 11 (((gup σ 323 14 (((10 * (σ 323 14)) + (σ 330 (σ 323 11).toNatClampNeg)) - 48)) 323 11) + 1)) K))))) : gE 191 0 [some (.ref 323)] [] σ K :=
  gw_run (cy := 191) (cuts := [0]) (inl := []) (pf := gpdv) gpdv_ok 400 (by decide) h
theorem s191 {σ : gS} {K : gK} (hc : NX σ ∧ σ 323 12 = σ 323 11 ∧ σ 323 14 = 0) (hK : K none (hNb σ)) : gE 191 0 [some (.ref 323)] [] σ K := by
  obtain ⟨hN, hb, hv⟩ := hc
  obtain ⟨L, S, eL, eS, lL, lS, nL, nS⟩ := NX_n hN
  rw [hNb_e, nL, nS] at hK
  obtain ⟨E, hE⟩ : ∃ E, rnE 3 (σ 330) L S = E := ⟨_, rfl⟩
  rw [hE] at hK
  have f12 : ∀ j v, hRn σ S j v 323 12 = iN S := fun j v => by
    unfold hRn
    rw [gup_ne (by omega), gup_ne (by omega), hb, eS]
  have f11 : ∀ j v, hRn σ S j v 323 11 = iN (S + j) := fun j v => gup_at _ _ _
  have f14 : ∀ j v, hRn σ S j v 323 14 = v := fun j v => by
    unfold hRn
    rw [gup_ne (by omega), gup_at]
  have f8 : ∀ j v, hRn σ S j v 323 8 = iN L := fun j v => by
    unfold hRn
    rw [gup_ne (by omega), gup_ne (by omega), eL]
  have f30 : ∀ j v, hRn σ S j v 330 = σ 330 := fun j v => funext fun i => by
    unfold hRn
    rw [gup_ne (by omega), gup_ne (by omega)]
  have fT : ∀ j v, RT (hRn σ S j v) := fun j v => by
    show 0 ≤ hRn σ S j v 323 8 ∧ hRn σ S j v 323 8 ≤ 1000
    rw [f8, ← eL]
    exact hN.1
  have fs : ∀ j, S + j ≤ L → iN (S + j) - iN S = iN j := fun j hj => by
    rw [iN_sub (by omega) (by omega), Nat.add_sub_cancel_left]
  have fin : ∀ j, S + j ≤ L → E = S + j → ¬ (S + j < L ∧ isDg (σ 330 (S + j))) → gE 191 0 [some (.ref 323)] [] (hRn σ S j (nuN (σ 330) S (min j 2))) K := by
    intro j hj hE2 hno
    refine w191 ?_
    rw [f11, f12, f8, f30, fs j hj, iN_nat (by omega)]
    refine ⟨⟨(iN_le (k := 0) (by decide) (by omega)).mpr (by omega), fT _ _⟩, fun _ => ⟨fun h6 => ?_, fun h6 => ?_⟩, fun z => absurd (bI_0.mpr (fun q => hno ⟨(iN_lt (by omega) (by omega)).mp q.1, q.2⟩)) z⟩
    · have h6 : ¬ 2 < j := fun q => h6 ((iN_lt (k := 2) (by decide) (by omega)).mpr q)
      rw [hE2, Nat.add_sub_cancel_left, if_neg h6] at hK
      exact hK
    · have h6 : 2 < j := (iN_lt (k := 2) (by decide) (by omega)).mp h6
      rw [hE2, Nat.add_sub_cancel_left, if_pos h6] at hK
      exact hK
  have go : ∀ j, S + j < L → isDg (σ 330 (S + j)) → gE 191 0 [some (.ref 323)] [] (hRn σ S (j + 1) (nuN (σ 330) S (min (j + 1) 2))) K → gE 191 0 [some (.ref 323)] [] (hRn σ S j (nuN (σ 330) S (min j 2))) K := by
    intro j hj hy hn
    refine w191 ?_
    rw [f14, f11, f12, f8, f30, fs j (by omega), iN_nat (by omega), hRn_1, hRn_2, gup_ne (by omega), f11]
    refine ⟨⟨(iN_le (k := 0) (by decide) (by omega)).mpr (by omega), fT _ _⟩, fun z => absurd ⟨(iN_lt (by omega) (by omega)).mpr hj, hy⟩ (bI_0.mp z), fun _ => ⟨fun h6 => ?_, fun h6 => ⟨⟨(iN_le (k := 0) (by decide) (by omega)).mpr (by omega), (iN_lt (m := 1000) (by omega) (by decide)).mpr (by omega)⟩, ?_⟩⟩⟩
    · have h6 : ¬ j < 2 := fun q => h6 ((iN_lt (m := 2) (by omega) (by decide)).mpr q)
      rw [show min (j + 1) 2 = 2 by omega] at hn
      rw [show min j 2 = 2 by omega]
      exact hn
    · have h6 : j < 2 := (iN_lt (m := 2) (by omega) (by decide)).mp h6
      rw [show min (j + 1) 2 = j + 1 by omega] at hn
      rw [show min j 2 = j by omega, iN_one]
      exact hn
  have key : ∀ d j, S + j + d = L → E = skp (fun i => decide (cKd (σ 330 i) = 3)) d (S + j) → gE 191 0 [some (.ref 323)] [] (hRn σ S j (nuN (σ 330) S (min j 2))) K := by
    intro d
    induction d with
    | zero =>
      intro j hj hE2
      exact fin j (by omega) hE2 (by omega)
    | succ d ih =>
      intro j hj hE2
      unfold skp at hE2
      by_cases q : decide (cKd (σ 330 (S + j)) = 3) = true
      · rw [if_pos q] at hE2
        exact go j (by omega) (cKd_3.mp (of_decide_eq_true q)) (ih (j + 1) (by omega) hE2)
      · rw [if_neg q] at hE2
        exact fin j (by omega) hE2 (fun z => q (decide_eq_true (cKd_3.mpr z.2)))
  have e0 : hRn σ S 0 (nuN (σ 330) S (min 0 2)) = σ := by
    unfold hRn
    rw [gup_id (p := 323) (j := 14) (show σ 323 14 = nuN (σ 330) S (min 0 2) from hv), gup_id]
    exact eS
  have := key (L - S) 0 (by omega) hE.symm
  rw [e0] at this
  exact this
noncomputable def f191 : gD := fun Lv σ => match Lv with
  | [some (.ref q0)] => cond (Nat.beq q0 323) (some (some (NX σ ∧ σ 323 12 = σ 323 11 ∧ σ 323 14 = 0), none, hNb σ)) none
  | _ => none
theorem ok191 : gFok 191 f191 := by
  intro Lv σ q h hc K hK
  unfold f191 at h
  split at h
  · rename_i q0
    obtain ⟨hb, h⟩ := c_no h
    have hb0 := hb
    have e0 := b_eq hb0
    subst e0
    cases h
    exact s191 (hc _ rfl) hK
  · cases h
noncomputable def gpdw_l : List (Nat × gD) := (190, f190) :: (191, f191) :: gpdv_l
noncomputable def gpdw : gP := gpl0 gpdw_l
theorem gpdw_ok : gPok gpdw := gpl0_cons ok190 (gpl0_cons ok191 (gpdv_ok))
end
section
-- text 89
/-! THE REFERENCE: the next token -/
set_option maxRecDepth 20000 in
theorem w189 {σ : gS} {K : gK} (h : ((¬ (σ 323 11) < (σ 323 8) → gE 189 52 [some (.ref 323)] [] σ K) ∧ ((σ 323 11) < (σ 323 8) → (0 ≤ (σ 323 11) ∧ (σ 323 11) < 1000) ∧ (((σ 330 (σ 323 11).toNatClampNeg) = 32 → gE 189 0 [some (.ref 323)] [] (gup σ 323 11 ((σ 323 11) + 1)) K) ∧ (¬ (σ 330 (σ 323 11).toNatClampNeg) = 32 → (0 ≤ (σ 323 11) ∧ (σ 323 11) < 1000) ∧ ((¬ (σ 330 (σ 323 11).toNatClampNeg) = 10 → gE 189 52 [some (.ref 323)] [] σ K) ∧ ((σ 330 (σ 323 11).toNatClampNeg) = 10 → gE 189 0 [some (.ref 323)] [] (gup σ 323 11 ((σ 323 11) + 1)) K))))))) : gE 189 0 [some (.ref 323)] [] σ K :=
  gw_run (cy := 189) (cuts := [0, 52, 65, 120]) (inl := []) (pf := gpdw) gpdw_ok 400 (by decide) h
set_option maxRecDepth 20000 in
theorem c189_52 {σ : gS} {K : gK} (h : gE 189 65 [some (.ref 323)] [] (gup (gup σ 323 12 (σ 323 11)) 323 14 0) K) : gE 189 52 [some (.ref 323)] [] σ K :=
  gw_run (cy := 189) (cuts := [0, 52, 65, 120]) (inl := []) (pf := gpdw) gpdw_ok 400 (by decide) h
set_option maxRecDepth 20000 in
theorem c189_65 {σ : gS} {K : gK} (h : ((¬ (σ 323 11) = (σ 323 8) → ((0 ≤ (σ 323 11)) ∧ RT σ) ∧ (((bI ((σ 323 11) < σ 323 8 ∧ isSm (σ 330 (σ 323 11).toNatClampNeg))) = 0 → ((0 ≤ (σ 323 11)) ∧ RT σ) ∧ (((bI ((σ 323 11) < σ 323 8 ∧ isDg (σ 330 (σ 323 11).toNatClampNeg))) = 0 → gE 189 120 [some (.ref 323)] [] σ K) ∧ (¬ (bI ((σ 323 11) < σ 323 8 ∧ isDg (σ 330 (σ 323 11).toNatClampNeg))) = 0 → (NX σ ∧ σ 323 12 = σ 323 11 ∧ σ 323 14 = 0) ∧ K none (hNb σ)))) ∧ (¬ (bI ((σ 323 11) < σ 323 8 ∧ isSm (σ 330 (σ 323 11).toNatClampNeg))) = 0 → (NX σ ∧ σ 323 12 = σ 323 11 ∧ σ 323 14 = 0) ∧ K none (hWd σ)))) ∧ ((σ 323 11) = (σ 323 8) → K none (gup σ 323 13 0)))) : gE 189 65 [some (.ref 323)] [] σ K :=
  gw_run (cy := 189) (cuts := [0, 52, 65, 120]) (inl := []) (pf := gpdw) gpdw_ok 400 (by decide) h
set_option maxRecDepth 20000 in
theorem c189_120 {σ : gS} {K : gK} (h : (0 ≤ (σ 323 11) ∧ (σ 323 11) < 1000) ∧ ((¬ (σ 330 (σ 323 11).toNatClampNeg) = 59 → (0 ≤ (σ 323 11) ∧ (σ 323 11) < 1000) ∧ ((¬ (σ 330 (σ 323 11).toNatClampNeg) = 43 → (0 ≤ (σ 323 11) ∧ (σ 323 11) < 1000) ∧ ((¬ (σ 330 (σ 323 11).toNatClampNeg) = 45 → K none (gup (gup σ 323 13 6) 323 11 (((gup σ 323 13 6) 323 11) + 1))) ∧ ((σ 330 (σ 323 11).toNatClampNeg) = 45 → K none (gup (gup σ 323 13 5) 323 11 (((gup σ 323 13 5) 323 11) + 1))))) ∧ ((σ 330 (σ 323 11).toNatClampNeg) = 43 → K none (gup (gup σ 323 13 4) 323 11 (((gup σ 323 13 4) 323 11) + 1))))) ∧ ((σ 330 (σ 323 11).toNatClampNeg) = 59 → K none (gup (gup σ 323 13 3) 323 11 (((gup σ 323 13 3) 323 11) + 1))))) : gE 189 120 [some (.ref 323)] [] σ K :=
  gw_run (cy := 189) (cuts := [0, 52, 65, 120]) (inl := []) (pf := gpdw) gpdw_ok 400 (by decide) h
/-- where the reference stands behind a token, the token's number and kind -/
noncomputable def rPl (T : gW) (L S : Nat) : Nat := if S = L then S else if isSm (T S) then rnE 2 T L S else if isDg (T S) then rnE 3 T L S else S + 1
noncomputable def rVa (T : gW) (L S : Nat) : Int32 := if S = L then 0 else if isSm (T S) then wvN T S (min (rPl T L S - S) 6) else if isDg (T S) then nuN T S (min (rPl T L S - S) 2) else 0
noncomputable def rKi (T : gW) (L S : Nat) : Int32 := if S = L then 0 else if isSm (T S) then (if 6 < rPl T L S - S then 6 else 1) else if isDg (T S) then (if 2 < rPl T L S - S then 6 else 2) else if T S = 59 then 3 else if T S = 43 then 4 else if T S = 45 then 5 else 6
noncomputable def rSt (σ : gS) : Nat := tkS (σ 330) (σ 323 8).toNatClampNeg (σ 323 11).toNatClampNeg
noncomputable def rNx4 (σ : gS) (S : Nat) (v k : Int32) (e : Nat) : gS := fun q j => if q = 323 then (if j = 11 then iN e else if j = 12 then iN S else if j = 13 then k else if j = 14 then v else σ 323 j) else σ q j
theorem rNx_x : ∃ f : gS → gS, ∀ σ, f σ = rNx4 σ (rSt σ) (rVa (σ 330) (σ 323 8).toNatClampNeg (rSt σ)) (rKi (σ 330) (σ 323 8).toNatClampNeg (rSt σ)) (rPl (σ 330) (σ 323 8).toNatClampNeg (rSt σ)) := ⟨fun σ => rNx4 σ (rSt σ) (rVa (σ 330) (σ 323 8).toNatClampNeg (rSt σ)) (rKi (σ 330) (σ 323 8).toNatClampNeg (rSt σ)) (rPl (σ 330) (σ 323 8).toNatClampNeg (rSt σ)), fun _ => rfl⟩
noncomputable def rNx : gS → gS := Classical.choose rNx_x
theorem rNx_e : ∀ σ, rNx σ = rNx4 σ (rSt σ) (rVa (σ 330) (σ 323 8).toNatClampNeg (rSt σ)) (rKi (σ 330) (σ 323 8).toNatClampNeg (rSt σ)) (rPl (σ 330) (σ 323 8).toNatClampNeg (rSt σ)) := Classical.choose_spec rNx_x
theorem rN_1 {σ : gS} {S e : Nat} {v k : Int32} (e12 : σ 323 12 = iN S) : gup (gup (gup σ 323 14 v) 323 11 (iN e)) 323 13 k = rNx4 σ S v k e := by
  funext q j
  unfold rNx4 gup
  grind
theorem rN_2 {σ : gS} {S e : Nat} {k : Int32} (e12 : σ 323 12 = iN S) (e14 : σ 323 14 = 0) : gup (gup σ 323 13 k) 323 11 (iN e) = rNx4 σ S 0 k e := by
  funext q j
  unfold rNx4 gup
  grind
theorem rN_3 {σ : gS} {S : Nat} (e11 : σ 323 11 = iN S) (e12 : σ 323 12 = iN S) (e14 : σ 323 14 = 0) : gup σ 323 13 0 = rNx4 σ S 0 0 S := by
  funext q j
  unfold rNx4 gup
  grind
theorem nx120 {σ : gS} {K : gK} {S : Nat} (e11 : σ 323 11 = iN S) (e12 : σ 323 12 = iN S) (e14 : σ 323 14 = 0) (lS : S < 1000) (hK : K none (rNx4 σ S 0 (if σ 330 S = 59 then 3 else if σ 330 S = 43 then 4 else if σ 330 S = 45 then 5 else 6) (S + 1))) : gE 189 120 [some (.ref 323)] [] σ K := by
  have b : 0 ≤ σ 323 11 ∧ σ 323 11 < 1000 := by
    rw [e11]
    exact ⟨(iN_le (k := 0) (by decide) (by omega)).mpr (by omega), (iN_lt (m := 1000) (by omega) (by decide)).mpr lS⟩
  have x : ∀ k, gup σ 323 13 k 323 11 + 1 = iN (S + 1) := fun k => by rw [gup_ne (by omega), e11, iN_one]
  have n11 : (σ 323 11).toNatClampNeg = S := by rw [e11, iN_nat (by omega)]
  refine c189_120 ?_
  rw [x, x, x, x, rN_2 e12 e14, rN_2 e12 e14, rN_2 e12 e14, rN_2 e12 e14, n11]
  refine ⟨b, fun h => ⟨b, fun h2 => ⟨b, fun h3 => ?_, fun h3 => ?_⟩, fun h2 => ?_⟩, fun h => ?_⟩
  · rw [if_neg h, if_neg h2, if_neg h3] at hK; exact hK
  · rw [if_neg h, if_neg h2, if_pos h3] at hK; exact hK
  · rw [if_neg h, if_pos h2] at hK; exact hK
  · rw [if_pos h] at hK; exact hK
theorem nx65 {σ : gS} {K : gK} {L S : Nat} (e8 : σ 323 8 = iN L) (e11 : σ 323 11 = iN S) (e12 : σ 323 12 = iN S) (e14 : σ 323 14 = 0) (lS : S ≤ L) (lL : L ≤ 1000) (hK : K none (rNx4 σ S (rVa (σ 330) L S) (rKi (σ 330) L S) (rPl (σ 330) L S))) : gE 189 65 [some (.ref 323)] [] σ K := by
  have hT : RT σ := by
    show 0 ≤ σ 323 8 ∧ σ 323 8 ≤ 1000
    rw [e8]
    exact ⟨(iN_le (k := 0) (by decide) (by omega)).mpr (by omega), (iN_le (m := 1000) (by omega) (by decide)).mpr lL⟩
  have p : 0 ≤ σ 323 11 := by rw [e11]; exact (iN_le (k := 0) (by decide) (by omega)).mpr (by omega)
  have hN : NX σ := ⟨hT, p, by rw [e8, e11]; exact (iN_le (by omega) (by omega)).mpr lS⟩
  have n8 : (σ 323 8).toNatClampNeg = L := by rw [e8, iN_nat (by omega)]
  have n11 : (σ 323 11).toNatClampNeg = S := by rw [e11, iN_nat (by omega)]
  have hlt : ∀ P : Prop, S < L → ((σ 323 11 < σ 323 8 ∧ P) ↔ P) := fun P h => ⟨fun q => q.2, fun q => ⟨by rw [e8, e11]; exact (iN_lt (by omega) (by omega)).mpr h, q⟩⟩
  have heq : σ 323 11 = σ 323 8 ↔ S = L := by rw [e8, e11]; exact iN_inj (by omega) (by omega)
  refine c189_65 ⟨fun h => ?_, fun h => ?_⟩
  · have h : ¬ S = L := fun q => h (heq.mpr q)
    have hl : S < L := by omega
    have hp : rPl (σ 330) L S = if isSm (σ 330 S) then rnE 2 (σ 330) L S else if isDg (σ 330 S) then rnE 3 (σ 330) L S else S + 1 := if_neg h
    unfold rVa rKi at hK
    rw [if_neg h, if_neg h] at hK
    rw [n11]
    refine ⟨⟨p, hT⟩, fun h1 => ⟨⟨p, hT⟩, fun h2 => ?_, fun h2 => ⟨⟨hN, e12.trans e11.symm, e14⟩, ?_⟩⟩, fun h1 => ⟨⟨hN, e12.trans e11.symm, e14⟩, ?_⟩⟩
    · have q1 : ¬ isSm (σ 330 S) := fun z => bI_0.mp h1 ((hlt _ hl).mpr z)
      have q2 : ¬ isDg (σ 330 S) := fun z => bI_0.mp h2 ((hlt _ hl).mpr z)
      rw [hp, if_neg q1, if_neg q1, if_neg q1, if_neg q2, if_neg q2, if_neg q2] at hK
      exact nx120 e11 e12 e14 (by omega) hK
    · have q1 : ¬ isSm (σ 330 S) := fun z => bI_0.mp h1 ((hlt _ hl).mpr z)
      have q2 : isDg (σ 330 S) := ((hlt _ hl).mp (Decidable.not_not.mp (fun z => h2 (bI_0.mpr z))))
      rw [hp, if_neg q1, if_neg q1, if_neg q1, if_pos q2, if_pos q2, if_pos q2] at hK
      rw [hNb_e, n8, n11, rN_1 e12]
      exact hK
    · have q1 : isSm (σ 330 S) := ((hlt _ hl).mp (Decidable.not_not.mp (fun z => h1 (bI_0.mpr z))))
      rw [hp, if_pos q1, if_pos q1, if_pos q1] at hK
      rw [hWd_e, n8, n11, rN_1 e12]
      exact hK
  · have h := heq.mp h
    unfold rVa rKi rPl at hK
    rw [if_pos h, if_pos h, if_pos h] at hK
    rw [rN_3 e11 e12 e14]
    exact hK
theorem cKd_1 {w : Int32} : cKd w = 1 ↔ (w = 32 ∨ w = 10) := by
  unfold cKd
  grind
theorem rNx4_up {σ : gS} {S e : Nat} {v k x y z : Int32} : rNx4 (gup (gup (gup σ 323 11 x) 323 12 y) 323 14 z) S v k e = rNx4 σ S v k e := by
  funext q j
  unfold rNx4 gup
  grind
theorem s189 {σ : gS} {K : gK} (hc : NX σ) (hK : K none (rNx σ)) : gE 189 0 [some (.ref 323)] [] σ K := by
  obtain ⟨L, n, eL, en, lL, ln, nL, nn⟩ := NX_n hc
  obtain ⟨S, hS⟩ : ∃ S, tkS (σ 330) L n = S := ⟨_, rfl⟩
  have eS : rSt σ = S := by unfold rSt; rw [nL, nn, hS]
  rw [rNx_e, eS, nL] at hK
  have f11 : ∀ x, gup σ 323 11 x 323 11 = x := fun x => gup_at _ _ _
  have f8 : ∀ x, gup σ 323 11 x 323 8 = iN L := fun x => by rw [gup_ne (by omega), eL]
  have f30 : ∀ x, gup σ 323 11 x 330 = σ 330 := fun x => funext fun i => gup_ne (by omega)
  have fin : S ≤ L → gE 189 52 [some (.ref 323)] [] (gup σ 323 11 (iN S)) K := by
    intro lS
    refine c189_52 ?_
    rw [f11]
    have g30 : gup (gup (gup σ 323 11 (iN S)) 323 12 (iN S)) 323 14 0 330 = σ 330 := funext fun i => by rw [gup_ne (by omega), gup_ne (by omega), gup_ne (by omega)]
    refine nx65 (L := L) (S := S) ?_ ?_ ?_ (gup_at _ _ _) lS lL ?_
    · rw [gup_ne (by omega), gup_ne (by omega), f8]
    · rw [gup_ne (by omega), gup_ne (by omega), f11]
    · rw [gup_ne (by omega), gup_at]
    · rw [g30, rNx4_up]
      exact hK
  have key : ∀ d j, n + j + d = L → S = skp (fun i => decide (cKd (σ 330 i) = 1)) d (n + j) → gE 189 0 [some (.ref 323)] [] (gup σ 323 11 (iN (n + j))) K := by
    intro d
    induction d with
    | zero =>
      intro j hj hE
      have hE : S = n + j := hE
      refine w189 ?_
      rw [f11, f8, f30]
      refine ⟨fun _ => ?_, fun q => absurd ((iN_lt (by omega) (by omega)).mp q) (by omega)⟩
      rw [← hE]
      exact fin (by omega)
    | succ d ih =>
      intro j hj hE
      have b : 0 ≤ iN (n + j) ∧ iN (n + j) < 1000 := ⟨(iN_le (k := 0) (by decide) (by omega)).mpr (by omega), (iN_lt (m := 1000) (by omega) (by decide)).mpr (by omega)⟩
      refine w189 ?_
      rw [f11, f8, f30, iN_nat (by omega), gup_tw, iN_one]
      unfold skp at hE
      refine ⟨fun q => absurd ((iN_lt (by omega) (by omega)).mpr (by omega)) q, fun _ => ⟨b, fun h => ?_, fun h => ⟨b, fun h2 => ?_, fun h2 => ?_⟩⟩⟩
      · rw [if_pos (decide_eq_true (cKd_1.mpr (Or.inl h)))] at hE
        exact ih (j + 1) (by omega) hE
      · rw [if_neg (fun q => (cKd_1.mp (of_decide_eq_true q)).elim h h2)] at hE
        rw [← hE]
        exact fin (by omega)
      · rw [if_pos (decide_eq_true (cKd_1.mpr (Or.inr h2)))] at hE
        exact ih (j + 1) (by omega) hE
  have := key (L - n) 0 (by omega) hS.symm
  rw [Nat.add_zero, gup_id en] at this
  exact this
noncomputable def f189 : gD := fun Lv σ => match Lv with
  | [some (.ref q0)] => cond (Nat.beq q0 323) (some (some (NX σ), none, rNx σ)) none
  | _ => none
theorem ok189 : gFok 189 f189 := by
  intro Lv σ q h hc K hK
  unfold f189 at h
  split at h
  · rename_i q0
    obtain ⟨hb, h⟩ := c_no h
    have hb0 := hb
    have e0 := b_eq hb0
    subst e0
    cases h
    exact s189 (hc _ rfl) hK
  · cases h
noncomputable def gpdx_l : List (Nat × gD) := (189, f189) :: gpdw_l
noncomputable def gpdx : gP := gpl0 gpdx_l
theorem gpdx_ok : gPok gpdx := gpl0_cons ok189 (gpdw_ok)
end
section
-- text 90
/-! THE REFERENCE: what must stand, and what may -/
theorem rPl_b {T : gW} {L S : Nat} (h : S ≤ L) : rPl T L S ≤ L := by
  have a := rnE_b (c := 2) (T := T) h
  have b := rnE_b (c := 3) (T := T) h
  unfold rPl
  split
  · omega
  · split
    · omega
    · split <;> omega
theorem rNx_far {σ : gS} {q : Nat} (h : ¬ q = 323) : rNx σ q = σ q := by
  rw [rNx_e]
  funext j
  unfold rNx4
  rw [if_neg h]
theorem rNx_3 {σ : gS} {j : Nat} (h : j < 11 ∨ 14 < j) : rNx σ 323 j = σ 323 j := by
  rw [rNx_e]
  unfold rNx4
  rw [if_pos rfl, if_neg (by omega), if_neg (by omega), if_neg (by omega), if_neg (by omega)]
theorem rNx_NX {σ : gS} (h : NX σ) : NX (rNx σ) := by
  obtain ⟨L, n, eL, en, lL, ln, nL, nn⟩ := NX_n h
  have e8 : rNx σ 323 8 = σ 323 8 := rNx_3 (by omega)
  have b := tkS_b (T := σ 330) ln
  have b2 := rPl_b (T := σ 330) b.2
  have e11 : rNx σ 323 11 = iN (rPl (σ 330) L (tkS (σ 330) L n)) := by
    rw [rNx_e]
    unfold rNx4 rSt
    rw [if_pos rfl, if_pos rfl, nL, nn]
  refine ⟨?_, ?_⟩
  · show 0 ≤ rNx σ 323 8 ∧ rNx σ 323 8 ≤ 1000
    rw [e8]
    exact h.1
  · rw [e8, e11, eL]
    exact ⟨(iN_le (k := 0) (by decide) (by omega)).mpr (by omega), (iN_le (by omega) (by omega)).mpr b2⟩
abbrev rIs (σ : gS) (w : Int32) : Prop := σ 323 13 = 1 ∧ σ 323 14 = w
theorem rTk_x : ∃ f : gS → Int32 → gS, ∀ σ c, f σ c = if σ 323 15 = 0 then (if c = 0 then gup (gup σ 323 15 1) 323 9 (σ 323 12) else rNx σ) else σ := ⟨fun σ c => if σ 323 15 = 0 then (if c = 0 then gup (gup σ 323 15 1) 323 9 (σ 323 12) else rNx σ) else σ, fun _ _ => rfl⟩
noncomputable def rTk : gS → Int32 → gS := Classical.choose rTk_x
theorem rTk_e : ∀ σ c, rTk σ c = if σ 323 15 = 0 then (if c = 0 then gup (gup σ 323 15 1) 323 9 (σ 323 12) else rNx σ) else σ := Classical.choose_spec rTk_x
theorem rTk_far {σ : gS} {c : Int32} {q : Nat} (h : ¬ q = 323) : rTk σ c q = σ q := by
  rw [rTk_e]
  split
  · split
    · funext j; rw [gup_ne (by omega), gup_ne (by omega)]
    · exact rNx_far h
  · rfl
theorem NX_cg {σ τ : gS} (h : NX σ) (h1 : τ 323 8 = σ 323 8) (h2 : τ 323 11 = σ 323 11) : NX τ := by
  refine ⟨?_, ?_⟩
  · show 0 ≤ τ 323 8 ∧ τ 323 8 ≤ 1000
    rw [h1]
    exact h.1
  · rw [h1, h2]
    exact h.2
theorem NX_25 {σ : gS} {j : Nat} {x : Int32} (h : NX σ) : NX (gup σ 325 j x) := NX_cg h (gup_ne (by omega)) (gup_ne (by omega))
theorem rTk_NX {σ : gS} {c : Int32} (h : NX σ) : NX (rTk σ c) := by
  rw [rTk_e]
  split
  · split
    · exact NX_cg h (by rw [gup_ne (by omega), gup_ne (by omega)]) (by rw [gup_ne (by omega), gup_ne (by omega)])
    · exact rNx_NX h
  · exact h
/-- a number -/
abbrev rOk (σ : gS) (a b : Int32) : Prop := σ 323 13 = 2 ∧ (a ≤ σ 323 14 ∧ σ 323 14 ≤ b)
noncomputable def rTn (σ : gS) (a b : Int32) : gS := rTk σ (bI (rOk σ a b))
theorem rTn_e (σ : gS) (a b : Int32) : rTn σ a b = rTk σ (bI (rOk σ a b)) := rfl
noncomputable def rNm (σ : gS) (a b : Int32) : Int32 := if σ 323 15 = 0 ∧ rOk σ a b then σ 323 14 else 0
theorem rTn_far {σ : gS} {a b : Int32} {q : Nat} (h : ¬ q = 323) : rTn σ a b q = σ q := rTk_far h
theorem rTn_NX {σ : gS} {a b : Int32} (h : NX σ) : NX (rTn σ a b) := rTk_NX h
/-- a like -/
noncomputable def rLk (σ : gS) : gS := rTk σ (bI (σ 323 13 = 5 ∨ σ 323 13 = 4))
theorem rLk_e (σ : gS) : rLk σ = rTk σ (bI (σ 323 13 = 5 ∨ σ 323 13 = 4)) := rfl
theorem rLk_far {σ : gS} {q : Nat} (h : ¬ q = 323) : rLk σ q = σ q := rTk_far h
theorem rLk_NX {σ : gS} (h : NX σ) : NX (rLk σ) := rTk_NX h
noncomputable def rLi (σ : gS) : Int32 := (if σ 323 13 = 5 then -1 else 1) * rNm (rLk σ) 0 9
/-- may a word stand here? -/
abbrev rTw (σ : gS) (w : Int32) : Prop := σ 323 15 = 0 ∧ rIs σ w
set_option maxRecDepth 20000 in
theorem w192 {σ : gS} {K : gK} {w : Int32} (h : ((¬ (σ 323 13) = 1 → ((0 : Int32) = 0 ∨ (0 : Int32) = 1) ∧ K (some (.int 0)) σ) ∧ ((σ 323 13) = 1 → ((¬ (σ 323 14) = w → ((0 : Int32) = 0 ∨ (0 : Int32) = 1) ∧ K (some (.int 0)) σ) ∧ ((σ 323 14) = w → ((1 : Int32) = 0 ∨ (1 : Int32) = 1) ∧ K (some (.int 1)) σ))))) : gE 192 0 [some (.ref 323), some (.int w)] [] σ K :=
  gw_run (cy := 192) (cuts := []) (inl := []) (pf := gpdx) gpdx_ok 400 (by decide) h
theorem s192 {σ : gS} {K : gK} {w : Int32} (hK : K (some (.int (bI (rIs σ w)))) σ) : gE 192 0 [some (.ref 323), some (.int w)] [] σ K := by
  refine w192 ⟨fun h => ⟨Or.inl rfl, ?_⟩, fun h => ⟨fun h2 => ⟨Or.inl rfl, ?_⟩, fun h2 => ⟨Or.inr rfl, ?_⟩⟩⟩
  · rw [bI_n (fun q => h q.1)] at hK; exact hK
  · rw [bI_n (fun q => h2 q.2)] at hK; exact hK
  · rw [bI_y ⟨h, h2⟩] at hK; exact hK
noncomputable def f192 : gD := fun Lv σ => match Lv with
  | [some (.ref q0), some (.int w)] => cond (Nat.beq q0 323) (some (none, some (.int (bI (rIs σ w))), σ)) none
  | _ => none
theorem ok192 : gFok 192 f192 := by
  intro Lv σ q h hc K hK
  unfold f192 at h
  split at h
  · rename_i q0 w
    obtain ⟨hb, h⟩ := c_no h
    have hb0 := hb
    have e0 := b_eq hb0
    subst e0
    cases h
    exact s192 hK
  · cases h
set_option maxRecDepth 20000 in
theorem w194 {σ : gS} {K : gK} {c : Int32} (h : (((σ 323 15) = 0 → ((¬ c = 0 → (NX σ) ∧ ((1 : Int32) = 0 ∨ (1 : Int32) = 1) ∧ K (some (.int 1)) (rNx σ)) ∧ (c = 0 → ((1 : Int32) = 0 ∨ (1 : Int32) = 1) ∧ ((0 : Int32) = 0 ∨ (0 : Int32) = 1) ∧ K (some (.int 0)) (gup (gup σ 323 15 1) 323 9 ((gup σ 323 15 1) 323 12))))) ∧ (¬ (σ 323 15) = 0 → ((0 : Int32) = 0 ∨ (0 : Int32) = 1) ∧ K (some (.int 0)) σ))) : gE 194 0 [some (.ref 323), some (.int c)] [] σ K :=
  gw_run (cy := 194) (cuts := []) (inl := []) (pf := gpdx) gpdx_ok 400 (by decide) h
theorem s194 {σ : gS} {K : gK} {c : Int32} (hc : NX σ) (hK : K (some (.int (bI (σ 323 15 = 0 ∧ ¬ c = 0)))) (rTk σ c)) : gE 194 0 [some (.ref 323), some (.int c)] [] σ K := by
  rw [rTk_e] at hK
  refine w194 ⟨fun h => ⟨fun h2 => ⟨hc, Or.inr rfl, ?_⟩, fun h2 => ⟨Or.inr rfl, Or.inl rfl, ?_⟩⟩, fun h => ⟨Or.inl rfl, ?_⟩⟩
  · rw [bI_y ⟨h, h2⟩, if_pos h, if_neg h2] at hK; exact hK
  · rw [bI_n (fun q => q.2 h2), if_pos h, if_pos h2] at hK
    rw [show gup σ 323 15 1 323 12 = σ 323 12 from gup_ne (by omega)]
    exact hK
  · rw [bI_n (fun q => h q.1), if_neg h] at hK; exact hK
noncomputable def f194 : gD := fun Lv σ => match Lv with
  | [some (.ref q0), some (.int c)] => cond (Nat.beq q0 323) (some (some (NX σ), some (.int (bI (σ 323 15 = 0 ∧ ¬ c = 0))), rTk σ c)) none
  | _ => none
theorem ok194 : gFok 194 f194 := by
  intro Lv σ q h hc K hK
  unfold f194 at h
  split at h
  · rename_i q0 c
    obtain ⟨hb, h⟩ := c_no h
    have hb0 := hb
    have e0 := b_eq hb0
    subst e0
    cases h
    exact s194 (hc _ rfl) hK
  · cases h
noncomputable def gpdy_l : List (Nat × gD) := (192, f192) :: (194, f194) :: gpdx_l
noncomputable def gpdy : gP := gpl0 gpdy_l
theorem gpdy_ok : gPok gpdy := gpl0_cons ok192 (gpl0_cons ok194 (gpdx_ok))
set_option maxRecDepth 20000 in
theorem w195 {σ : gS} {K : gK} {a b : Int32} (h : ((¬ (σ 323 13) = 2 → (NX σ) ∧ (((bI (σ 323 15 = 0 ∧ ¬ (0 : Int32) = 0)) = 0 → K (some (.int 0)) (rTk σ (0 : Int32))) ∧ (¬ (bI (σ 323 15 = 0 ∧ ¬ (0 : Int32) = 0)) = 0 → K (some (.int (σ 323 14))) (rTk σ (0 : Int32))))) ∧ ((σ 323 13) = 2 → (((bI (a ≤ (σ 323 14) ∧ (σ 323 14) ≤ b)) = 0 → (NX σ) ∧ (((bI (σ 323 15 = 0 ∧ ¬ (0 : Int32) = 0)) = 0 → K (some (.int 0)) (rTk σ (0 : Int32))) ∧ (¬ (bI (σ 323 15 = 0 ∧ ¬ (0 : Int32) = 0)) = 0 → K (some (.int (σ 323 14))) (rTk σ (0 : Int32))))) ∧ (¬ (bI (a ≤ (σ 323 14) ∧ (σ 323 14) ≤ b)) = 0 → (NX σ) ∧ (((bI (σ 323 15 = 0 ∧ ¬ (1 : Int32) = 0)) = 0 → K (some (.int 0)) (rTk σ (1 : Int32))) ∧ (¬ (bI (σ 323 15 = 0 ∧ ¬ (1 : Int32) = 0)) = 0 → K (some (.int (σ 323 14))) (rTk σ (1 : Int32))))))))) : gE 195 0 [some (.ref 323), some (.int a), some (.int b), none] [] σ K :=
  gw_run (cy := 195) (cuts := []) (inl := []) (pf := gpdy) gpdy_ok 400 (by decide) h
theorem s195 {σ : gS} {K : gK} {a b : Int32} (hc : NX σ) (hK : K (some (.int (rNm σ a b))) (rTn σ a b)) : gE 195 0 [some (.ref 323), some (.int a), some (.int b), none] [] σ K := by
  rw [rTn_e] at hK
  unfold rNm at hK
  refine w195 ?_
  by_cases h : σ 323 13 = 2
  · by_cases h2 : a ≤ σ 323 14 ∧ σ 323 14 ≤ b
    · have r : rOk σ a b := ⟨h, h2⟩
      rw [bI_y r] at hK
      rw [bI_y h2]
      refine ⟨fun z => absurd h z, fun _ => ⟨fun z => absurd z (by decide), fun _ => ⟨hc, fun h3 => ?_, fun h3 => ?_⟩⟩⟩
      · rw [if_neg (fun z => bI_0.mp h3 ⟨z.1, by decide⟩)] at hK; exact hK
      · have h3 := Decidable.not_not.mp (fun z => h3 (bI_0.mpr z))
        rw [if_pos ⟨h3.1, r⟩] at hK; exact hK
    · rw [if_neg (fun z => h2 z.2.2), bI_n (fun z => h2 z.2)] at hK
      rw [bI_n h2]
      exact ⟨fun z => absurd h z, fun _ => ⟨fun _ => ⟨hc, fun _ => hK, fun h3 => absurd (bI_0.mpr (fun z => z.2 rfl)) h3⟩, fun z => absurd rfl z⟩⟩
  · rw [if_neg (fun z => h z.2.1), bI_n (fun z => h z.1)] at hK
    exact ⟨fun _ => ⟨hc, fun _ => hK, fun h3 => absurd (bI_0.mpr (fun z => z.2 rfl)) h3⟩, fun z => absurd z h⟩
noncomputable def f195 : gD := fun Lv σ => match Lv with
  | [some (.ref q0), some (.int a), some (.int b), none] => cond (Nat.beq q0 323) (some (some (NX σ), some (.int (rNm σ a b)), rTn σ a b)) none
  | _ => none
theorem ok195 : gFok 195 f195 := by
  intro Lv σ q h hc K hK
  unfold f195 at h
  split at h
  · rename_i q0 a b
    obtain ⟨hb, h⟩ := c_no h
    have hb0 := hb
    have e0 := b_eq hb0
    subst e0
    cases h
    exact s195 (hc _ rfl) hK
  · cases h
set_option maxRecDepth 20000 in
theorem w196 {σ : gS} {K : gK} {w : Int32} (h : ((¬ (σ 323 15) = 0 → ((0 : Int32) = 0 ∨ (0 : Int32) = 1) ∧ K (some (.int 0)) σ) ∧ ((σ 323 15) = 0 → ((¬ (bI (rIs σ w)) = 0 → (NX σ) ∧ ((1 : Int32) = 0 ∨ (1 : Int32) = 1) ∧ K (some (.int 1)) (rNx σ)) ∧ ((bI (rIs σ w)) = 0 → ((0 : Int32) = 0 ∨ (0 : Int32) = 1) ∧ K (some (.int 0)) σ))))) : gE 196 0 [some (.ref 323), some (.int w)] [] σ K :=
  gw_run (cy := 196) (cuts := []) (inl := []) (pf := gpdy) gpdy_ok 400 (by decide) h
theorem s196 {σ : gS} {K : gK} {w : Int32} (hc : NX σ) (hK : K (some (.int (bI (rTw σ w)))) (if rTw σ w then rNx σ else σ)) : gE 196 0 [some (.ref 323), some (.int w)] [] σ K := by
  refine w196 ⟨fun h => ⟨Or.inl rfl, ?_⟩, fun h => ⟨fun h2 => ⟨hc, Or.inr rfl, ?_⟩, fun h2 => ⟨Or.inl rfl, ?_⟩⟩⟩
  · rw [bI_n (fun q => h q.1), if_neg (fun q => h q.1)] at hK; exact hK
  · have q := Decidable.not_not.mp (fun z => h2 (bI_0.mpr z))
    rw [bI_y ⟨h, q⟩, if_pos ⟨h, q⟩] at hK; exact hK
  · rw [bI_n (fun q => bI_0.mp h2 q.2), if_neg (fun q => bI_0.mp h2 q.2)] at hK; exact hK
noncomputable def f196 : gD := fun Lv σ => match Lv with
  | [some (.ref q0), some (.int w)] => cond (Nat.beq q0 323) (some (some (NX σ), some (.int (bI (rTw σ w))), if rTw σ w then rNx σ else σ)) none
  | _ => none
theorem ok196 : gFok 196 f196 := by
  intro Lv σ q h hc K hK
  unfold f196 at h
  split at h
  · rename_i q0 w
    obtain ⟨hb, h⟩ := c_no h
    have hb0 := hb
    have e0 := b_eq hb0
    subst e0
    cases h
    exact s196 (hc _ rfl) hK
  · cases h
noncomputable def gpdz_l : List (Nat × gD) := (195, f195) :: (196, f196) :: gpdy_l
noncomputable def gpdz : gP := gpl0 gpdz_l
theorem gpdz_ok : gPok gpdz := gpl0_cons ok195 (gpl0_cons ok196 (gpdy_ok))
set_option maxRecDepth 20000 in
theorem w197 {σ : gS} {K : gK} (h : ((¬ (σ 323 13) = 5 → (((σ 323 13) = 5 → (NX σ) ∧ (NX (rTk σ (1 : Int32))) ∧ K (some (.int (1 * (rNm (rTk σ (1 : Int32)) (0 : Int32) (9 : Int32))))) (rTn (rTk σ (1 : Int32)) (0 : Int32) (9 : Int32))) ∧ (¬ (σ 323 13) = 5 → ((¬ (σ 323 13) = 4 → (NX σ) ∧ (NX (rTk σ (0 : Int32))) ∧ K (some (.int (1 * (rNm (rTk σ (0 : Int32)) (0 : Int32) (9 : Int32))))) (rTn (rTk σ (0 : Int32)) (0 : Int32) (9 : Int32))) ∧ ((σ 323 13) = 4 → (NX σ) ∧ (NX (rTk σ (1 : Int32))) ∧ K (some (.int (1 * (rNm (rTk σ (1 : Int32)) (0 : Int32) (9 : Int32))))) (rTn (rTk σ (1 : Int32)) (0 : Int32) (9 : Int32))))))) ∧ ((σ 323 13) = 5 → (((σ 323 13) = 5 → (NX σ) ∧ (NX (rTk σ (1 : Int32))) ∧ K (some (.int ((-1) * (rNm (rTk σ (1 : Int32)) (0 : Int32) (9 : Int32))))) (rTn (rTk σ (1 : Int32)) (0 : Int32) (9 : Int32))) ∧ (¬ (σ 323 13) = 5 → ((¬ (σ 323 13) = 4 → (NX σ) ∧ (NX (rTk σ (0 : Int32))) ∧ K (some (.int ((-1) * (rNm (rTk σ (0 : Int32)) (0 : Int32) (9 : Int32))))) (rTn (rTk σ (0 : Int32)) (0 : Int32) (9 : Int32))) ∧ ((σ 323 13) = 4 → (NX σ) ∧ (NX (rTk σ (1 : Int32))) ∧ K (some (.int ((-1) * (rNm (rTk σ (1 : Int32)) (0 : Int32) (9 : Int32))))) (rTn (rTk σ (1 : Int32)) (0 : Int32) (9 : Int32))))))))) : gE 197 0 [some (.ref 323), none] [] σ K :=
  gw_run (cy := 197) (cuts := []) (inl := []) (pf := gpdz) gpdz_ok 400 (by decide) h
theorem s197 {σ : gS} {K : gK} (hc : NX σ) (hK : K (some (.int (rLi σ))) (rTn (rLk σ) 0 9)) : gE 197 0 [some (.ref 323), none] [] σ K := by
  unfold rLi at hK
  have k := rLk_NX hc
  rw [rLk_e] at hK k
  refine w197 ?_
  by_cases h : σ 323 13 = 5
  · rw [bI_y (Or.inl h)] at hK k
    rw [if_pos h] at hK
    exact ⟨fun z => absurd h z, fun _ => ⟨fun _ => ⟨hc, k, hK⟩, fun z => absurd h z⟩⟩
  · by_cases h2 : σ 323 13 = 4
    · rw [bI_y (Or.inr h2)] at hK k
      rw [if_neg h] at hK
      exact ⟨fun _ => ⟨fun z => absurd z h, fun _ => ⟨fun z => absurd h2 z, fun _ => ⟨hc, k, hK⟩⟩⟩, fun z => absurd z h⟩
    · rw [bI_n (fun z => z.elim h h2)] at hK k
      rw [if_neg h] at hK
      exact ⟨fun _ => ⟨fun z => absurd z h, fun _ => ⟨fun _ => ⟨hc, k, hK⟩, fun z => absurd z h2⟩⟩, fun z => absurd z h⟩
noncomputable def f197 : gD := fun Lv σ => match Lv with
  | [some (.ref q0), none] => cond (Nat.beq q0 323) (some (some (NX σ), some (.int (rLi σ)), rTn (rLk σ) 0 9)) none
  | _ => none
theorem ok197 : gFok 197 f197 := by
  intro Lv σ q h hc K hK
  unfold f197 at h
  split at h
  · rename_i q0
    obtain ⟨hb, h⟩ := c_no h
    have hb0 := hb
    have e0 := b_eq hb0
    subst e0
    cases h
    exact s197 (hc _ rfl) hK
  · cases h
noncomputable def gpea_l : List (Nat × gD) := (197, f197) :: gpdz_l
noncomputable def gpea : gP := gpl0 gpea_l
theorem gpea_ok : gPok gpea := gpl0_cons ok197 (gpdz_ok)
end
section
-- text 91
/-! THE REFERENCE: a seat is read, its steps -/
/-- a word has a number that is not below 0 -/
noncomputable def KV (σ : gS) : Prop := σ 323 13 = 1 → 0 ≤ σ 323 14
theorem skp_in {P : Nat → Bool} : ∀ {d s i : Nat}, s ≤ i → i < skp P d s → P i = true
  | 0, s, i, h, h2 => by
    have h2 : i < s := h2
    omega
  | d + 1, s, i, h, h2 => by
    unfold skp at h2
    by_cases q : P s = true
    · rw [if_pos q] at h2
      by_cases e : i = s
      · subst e; exact q
      · exact skp_in (d := d) (s := s + 1) (by omega) h2
    · rw [if_neg q] at h2
      omega
/-- the letters from S on -/
noncomputable def dgS (T : gW) (S i : Nat) : Nat := dgt (fun k => T (S + k)) i
theorem wvN_e {T : gW} {S : Nat} : ∀ {k : Nat}, k ≤ 6 → (∀ i, i < k → isSm (T (S + i))) → wvN T S k = iN (nRd (dgS T S) k) ∧ nRd (dgS T S) k < 27 ^ 6
  | 0, _, _ => ⟨rfl, (show (0 : Nat) < 27 ^ 6 from by decide)⟩
  | k + 1, h6, hs => by
    obtain ⟨ih, _⟩ := wvN_e (T := T) (S := S) (k := k) (by omega) (fun j hj => hs j (by omega))
    obtain ⟨e1, e2, e3⟩ := dgt_of (hs k (by omega))
    have l : nRd (dgS T S) k < 27 ^ 5 := Nat.lt_of_lt_of_le (nRd_lt (fun i hi => (dgt_of (hs i (by omega))).2.2)) (Nat.pow_le_pow_right (by decide) (by omega))
    have l5 : (27 : Nat) ^ 5 = 14348907 := by decide
    have l6 : (27 : Nat) ^ 6 = 387420489 := by decide
    have ed : dgS T S k = (T (S + k)).toNatClampNeg - 96 := rfl
    rw [l5] at l
    rw [l6]
    refine ⟨?_, ?_⟩
    · show 27 * wvN T S k + T (S + k) - 96 = iN (27 * nRd (dgS T S) k + dgS T S k)
      rw [ih, e1]
      show iN 27 * iN (nRd (dgS T S) k) + iN (96 + ((T (S + k)).toNatClampNeg - 96)) - 96 = _
      rw [← ed, iN_mul, iN_add, show 27 * nRd (dgS T S) k + dgS T S k = 27 * nRd (dgS T S) k + (96 + dgS T S k) - 96 by omega]
      exact iN_sub (d := 96) (by omega) (by omega)
    · show 27 * nRd (dgS T S) k + dgS T S k < _
      omega
theorem rnE_in {c : Int32} {T : gW} {L S : Nat} : ∀ i, i < rnE c T L S - S → cKd (T (S + i)) = c := fun i hi => of_decide_eq_true (skp_in (P := fun i => decide (cKd (T i) = c)) (d := L - S) (s := S) (i := S + i) (by omega) (by unfold rnE at hi; omega))
theorem rNx_KV {σ : gS} : KV (rNx σ) := by
  intro h
  rw [rNx_e] at h ⊢
  unfold rNx4 at h ⊢
  rw [if_pos rfl, if_neg (by decide), if_neg (by decide), if_pos rfl] at h
  rw [if_pos rfl, if_neg (by decide), if_neg (by decide), if_neg (by decide), if_pos rfl]
  obtain ⟨S, hS⟩ : ∃ S, rSt σ = S := ⟨_, rfl⟩
  obtain ⟨L, hL⟩ : ∃ L, (σ 323 8).toNatClampNeg = L := ⟨_, rfl⟩
  rw [hS, hL] at h ⊢
  unfold rKi at h
  unfold rVa
  by_cases q : S = L
  · rw [if_pos q] at h
    exact absurd h (by decide)
  · rw [if_neg q] at h ⊢
    by_cases q1 : isSm (σ 330 S)
    · rw [if_pos q1] at h ⊢
      have hp : rPl (σ 330) L S = rnE 2 (σ 330) L S := by unfold rPl; rw [if_neg q, if_pos q1]
      rw [hp] at h ⊢
      by_cases q2 : 6 < rnE 2 (σ 330) L S - S
      · rw [if_pos q2] at h
        exact absurd h (by decide)
      · rw [show min (rnE 2 (σ 330) L S - S) 6 = rnE 2 (σ 330) L S - S by omega]
        obtain ⟨e, l⟩ := wvN_e (T := σ 330) (S := S) (k := rnE 2 (σ 330) L S - S) (by omega) (fun i hi => cKd_2.mp (rnE_in i hi))
        have l6 : (27 : Nat) ^ 6 = 387420489 := by decide
        rw [e]
        exact (iN_le (k := 0) (by decide) (by omega)).mpr (by omega)
    · rw [if_neg q1] at h ⊢
      by_cases q2 : isDg (σ 330 S)
      · rw [if_pos q2] at h
        exfalso
        split at h
        · exact absurd h (by decide)
        · exact absurd h (by decide)
      · rw [if_neg q2]
        decide
theorem rTk_KV {σ : gS} {c : Int32} (h : KV σ) : KV (rTk σ c) := by
  rw [rTk_e]
  split
  · split
    · intro q
      rw [gup_ne (by omega), gup_ne (by omega)] at q ⊢
      exact h q
    · exact rNx_KV
  · exact h
theorem rTk_f {σ : gS} {c : Int32} (h : ¬ σ 323 15 = 0) : rTk σ c = σ := by rw [rTk_e, if_neg h]
noncomputable def qT (σ : gS) (n : Nat) : gS := if rTw σ 291828332 then gup (rNx σ) 325 (9 + 10 * n + 1) 1 else σ
noncomputable def qF (σ : gS) (n : Nat) : gS := if rTw σ 86887672 then gup (rTn (rNx σ) 1 9) 325 (9 + 10 * n + 2) (rNm (rNx σ) 1 9) else σ
noncomputable def qW (σ : gS) (n : Nat) : gS := if rTw σ 335086736 then gup (rTn (rLk (rNx σ)) 0 9) 325 (9 + 10 * n + 3) (rLi (rNx σ)) else σ
noncomputable def qAh (σ : gS) (n : Nat) : gS := if rTw σ 692581 then gup (rTn (rLk (rNx σ)) 0 9) 325 (9 + 10 * n + 4) (rLi (rNx σ)) else σ
noncomputable def qR1 (σ : gS) (n : Nat) : gS := gup (rTn (rNx σ) 0 (σ 325 0 - 1)) 325 (9 + 10 * n + 5) (rNm (rNx σ) 0 (σ 325 0 - 1))
noncomputable def qR (σ : gS) (n : Nat) : gS := if rTw σ 13550 then gup (rTn (qR1 σ n) 0 3) 325 (9 + 10 * n + 6) (rNm (qR1 σ n) 0 3) else σ
noncomputable def qS (σ : gS) (n : Nat) : gS := if rTw σ 284954995 then gup (rTn (rNx σ) 0 99) 325 (9 + 10 * n + 7) (rNm (rNx σ) 0 99) else σ
noncomputable def qP (σ : gS) (n : Nat) : gS := if rTw σ 388978 then gup (rTn (rNx σ) 1 99) 325 (9 + 10 * n + 8) (rNm (rNx σ) 1 99) else σ
noncomputable def qZ (σ : gS) (n : Nat) (x : Int32) : gS := if σ 323 13 = 3 ∧ fMay (σ 325) n x then (if σ 323 15 = 0 then gup (rTk σ 1) 325 3 (rTk σ 1 325 3 + 1) else σ) else rTk σ 0
/-- what the steps leave: the parser can go on; no other place is touched; the train's head stays -/
noncomputable def qI (σ τ : gS) : Prop := (NX σ → NX τ) ∧ (∀ q, ¬ q = 323 → ¬ q = 325 → τ q = σ q) ∧ (∀ j, j < 9 → τ 325 j = σ 325 j)
theorem qI_id (σ : gS) : qI σ σ := ⟨fun h => h, fun _ _ _ => rfl, fun _ _ => rfl⟩
theorem qI_t {σ τ ρ : gS} (h : qI σ τ) (h2 : qI τ ρ) : qI σ ρ := ⟨fun h3 => h2.1 (h.1 h3), fun q a b => (h2.2.1 q a b).trans (h.2.1 q a b), fun j hj => (h2.2.2 j hj).trans (h.2.2 j hj)⟩
theorem qI_25 {σ τ : gS} {j : Nat} {x : Int32} (h : qI σ τ) (hj : 9 ≤ j) : qI σ (gup τ 325 j x) := qI_t h ⟨fun h => NX_25 h, fun q a b => funext fun i => gup_ne (by omega), fun i hi => gup_ne (by omega)⟩
theorem qI_nx (σ : gS) : qI σ (rNx σ) := ⟨rNx_NX, fun q a _ => rNx_far a, fun j _ => by rw [rNx_far (by decide)]⟩
theorem qI_tk (σ : gS) (c : Int32) : qI σ (rTk σ c) := ⟨rTk_NX, fun q a _ => rTk_far a, fun j _ => by rw [rTk_far (by decide)]⟩
theorem qI_tn (σ : gS) (a b : Int32) : qI σ (rTn σ a b) := qI_tk _ _
theorem qI_lk (σ : gS) : qI σ (rLk σ) := qI_tk _ _
theorem qT_I {σ : gS} {n : Nat} : qI σ (qT σ n) := by
  unfold qT
  split
  · exact qI_25 (qI_nx σ) (by omega)
  · exact qI_id σ
theorem qF_I {σ : gS} {n : Nat} : qI σ (qF σ n) := by
  unfold qF
  split
  · exact qI_25 (qI_t (qI_nx σ) (qI_tn _ _ _)) (by omega)
  · exact qI_id σ
theorem qW_I {σ : gS} {n : Nat} : qI σ (qW σ n) := by
  unfold qW
  split
  · exact qI_25 (qI_t (qI_t (qI_nx σ) (qI_lk _)) (qI_tn _ _ _)) (by omega)
  · exact qI_id σ
theorem qAh_I {σ : gS} {n : Nat} : qI σ (qAh σ n) := by
  unfold qAh
  split
  · exact qI_25 (qI_t (qI_t (qI_nx σ) (qI_lk _)) (qI_tn _ _ _)) (by omega)
  · exact qI_id σ
theorem qR1_I {σ : gS} {n : Nat} : qI σ (qR1 σ n) := qI_25 (qI_t (qI_nx σ) (qI_tn _ _ _)) (by omega)
theorem qR_I {σ : gS} {n : Nat} : qI σ (qR σ n) := by
  unfold qR
  split
  · exact qI_25 (qI_t qR1_I (qI_tn _ _ _)) (by omega)
  · exact qI_id σ
theorem qS_I {σ : gS} {n : Nat} : qI σ (qS σ n) := by
  unfold qS
  split
  · exact qI_25 (qI_t (qI_nx σ) (qI_tn _ _ _)) (by omega)
  · exact qI_id σ
theorem qP_I {σ : gS} {n : Nat} : qI σ (qP σ n) := by
  unfold qP
  split
  · exact qI_25 (qI_t (qI_nx σ) (qI_tn _ _ _)) (by omega)
  · exact qI_id σ
noncomputable def qMid (σ : gS) (n : Nat) : gS := qP (qS (qR (qAh (qW (qF (qT σ n) n) n) n) n) n) n
theorem qMid_I {σ : gS} {n : Nat} : qI σ (qMid σ n) := qI_t (qI_t (qI_t (qI_t (qI_t (qI_t qT_I qF_I) qW_I) qAh_I) qR_I) qS_I) qP_I
abbrev q2c (σ : gS) (x : Int32) : Prop := σ 323 13 = 2 ∧ x < 4 * σ 325 0 ∧ fWho (σ 325) x < 0
abbrev q3c (σ : gS) : Prop := σ 323 13 = 1 ∧ (nsz (σ 323 14) ≤ 5 ∧ ¬ isKey (σ 323 14))
end
