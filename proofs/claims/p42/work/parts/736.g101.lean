/-! RELATION: load -/
theorem cLp_far {q : Nat} (h : ¬ q = 1) (h4 : ¬ q = 4) (h32 : q < 32 ∨ 56 ≤ q) : ∀ (d t : Nat) (σ : gS), t + d = 20 → (0 ≤ σ 32 7 ∧ σ 32 7 ≤ iN t) → cLp d σ q = σ q
  | 0, t, σ, hd, h7 => rfl
  | d + 1, t, σ, hd, h7 => by
    obtain ⟨a, b⟩ := cLp_st (by omega) h7
    unfold cLp
    split
    · rfl
    · rw [cLp_far h h4 h32 d (t + 1) _ (by omega) b]
      exact rTrv_far h h4 a h32
theorem cSet_far {σ : gS} {q : Nat} (h : ¬ q = 1) (h4 : ¬ q = 4) (h32 : q < 32 ∨ 57 ≤ q) : cSet σ q = σ q := by
  rw [cSet_e, cLp_far h h4 (by omega) 20 0 _ rfl (by rw [cSet0_7]; decide)]
  funext j
  rw [cSet0_ne h (by omega), cClT_ne (by omega) (by omega) (by omega)]
/-- the parser leaves the reference's other numbers and what is beyond the draft -/
noncomputable def qJ (σ τ : gS) : Prop := (∀ j, j < 9 → τ 323 j = σ 323 j) ∧ (∀ j, 330 ≤ j → τ 325 j = σ 325 j) ∧ ∀ q, ¬ q = 323 → ¬ q = 325 → τ q = σ q
theorem qJ_id (σ : gS) : qJ σ σ := ⟨fun _ _ => rfl, fun _ _ => rfl, fun _ _ _ => rfl⟩
theorem qJ_t {σ τ ρ : gS} (h : qJ σ τ) (h2 : qJ τ ρ) : qJ σ ρ := ⟨fun j hj => (h2.1 j hj).trans (h.1 j hj), fun j hj => (h2.2.1 j hj).trans (h.2.1 j hj), fun q a b => (h2.2.2 q a b).trans (h.2.2 q a b)⟩
theorem qJ_25 {σ τ : gS} {j : Nat} {x : Int32} (h : qJ σ τ) (hj : j < 330) : qJ σ (gup τ 325 j x) := qJ_t h ⟨fun i hi => gup_ne (by omega), fun i hi => gup_ne (by omega), fun q a b => funext fun i => gup_ne (by omega)⟩
theorem qJ_23 {σ τ : gS} {j : Nat} {x : Int32} (h : qJ σ τ) (hj : 9 ≤ j) : qJ σ (gup τ 323 j x) := qJ_t h ⟨fun i hi => gup_ne (by omega), fun i hi => gup_ne (by omega), fun q a b => funext fun i => gup_ne (by omega)⟩
theorem qJ_nx (σ : gS) : qJ σ (rNx σ) := ⟨fun j hj => rNx_3 (by omega), fun j _ => by rw [rNx_far (by decide)], fun q a _ => rNx_far a⟩
theorem qJ_tk (σ : gS) (c : Int32) : qJ σ (rTk σ c) := by
  rw [rTk_e]
  split
  · split
    · exact qJ_23 (qJ_23 (qJ_id σ) (by decide)) (by decide)
    · exact qJ_nx σ
  · exact qJ_id σ
theorem qJ_tn (σ : gS) (a b : Int32) : qJ σ (rTn σ a b) := qJ_tk _ _
theorem qJ_lk (σ : gS) : qJ σ (rLk σ) := qJ_tk _ _
theorem qT_J {σ : gS} {n : Nat} (hn : n < 20) : qJ σ (qT σ n) := by
  unfold qT
  split
  · exact qJ_25 (qJ_nx σ) (by omega)
  · exact qJ_id σ
theorem qF_J {σ : gS} {n : Nat} (hn : n < 20) : qJ σ (qF σ n) := by
  unfold qF
  split
  · exact qJ_25 (qJ_t (qJ_nx σ) (qJ_tn _ _ _)) (by omega)
  · exact qJ_id σ
theorem qW_J {σ : gS} {n : Nat} (hn : n < 20) : qJ σ (qW σ n) := by
  unfold qW
  split
  · exact qJ_25 (qJ_t (qJ_t (qJ_nx σ) (qJ_lk _)) (qJ_tn _ _ _)) (by omega)
  · exact qJ_id σ
theorem qAh_J {σ : gS} {n : Nat} (hn : n < 20) : qJ σ (qAh σ n) := by
  unfold qAh
  split
  · exact qJ_25 (qJ_t (qJ_t (qJ_nx σ) (qJ_lk _)) (qJ_tn _ _ _)) (by omega)
  · exact qJ_id σ
theorem qS_J {σ : gS} {n : Nat} (hn : n < 20) : qJ σ (qS σ n) := by
  unfold qS
  split
  · exact qJ_25 (qJ_t (qJ_nx σ) (qJ_tn _ _ _)) (by omega)
  · exact qJ_id σ
theorem qP_J {σ : gS} {n : Nat} (hn : n < 20) : qJ σ (qP σ n) := by
  unfold qP
  split
  · exact qJ_25 (qJ_t (qJ_nx σ) (qJ_tn _ _ _)) (by omega)
  · exact qJ_id σ
theorem qR_J {σ : gS} {n : Nat} (hn : n < 20) : qJ σ (qR σ n) := by
  unfold qR
  split
  · exact qJ_25 (qJ_t (qJ_25 (qJ_t (qJ_nx σ) (qJ_tn _ _ _)) (by omega)) (qJ_tn _ _ _)) (by omega)
  · exact qJ_id σ
theorem qMid_J {σ : gS} {n : Nat} (hn : n < 20) : qJ σ (qMid σ n) := qJ_t (qJ_t (qJ_t (qJ_t (qJ_t (qJ_t (qT_J hn) (qF_J hn)) (qW_J hn)) (qAh_J hn)) (qR_J hn)) (qS_J hn)) (qP_J hn)
theorem qZ_J {σ : gS} {n : Nat} {x : Int32} : qJ σ (qZ σ n x) := by
  unfold qZ
  split
  · split
    · exact qJ_25 (qJ_tk _ _) (by decide)
    · exact qJ_id σ
  · exact qJ_tk _ _
theorem hRs_J {σ : gS} {n : Nat} (h3 : σ 325 3 = iN n) (hn : n ≤ 20) : qJ σ (hRs σ) := by
  rw [hRs_e]
  split
  · rename_i q
    have l : n < 20 := by
      rw [h3] at q
      exact (iN_lt (m := 20) (by omega) (by decide)).mp q
    have en3 : (rTk σ 1 325 3).toNatClampNeg = n := by rw [rTk_25, h3, iN_nat (by omega)]
    unfold hRs1
    rw [en3]
    obtain ⟨b, hb⟩ : ∃ b, rTk (rTk σ 1) (bI (q2c (rTk σ 1) (rTk σ 1 323 14))) = b := ⟨_, rfl⟩
    have jb : qJ σ b := by rw [← hb]; exact qJ_t (qJ_tk _ _) (qJ_tk _ _)
    have nb : nM (b 325) = n := by rw [← hb]; unfold nM; rw [rTk_25, rTk_25, h3, iN_nat (by omega)]
    rw [hb]
    unfold hRs2
    split
    · have jg : qJ b (grow (rTk b 1) 325 (fNew (b 325) (rTk σ 1 323 14) (b 323 14))) := by
        refine qJ_t (qJ_tk b 1) ⟨fun i hi => by rw [grow_ne (by decide)], fun i hi => ?_, fun q a1 a2 => grow_ne a2⟩
        rw [grow_at, fNew_ne (by rw [nb]; omega), rTk_25]
      exact qJ_t jb (qJ_t jg (qJ_t (qMid_J l) qZ_J))
    · exact qJ_t jb (qJ_tk _ _)
  · exact qJ_tk _ _
theorem rLp_J : ∀ (d : Nat) (σ : gS), rHd d σ → qJ σ (rLp d σ)
  | 0, σ, _ => qJ_id σ
  | d + 1, σ, h => by
    unfold rLp
    split
    · exact qJ_id σ
    · rename_i q
      have f : σ 323 15 = 0 := Decidable.not_not.mp (fun z => q (Or.inl z))
      have st := rHd_st h f
      obtain ⟨hN, h | ⟨hk, n, h1, h2, h3⟩⟩ := h
      · exact absurd f h.1
      · exact qJ_t (hRs_J h3 h1) (rLp_J d _ st.2)
theorem dSet_J {σ : gS} (h : RT σ) : qJ σ (dSet σ) := by
  have j0 : qJ σ (dZk σ 330) := by
    unfold dZk
    refine ⟨fun j _ => by rw [grow_ne (by decide)], fun j hj => ?_, fun q a b => grow_ne b⟩
    rw [grow_at, if_neg (by omega)]
  have j1 : qJ σ (dSet0 σ) := by
    unfold dSet0 dS6 dS5 dS4 dS3 dS2 dS1
    exact qJ_t (qJ_25 (qJ_t (qJ_t (qJ_25 (qJ_t (qJ_t (qJ_t (qJ_23 (qJ_23 (qJ_23 j0 (by decide)) (by decide)) (by decide)) (qJ_nx _)) (qJ_tk _ _)) (qJ_tn _ _ _)) (by decide)) (qJ_tk _ _)) (qJ_tn _ _ _)) (by decide)) (qJ_tk _ _)
  rw [dSet_e]
  have j2 := qJ_t j1 (rLp_J 21 _ (dSet0_hd h))
  unfold hEd
  split
  · exact qJ_t j2 (qJ_tk _ _)
  · exact j2
/-- bytes are not below 0 -/
noncomputable def TB (σ : gS) : Prop := ∀ i, i < (σ 323 8).toNatClampNeg → ¬ σ 330 i = -1
theorem clL_hi {σ : gS} (h : 0 ≤ σ 2 1 ∧ σ 2 1 ≤ 1000) {q : Nat} (hq : (58 ≤ q ∧ ¬ q = 112 ∧ ¬ q = 113) ∨ q = 3 ∨ q = 5) : clL σ q = σ q := by
  obtain ⟨k, h7⟩ := cSet_ok h
  rw [clL_e]
  split
  · have n7 : (gup (gup (cSet σ) 0 9 (-2)) 2 1 0 32 7).toNatClampNeg ≤ 20 := by
      rw [gup_ne (by omega), gup_ne (by omega)]
      exact (c20 h7).2
    funext j
    unfold cLo1
    rw [gup_ne (by omega), gup_ne (by omega), gup_ne (by omega), cCo_far (by omega) n7, gup_ne (by omega), gup_ne (by omega), cSet_far (by omega) (by omega) (by omega)]
  · funext j
    unfold cLo0
    rw [gup_ne (by omega), gup_ne (by omega), cSet_far (by omega) (by omega) (by omega)]
