-- text 101
/-! RELATION: load -/
theorem cLp_far {q : Nat} (h : ¬ q = 1) (h4 : ¬ q = 4) (h32 : q < 32 ∨ 56 ≤ q) : ∀ (d t : Nat) (σ : gS), t + d = 20 → (0 ≤ σ 32 7 ∧ σ 32 7 ≤ iN t) → cLp d σ q = σ q
  | 0, t, σ, hd, h7 => rfl
  | d + 1, t, σ, hd, h7 => by
    obtain ⟨a, b⟩ := cLp_st (by omega) h7
    unfold cLp
    split
    · rfl
    · rw [cLp_far h h4 h32 d (t + 1) _ (by omega) b]
      exact rTrv_far h h4 a h32
theorem cSet_far {σ : gS} {q : Nat} (h : ¬ q = 1) (h4 : ¬ q = 4) (h32 : q < 32 ∨ 57 ≤ q) : cSet σ q = σ q := by
  rw [cSet_e, cLp_far h h4 (by omega) 20 0 _ rfl (by rw [cSet0_7]; decide)]
  funext j
  rw [cSet0_ne h (by omega), cClT_ne (by omega) (by omega) (by omega)]
/-- the parser leaves the reference's other numbers and what is beyond the draft -/
noncomputable def qJ (σ τ : gS) : Prop := (∀ j, j < 9 → τ 323 j = σ 323 j) ∧ (∀ j, 330 ≤ j → τ 325 j = σ 325 j) ∧ ∀ q, ¬ q = 323 → ¬ q = 325 → τ q = σ q
theorem qJ_id (σ : gS) : qJ σ σ := ⟨fun _ _ => rfl, fun _ _ => rfl, fun _ _ _ => rfl⟩
theorem qJ_t {σ τ ρ : gS} (h : qJ σ τ) (h2 : qJ τ ρ) : qJ σ ρ := ⟨fun j hj => (h2.1 j hj).trans (h.1 j hj), fun j hj => (h2.2.1 j hj).trans (h.2.1 j hj), fun q a b => (h2.2.2 q a b).trans (h.2.2 q a b)⟩
theorem qJ_25 {σ τ : gS} {j : Nat} {x : Int32} (h : qJ σ τ) (hj : j < 330) : qJ σ (gup τ 325 j x) := qJ_t h ⟨fun i hi => gup_ne (by omega), fun i hi => gup_ne (by omega), fun q a b => funext fun i => gup_ne (by omega)⟩
theorem qJ_23 {σ τ : gS} {j : Nat} {x : Int32} (h : qJ σ τ) (hj : 9 ≤ j) : qJ σ (gup τ 323 j x) := qJ_t h ⟨fun i hi => gup_ne (by omega), fun i hi => gup_ne (by omega), fun q a b => funext fun i => gup_ne (by omega)⟩
theorem qJ_nx (σ : gS) : qJ σ (rNx σ) := ⟨fun j hj => rNx_3 (by omega), fun j _ => by rw [rNx_far (by decide)], fun q a _ => rNx_far a⟩
theorem qJ_tk (σ : gS) (c : Int32) : qJ σ (rTk σ c) := by
  rw [rTk_e]
  split
  · split
    · exact qJ_23 (qJ_23 (qJ_id σ) (by decide)) (by decide)
    · exact qJ_nx σ
  · exact qJ_id σ
theorem qJ_tn (σ : gS) (a b : Int32) : qJ σ (rTn σ a b) := qJ_tk _ _
theorem qJ_lk (σ : gS) : qJ σ (rLk σ) := qJ_tk _ _
theorem qT_J {σ : gS} {n : Nat} (hn : n < 20) : qJ σ (qT σ n) := by
  unfold qT
  split
  · exact qJ_25 (qJ_nx σ) (by omega)
  · exact qJ_id σ
theorem qF_J {σ : gS} {n : Nat} (hn : n < 20) : qJ σ (qF σ n) := by
  unfold qF
  split
  · exact qJ_25 (qJ_t (qJ_nx σ) (qJ_tn _ _ _)) (by omega)
  · exact qJ_id σ
theorem qW_J {σ : gS} {n : Nat} (hn : n < 20) : qJ σ (qW σ n) := by
  unfold qW
  split
  · exact qJ_25 (qJ_t (qJ_t (qJ_nx σ) (qJ_lk _)) (qJ_tn _ _ _)) (by omega)
  · exact qJ_id σ
theorem qAh_J {σ : gS} {n : Nat} (hn : n < 20) : qJ σ (qAh σ n) := by
  unfold qAh
  split
  · exact qJ_25 (qJ_t (qJ_t (qJ_nx σ) (qJ_lk _)) (qJ_tn _ _ _)) (by omega)
  · exact qJ_id σ
theorem qS_J {σ : gS} {n : Nat} (hn : n < 20) : qJ σ (qS σ n) := by
  unfold qS
  split
  · exact qJ_25 (qJ_t (qJ_nx σ) (qJ_tn _ _ _)) (by omega)
  · exact qJ_id σ
theorem qP_J {σ : gS} {n : Nat} (hn : n < 20) : qJ σ (qP σ n) := by
  unfold qP
  split
  · exact qJ_25 (qJ_t (qJ_nx σ) (qJ_tn _ _ _)) (by omega)
  · exact qJ_id σ
theorem qR_J {σ : gS} {n : Nat} (hn : n < 20) : qJ σ (qR σ n) := by
  unfold qR
  split
  · exact qJ_25 (qJ_t (qJ_25 (qJ_t (qJ_nx σ) (qJ_tn _ _ _)) (by omega)) (qJ_tn _ _ _)) (by omega)
  · exact qJ_id σ
theorem qMid_J {σ : gS} {n : Nat} (hn : n < 20) : qJ σ (qMid σ n) := qJ_t (qJ_t (qJ_t (qJ_t (qJ_t (qJ_t (qT_J hn) (qF_J hn)) (qW_J hn)) (qAh_J hn)) (qR_J hn)) (qS_J hn)) (qP_J hn)
theorem qZ_J {σ : gS} {n : Nat} {x : Int32} : qJ σ (qZ σ n x) := by
  unfold qZ
  split
  · split
    · exact qJ_25 (qJ_tk _ _) (by decide)
    · exact qJ_id σ
  · exact qJ_tk _ _
theorem hRs_J {σ : gS} {n : Nat} (h3 : σ 325 3 = iN n) (hn : n ≤ 20) : qJ σ (hRs σ) := by
  rw [hRs_e]
  split
  · rename_i q
    have l : n < 20 := by
      rw [h3] at q
      exact (iN_lt (m := 20) (by omega) (by decide)).mp q
    have en3 : (rTk σ 1 325 3).toNatClampNeg = n := by rw [rTk_25, h3, iN_nat (by omega)]
    unfold hRs1
    rw [en3]
    obtain ⟨b, hb⟩ : ∃ b, rTk (rTk σ 1) (bI (q2c (rTk σ 1) (rTk σ 1 323 14))) = b := ⟨_, rfl⟩
    have jb : qJ σ b := by rw [← hb]; exact qJ_t (qJ_tk _ _) (qJ_tk _ _)
    have nb : nM (b 325) = n := by rw [← hb]; unfold nM; rw [rTk_25, rTk_25, h3, iN_nat (by omega)]
    rw [hb]
    unfold hRs2
    split
    · have jg : qJ b (grow (rTk b 1) 325 (fNew (b 325) (rTk σ 1 323 14) (b 323 14))) := by
        refine qJ_t (qJ_tk b 1) ⟨fun i hi => by rw [grow_ne (by decide)], fun i hi => ?_, fun q a1 a2 => grow_ne a2⟩
        rw [grow_at, fNew_ne (by rw [nb]; omega), rTk_25]
      exact qJ_t jb (qJ_t jg (qJ_t (qMid_J l) qZ_J))
    · exact qJ_t jb (qJ_tk _ _)
  · exact qJ_tk _ _
theorem rLp_J : ∀ (d : Nat) (σ : gS), rHd d σ → qJ σ (rLp d σ)
  | 0, σ, _ => qJ_id σ
  | d + 1, σ, h => by
    unfold rLp
    split
    · exact qJ_id σ
    · rename_i q
      have f : σ 323 15 = 0 := Decidable.not_not.mp (fun z => q (Or.inl z))
      have st := rHd_st h f
      obtain ⟨hN, h | ⟨hk, n, h1, h2, h3⟩⟩ := h
      · exact absurd f h.1
      · exact qJ_t (hRs_J h3 h1) (rLp_J d _ st.2)
theorem dSet_J {σ : gS} (h : RT σ) : qJ σ (dSet σ) := by
  have j0 : qJ σ (dZk σ 330) := by
    unfold dZk
    refine ⟨fun j _ => by rw [grow_ne (by decide)], fun j hj => ?_, fun q a b => grow_ne b⟩
    rw [grow_at, if_neg (by omega)]
  have j1 : qJ σ (dSet0 σ) := by
    unfold dSet0 dS6 dS5 dS4 dS3 dS2 dS1
    exact qJ_t (qJ_25 (qJ_t (qJ_t (qJ_25 (qJ_t (qJ_t (qJ_t (qJ_23 (qJ_23 (qJ_23 j0 (by decide)) (by decide)) (by decide)) (qJ_nx _)) (qJ_tk _ _)) (qJ_tn _ _ _)) (by decide)) (qJ_tk _ _)) (qJ_tn _ _ _)) (by decide)) (qJ_tk _ _)
  rw [dSet_e]
  have j2 := qJ_t j1 (rLp_J 21 _ (dSet0_hd h))
  unfold hEd
  split
  · exact qJ_t j2 (qJ_tk _ _)
  · exact j2
/-- bytes are not below 0 -/
noncomputable def TB (σ : gS) : Prop := ∀ i, i < (σ 323 8).toNatClampNeg → ¬ σ 330 i = -1
theorem clL_hi {σ : gS} (h : 0 ≤ σ 2 1 ∧ σ 2 1 ≤ 1000) {q : Nat} (hq : (58 ≤ q ∧ ¬ q = 112 ∧ ¬ q = 113) ∨ q = 3 ∨ q = 5) : clL σ q = σ q := by
  obtain ⟨k, h7⟩ := cSet_ok h
  rw [clL_e]
  split
  · have n7 : (gup (gup (cSet σ) 0 9 (-2)) 2 1 0 32 7).toNatClampNeg ≤ 20 := by
      rw [gup_ne (by omega), gup_ne (by omega)]
      exact (c20 h7).2
    funext j
    unfold cLo1
    rw [gup_ne (by omega), gup_ne (by omega), gup_ne (by omega), cCo_far (by omega) n7, gup_ne (by omega), gup_ne (by omega), cSet_far (by omega) (by omega) (by omega)]
  · funext j
    unfold cLo0
    rw [gup_ne (by omega), gup_ne (by omega), cSet_far (by omega) (by omega) (by omega)]
theorem GR_load {B : Nat} {σ : gS} (h : GR B σ) (hB : 1980 ≤ B) (hT : TB σ) : (∀ q, 323 ≤ q → clL σ q = σ q) ∧ (if cLk σ then cSet σ 32 7 else -1) = aLo (dSet (clL σ)) ∧ GR B (hLoad (clL σ)) := by
  obtain ⟨g1, g2, g3, g4, g5, g6, g7, g8, g9⟩ := h
  obtain ⟨hL, h8, hTT⟩ := g5
  obtain ⟨eL, l⟩ := l1000 hL
  have hi : ∀ q, 323 ≤ q → clL σ q = σ q := fun q hq => clL_hi hL (by omega)
  obtain ⟨k, h7⟩ := cSet_ok hL
  have c : PC (σ 3) (σ 2 1).toNatClampNeg σ (clL σ) := by
    refine ⟨rfl, eL, by rw [hi 323 (by decide), h8]; exact eL, fun i hi2 => ?_, l, fun i hi2 => ?_⟩
    · rw [hi 330 (by decide)]
      exact hTT i hi2
    · rw [← hTT i hi2]
      exact hT i (by rw [h8]; exact hi2)
  have fn := FN_set c
  have rt : RT (clL σ) := by
    show 0 ≤ clL σ 323 8 ∧ clL σ 323 8 ≤ 1000
    rw [hi 323 (by decide)]
    exact g9
  obtain ⟨J1, J2, J3⟩ := dSet_J rt
  obtain ⟨ρ, hρ⟩ : ∃ ρ, dSet (clL σ) = ρ := ⟨_, rfl⟩
  rw [hρ] at fn J1 J2 J3
  rw [hLoad_e, hρ]
  refine ⟨hi, ?_, ?_⟩
  · unfold aLo
    rcases fn with ⟨a1, a2, a3, a4⟩ | ⟨a1, a2, a3⟩
    · rw [if_pos a1, if_pos a2.1]
      exact (SV_3 a3).2.2
    · rw [if_neg a1, if_neg a2]
  · unfold hLo
    rcases fn with ⟨a1, a2, a3, a4⟩ | ⟨a1, a2, a3⟩
    · rw [if_pos a2.1]
      obtain ⟨X, hX⟩ : ∃ X, gup (gup (cSet σ) 0 9 (-2)) 2 1 0 = X := ⟨_, rfl⟩
      have xv : ∀ q, ¬ q = 0 → ¬ q = 2 → X q = cSet σ q := fun q q1 q2 => by rw [← hX]; funext j; rw [gup_ne (by omega), gup_ne (by omega)]
      have n7 : (X 32 7).toNatClampNeg ≤ 20 := by rw [xv 32 (by decide) (by decide)]; exact (c20 h7).2
      have eC : clL σ = gup (gup (gup (cCo X 6 32) 112 0 0) 112 1 0) 113 2 0 := by
        rw [clL_e, if_pos a1]
        unfold cLo1
        rw [hX]
      have sX : SV X 32 (ρ 325) := SV_blk a3 (fun q q1 q2 => xv q (by omega) (by omega))
      have sC := cCo_ok (p := 6) (q := 32) (by decide) sX
      obtain ⟨τ, hτ⟩ : ∃ τ, hLo1 ρ = τ := ⟨_, rfl⟩
      rw [hτ]
      have t : ∀ q, q < 323 → τ q = clL σ q := fun q hq => by
        rw [← hτ, ← J3 q (by omega) (by omega)]
        unfold hLo1
        funext j
        rw [gup_ne (by omega), gup_ne (by omega), gup_ne (by omega), grow_ne (by omega), gup_ne (by omega)]
      have t2 : ∀ q, 323 ≤ q → ¬ q = 323 → ¬ q = 324 → ¬ q = 325 → ¬ q = 329 → τ q = σ q := fun q hq q1 q2 q4 q3 => by
        rw [← hi q hq, ← hτ, ← J3 q q1 q4]
        unfold hLo1
        funext j
        rw [gup_ne (by omega), gup_ne (by omega), gup_ne (by omega), grow_ne (by omega), gup_ne (by omega)]
      have t325 : τ 325 = ρ 325 := by
        rw [← hτ]
        unfold hLo1
        funext j
        rw [gup_ne (by omega), gup_ne (by omega), gup_ne (by omega), grow_ne (by omega), gup_ne (by omega)]
      have t324 : ∀ j, τ 324 j = if j < 330 then ρ 325 j else σ 324 j := by
        intro j
        rw [← hτ]
        unfold hLo1
        rw [gup_ne (by omega), gup_ne (by omega), gup_ne (by omega), grow_at]
        unfold rla
        by_cases q : j < 330
        · rw [if_pos (by omega), if_pos q, Nat.zero_add, Nat.sub_zero]
        · rw [if_neg (by omega), if_neg q, J3 324 (by decide) (by decide), hi 324 (by decide)]
      have t323 : ∀ j, τ 323 j = if j = 6 then 0 else if j = 8 then 0 else ρ 323 j := by
        intro j
        rw [← hτ]
        unfold hLo1
        rw [gup_ne (by omega), gup_ne (by omega)]
        by_cases q : j = 6
        · subst q
          rw [gup_at, if_pos rfl]
        · rw [gup_ne (by omega), grow_ne (by decide), if_neg q]
          by_cases q2 : j = 8
          · subst q2
            rw [gup_at, if_pos rfl]
          · rw [gup_ne (by omega), if_neg q2]
      have t329 : ∀ s, s < 2 → τ 329 s = 0 := by
        intro s hs
        rw [← hτ]
        unfold hLo1
        by_cases q : s = 1
        · subst q
          rw [gup_at]
        · rw [gup_ne (by omega)]
          have : s = 0 := by omega
          subst this
          rw [gup_at]
      have row : ∀ j, j < 330 → τ 324 j = ρ 325 j := fun j hj => by rw [t324, if_pos hj]
      have c112 : ∀ s, s < 2 → τ 112 s = 0 := by
        intro s hs
        rw [t 112 (by decide), eC, gup_ne (by omega)]
        by_cases q : s = 1
        · subst q
          rw [gup_at]
        · rw [gup_ne (by omega)]
          have : s = 0 := by omega
          subst this
          rw [gup_at]
      have c2 : τ 113 2 = 0 := by rw [t 113 (by decide), eC, gup_at]
      have cfar : ∀ q, q = 112 ∨ q = 113 → cCo X 6 32 q = σ q := fun q hq => by
        funext j
        rw [cCo_far (by omega) n7, xv q (by omega) (by omega), cSet_far (by omega) (by omega) (by omega)]
      have c1 : τ 113 1 = σ 113 1 := by rw [t 113 (by decide), eC, gup_ne (by omega), gup_ne (by omega), gup_ne (by omega), cfar 113 (by omega)]
      have c2n : (τ 113 2).toNatClampNeg = 0 := by rw [c2]; rfl
      have z0 : (0 : Int32) ≤ 0 ∧ (0 : Int32) ≤ 8 := by decide
      have c01 : τ 2 1 = 0 := by
        rw [t 2 (by decide), eC, gup_ne (by omega), gup_ne (by omega), gup_ne (by omega), cCo_far (by omega) n7, ← hX, gup_at]
      refine ⟨SV_row (SV_blk (σ := cCo X 6 32) sC (fun q q1 q2 => ?_)) row, GD_row (GD_mono a4 hB) (SV_3 a3).1 row, ⟨⟨⟨by rw [c1]; exact g3.1.1.1, by rw [c2]; exact z0⟩, by rw [c2, t323, if_pos rfl], fun u hu => by rw [c2n] at hu; exact absurd hu (Nat.not_lt_zero _)⟩, fun u hu => by rw [c2n] at hu; exact absurd hu (Nat.not_lt_zero _), fun j hj => ?_⟩, fun s hs => ⟨?_, ?_, fun z => absurd (c112 s hs) z⟩, ?_, ?_, ⟨?_, ?_⟩, ⟨?_, ?_, ?_⟩, ?_⟩
      · rw [t q (by omega), eC]
        funext j
        rw [gup_ne (by omega), gup_ne (by omega), gup_ne (by omega)]
      · rw [t _ (by omega), clL_hi hL (by omega)]
        exact g3.2.2 j hj
      · have : ∀ j, j < 2 → τ 112 j = τ 329 j := fun j hj => by rw [c112 j hj, t329 j hj]
        exact this s hs
      · rw [t _ (by omega), clL_hi hL (by omega)]
        exact (g4 s hs).2.1
      · unfold TP
        rw [c01, t323, if_neg (by decide), if_pos rfl]
        exact ⟨by decide, rfl, fun i hi => absurd hi (Nat.not_lt_zero _)⟩
      · rw [t323, if_neg (by decide), if_neg (by decide), a2.2, t 0 (by decide), eC, gup_ne (by omega), gup_ne (by omega), gup_ne (by omega), cCo_far (by omega) n7, ← hX, gup_ne (by omega), gup_at]
      · have sb := SV_b a3
        exact ⟨by rw [row 3 (by decide)]; exact sb.1, by rw [row 209 (by decide)]; exact sb.2⟩
      · rw [t323, if_pos rfl]
        exact z0
      · intro j hj
        rw [t324, if_neg (by omega)]
        exact g8.1 j hj
      · intro j hj
        rw [t325, J2 j hj, hi 325 (by decide)]
        exact g8.2.1 j hj
      · rw [t2 326 (by decide) (by decide) (by decide) (by decide) (by decide)]
        exact g8.2.2
      · show 0 ≤ τ 323 8 ∧ _
        rw [t323, if_neg (by decide), if_pos rfl]
        decide
    · rw [if_neg a2]
      have eC : clL σ = gup (gup (cSet σ) 0 9 (cSet σ 1 2)) 2 1 0 := by
        rw [clL_e, if_neg a1]
        rfl
      obtain ⟨τ, hτ⟩ : ∃ τ, gup ρ 323 8 0 = τ := ⟨_, rfl⟩
      rw [hτ]
      have t : ∀ q, ¬ q = 323 → ¬ q = 325 → ((6 ≤ q ∧ q < 32) ∨ 58 ≤ q) → τ q = σ q := fun q q1 q2 q3 => by
        have e : τ q = ρ q := by rw [← hτ]; funext j; rw [gup_ne (by omega)]
        rw [e, J3 q q1 q2, eC]
        funext j
        rw [gup_ne (by omega), gup_ne (by omega), cSet_far (by omega) (by omega) (by omega)]
      have t323 : ∀ j, j < 8 → τ 323 j = σ 323 j := fun j hj => by rw [← hτ, gup_ne (by omega), J1 j (by omega), hi 323 (by decide)]
      have t325 : τ 325 = ρ 325 := by rw [← hτ]; funext j; rw [gup_ne (by omega)]
      have e113 := t 113 (by decide) (by decide) (by decide)
      have e327 := t 327 (by decide) (by decide) (by decide)
      have e324 := t 324 (by decide) (by decide) (by decide)
      have eP : ∀ u, cPl τ u = cPl σ u := fun u => by unfold cPl; rw [e113]
      have hm : ∀ u, ((σ 113 1).toNatClampNeg + u) % 8 < 8 := fun u => Nat.mod_lt _ (by decide)
      have t8 : τ 323 8 = 0 := by rw [← hτ, gup_at]
      have t21 : τ 2 1 = 0 := by
        have e : τ 2 = ρ 2 := by rw [← hτ]; funext j; rw [gup_ne (by omega)]
        rw [e, J3 2 (by decide) (by decide), eC, gup_at]
      refine ⟨?_, by rw [e324]; exact g2, ?_, SL_same (Nat.le_refl _) g4 (fun q q1 q2 => t q (by omega) (by omega) (by omega)) (t 328 (by decide) (by decide) (by decide)) (t 329 (by decide) (by decide) (by decide)), ?_, ?_, ?_, ?_, ?_⟩
      · rw [e324]
        exact SV_blk g1 (fun q q1 q2 => t q (by omega) (by omega) (by omega))
      · obtain ⟨⟨p1, p2, p3⟩, p4, p5⟩ := g3
        refine ⟨⟨by unfold bPa; rw [e113]; exact p1, by rw [e113, t323 6 (by decide)]; exact p2, fun u hu => ?_⟩, fun u hu => ?_, fun j hj => ?_⟩
        · rw [e113] at hu
          rw [eP, e327]
          refine SV_blk (p3 u hu) (fun q q1 q2 => ?_)
          have := hm u
          unfold cPl at q1 q2
          exact t q (by omega) (by omega) (by omega)
        · rw [e113] at hu
          rw [e327]
          exact p4 u hu
        · rw [t _ (by omega) (by omega) (by omega)]
          exact p5 j hj
      · unfold TP
        rw [t21, t8]
        exact ⟨by decide, rfl, fun i hi => absurd hi (Nat.not_lt_zero _)⟩
      · have e0 : τ 0 = ρ 0 := by rw [← hτ]; funext j; rw [gup_ne (by omega)]
        rw [e0, J3 0 (by decide) (by decide), eC, gup_ne (by omega), gup_at, ← a3, ← hτ, gup_ne (by omega)]
      · unfold RS
        rw [e324, t323 6 (by decide)]
        exact g7
      · unfold RZ
        refine ⟨by rw [e324]; exact g8.1, fun j hj => ?_, by rw [t 326 (by decide) (by decide) (by decide)]; exact g8.2.2⟩
        rw [t325, J2 j hj, hi 325 (by decide)]
        exact g8.2.1 j hj
      · show 0 ≤ τ 323 8 ∧ τ 323 8 ≤ 1000
        rw [t8]
        decide
