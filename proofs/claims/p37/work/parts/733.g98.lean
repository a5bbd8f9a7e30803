section
-- text 98
/-! RELATION: a traveller is read by both -/
theorem cR_32 {σ τ : gS} (h : ∀ q, 32 ≤ q → q < 58 → τ q = σ q) : cR τ 32 = cR σ 32 := by
  funext j
  unfold cR
  by_cases q : j < 9
  · rw [if_pos q, if_pos q, h 32 (by decide) (by decide)]
  · rw [if_neg q, if_neg q]
    by_cases q2 : j < 209
    · rw [if_pos q2, if_pos q2, h (32 + 2 + (j - 9) / 10) (by omega) (by omega)]
    · rw [if_neg q2, if_neg q2]
theorem TR_A {T : gW} {L : Nat} {σ τ : gS} (h : PQ T L σ τ) : PQ T L (rA σ) (rTk τ (bI (rIs τ 377669))) := by
  have hz : PQ T L (cZr σ 4) τ := PQ_cg h (cZr_ne (by decide)) (cZr_ne (by decide)) (cZr_ne (by decide)) rfl rfl
  exact PQ_pass hz (fun _ m ht => PT_1000003 hz.1 ht) (fun _ q => by rw [q.1]; decide)
theorem fNew_v {R : gW} {n f : Nat} {x v : Int32} (hn : nM R = n) (hf : f < 9) : fNew R x v (9 + 10 * n + f) = if f = 0 then x else if f = 8 then 99 else 0 := by
  unfold fNew zsh rup
  rw [hn]
  grind
theorem fNew_9 {R : gW} {n : Nat} {x v : Int32} (hn : nM R = n) : fNew R x v (9 + 10 * n + 9) = v := by
  unfold fNew zsh rup
  rw [hn]
  grind
theorem TR_h {T : gW} {L n B : Nat} {σ τ : gS} (h : PQ T L σ τ) (hs : rIs τ 377669) (hV : SV σ 32 (τ 325)) (hG : GD B (τ 325)) (hn : nM (τ 325) = n) :
    PQ T L (rC (rB (rA σ))) (rTk (rTk (rTk τ 1) (bI (q2c (rTk τ 1) (rTk τ 1 323 14)))) (bI (q3c (rTk (rTk τ 1) (bI (q2c (rTk τ 1) (rTk τ 1 323 14))))))) ∧
    (rC (rB (rA σ)) 1 5 = 0 → (rTk (rTk τ 1) (bI (q2c (rTk τ 1) (rTk τ 1 323 14))) 323 15 = 0 ∧ q3c (rTk (rTk τ 1) (bI (q2c (rTk τ 1) (rTk τ 1 323 14))))) ∧ PW n (rTk τ 1 323 14) (τ 325) (rC (rB (rA σ))) (grow (rTk (rTk (rTk τ 1) (bI (q2c (rTk τ 1) (rTk τ 1 323 14)))) 1) 325 (fNew (rTk (rTk τ 1) (bI (q2c (rTk τ 1) (rTk τ 1 323 14))) 325) (rTk τ 1 323 14) (rTk (rTk τ 1) (bI (q2c (rTk τ 1) (rTk τ 1 323 14))) 323 14)))) := by
  have kA := TR_A h
  rw [bI_y hs] at kA
  obtain ⟨b3, bn, e7⟩ := SV_3 hV
  have fA : ∀ q, 32 ≤ q → q < 58 → rA σ q = σ q := fun q q1 q2 => rA_far (by omega) (by omega)
  have e25 : rTk τ 1 325 = τ 325 := rTk_far (by decide)
  have eh : σ 32 4 = τ 325 0 := by
    have := hV.1.1 0 (by decide)
    rw [cR_h (by decide)] at this
    exact this
  have hw : ∀ v, fWho (cR (rA σ) 32) v = -2 ↔ fWho (rTk τ 1 325) v < 0 := by
    intro v
    rw [cR_32 fA, e25, agr_Who hV.1 v]
    rcases fWho_c (τ 325) v b3 with q | q
    · rw [q]; decide
    · grind
  obtain ⟨kB, kB2⟩ := PQ_seat kA (by rw [fA 32 (by decide) (by decide), e25]; exact eh) (by rw [e25]; exact hG.2.2.2) hw
  obtain ⟨a, ha⟩ : ∃ a, rTk τ 1 = a := ⟨_, rfl⟩
  rw [ha] at kB kB2 e25 ⊢
  obtain ⟨b, hb⟩ : ∃ b, rTk a (bI (q2c a (a 323 14))) = b := ⟨_, rfl⟩
  have b25 : b 325 = τ 325 := by rw [← hb, rTk_far (by decide), e25]
  rw [hb] at kB ⊢
  have kB' : PQ T L (rB (rA σ)) b := PQ_4 kB
  have kC : PQ T L (cPs (rB (rA σ)) (bI (cNm (rB (rA σ))))) (rTk b (bI (q3c b))) := PQ_pass kB' (fun _ m ht => (PT_nm kB'.1 ht).1) (fun _ q => by rw [q.1]; decide)
  refine ⟨PQ_4 kC, fun z => ?_⟩
  have z : cPs (rB (rA σ)) (bI (cNm (rB (rA σ)))) 1 5 = 0 := by
    unfold rC at z
    rw [gup_ne (by omega)] at z
    exact z
  obtain ⟨y1, y2⟩ := cPs_0 z
  have y2 := Decidable.not_not.mp (fun z => y2 (bI_0.mpr z))
  obtain ⟨f, m, ht⟩ := PQ_no kB' y1
  obtain ⟨p1, p2⟩ := PT_nm kB'.1 ht
  have y1' : cInt (cFs (rA σ)) 0 (rA σ 32 4 * 4 - 1) 1 5 = 0 := by
    unfold rB at y1
    rw [gup_ne (by omega)] at y1
    exact y1
  obtain ⟨w1, w2, w3⟩ := kB2 y1'
  refine ⟨⟨f, p1.mp y2⟩, ?_⟩
  have v4 : ∀ j, 1 ≤ j → j < 10 → rC (rB (rA σ)) 4 j = if j = 1 then cNu (cFs (rA σ)) else if j < 9 then 0 else 99 := by
    intro j j1 j2
    unfold rC
    rw [gup_ne (by omega), cPs_far (by decide)]
    unfold rB
    by_cases e : j = 1
    · subst e
      rw [gup_at, if_pos rfl]
    · rw [gup_ne (by omega), if_neg e, cInt_far (by decide), cFs_far (by decide)]
      unfold rA
      rw [cPs_far (by decide)]
      show (if 4 = 4 ∧ j < 9 then 0 else if 4 = 4 ∧ j = 9 then 99 else σ 4 j) = _
      by_cases e2 : j < 9
      · rw [if_pos ⟨rfl, e2⟩, if_pos e2]
      · rw [if_neg (by omega), if_pos ⟨rfl, by omega⟩, if_neg e2]
  have u : ∀ j, grow (rTk b 1) 325 (fNew (b 325) (a 323 14) (b 323 14)) 325 j = fNew (τ 325) (a 323 14) (b 323 14) j := fun j => by rw [grow_at, b25]
  refine ⟨fun j hj => ?_, fun g hg => ?_, ?_, ?_⟩
  · rw [u, fNew_ne (by rw [hn]; omega)]
  · rw [u, fNew_v hn hg, v4 (g + 1) (by omega) (by omega)]
    refine ⟨?_, ?_⟩
    · by_cases e : g = 0
      · rw [if_pos e, if_pos (show g + 1 = 1 by omega), w3]
      · rw [if_neg e, if_neg (show ¬ g + 1 = 1 by omega)]
        by_cases e2 : g = 8
        · rw [if_pos e2, if_neg (show ¬ g + 1 < 9 by omega)]
        · rw [if_neg e2, if_pos (show g + 1 < 9 by omega)]
    · by_cases e : g = 0
      · subst e
        rw [if_pos rfl]
        unfold PB
        simp [w2]
      · rw [if_neg (by omega)]
        by_cases e2 : g = 8
        · subst e2
          exact PB_8
        · rw [if_pos (by omega)]
          unfold PB
          simp [e]
  · rw [u, fNew_9 hn]
    have := p2 y2
    unfold rC
    rw [gup_at]
    exact this
  · rw [v4 1 (by decide) (by decide), if_pos rfl, w3]
theorem TR_mid {T : gW} {L n : Nat} {x : Int32} {R : gW} {σ τ : gS} (h : PS T L n x R (rC (rB (rA σ))) τ) (hR : σ 32 4 = R 0 ∧ (2 ≤ R 0 ∧ R 0 ≤ 10)) : PS T L n x R (rMid σ) (qMid τ n) := by
  unfold rMid qMid
  refine PS_P (PS_S (PS_R (PS_Ah (PS_W (PS_F (PS_T h)))) (fun _ => ?_)))
  rw [rAh_far (by decide) (by decide), rW_far (by decide) (by decide), rF_far (by decide) (by decide), rT_far (by decide) (by decide), rC_far (by decide) (by decide), rB_far (by decide) (by decide), rA_far (by decide) (by decide)]
  exact hR
theorem GD_adm {n : Nat} {R S : gW} (h : GD (99 * n) R) (hn : nM R = n) (h20 : n < 20) (s3 : S 3 = iN (n + 1)) (s0 : S 0 = R 0) (sF : ∀ j, 9 ≤ j → j < 9 + 10 * n → S j = R j) (sN : ∀ f, f < 9 → PB f (S (9 + 10 * n + f))) : GD (99 * (n + 1)) S := by
  have SN : nM S = n + 1 := nM_iN s3 (by omega)
  have old : ∀ t, t < n → ∀ g, g < 10 → fld S t g = fld R t g := fun t ht g hg => sF _ (by omega) (by omega)
  obtain ⟨g1, g2, g3, g4⟩ := h
  rw [hn] at g3
  refine ⟨fun t ht => ?_, fun t ht => ?_, ?_, by rw [s0]; exact g4⟩
  · rw [SN] at ht
    by_cases q : t < n
    · rw [old t q 3 (by decide), old t q 4 (by decide), old t q 5 (by decide), old t q 6 (by decide)]
      exact g1 t (by omega)
    · have : t = n := by omega
      subst this
      exact ⟨(sN 3 (by decide)).2.2.2.1 rfl, (sN 4 (by decide)).2.2.2.2.1 rfl, (sN 5 (by decide)).2.2.2.2.2.1 rfl, (sN 6 (by decide)).2.2.2.2.2.2.1 rfl⟩
  · rw [SN] at ht
    by_cases q : t < n
    · rw [old t q 7 (by decide)]
      exact g2 t (by omega)
    · have : t = n := by omega
      subst this
      exact ((sN 7 (by decide)).2.2.2.2.2.2.2 rfl).1
  · rw [SN]
    show smN (swN S) n + swN S n ≤ 99 * (n + 1)
    rw [smN_cg (g := swN R) (fun j hj => by unfold swN; rw [old j hj 7 (by decide)])]
    have : swN S n ≤ 99 := by
      unfold swN
      have hw := (sN 7 (by decide)).2.2.2.2.2.2.2 rfl
      have e : fld S n 7 = S (9 + 10 * n + 7) := rfl
      rw [e]
      obtain ⟨ew, lw⟩ := iN_of hw.1
      have h2 := hw.2
      rw [ew] at h2
      exact (iN_le (m := 99) lw (by decide)).mp h2
    omega
theorem TR_Z {T : gW} {L n : Nat} {x : Int32} {R : gW} {σ τ : gS} (h : PS T L n x R σ τ) (hV : SV σ 32 R) (hG : GD (99 * n) R) (hn : nM R = n) (h20 : n < 20) : PQ T L (rZ σ) (qZ τ n x) ∧ (rZ σ 1 5 = 0 → SV (rZ σ) 32 (qZ τ n x 325) ∧ GD (99 * (n + 1)) (qZ τ n x 325) ∧ nM (qZ τ n x 325) = n + 1) := by
  obtain ⟨hq, hw⟩ := h
  obtain ⟨b3, bn, e7⟩ := SV_3 hV
  have r3 : R 3 = iN n := by rw [← hn]; exact (nM_of b3).1
  have kP : PQ T L (cPs σ (bI (cB0 σ = 59 ∧ (σ 4 2 = 1 ∨ cR σ 32 1 ≤ σ 4 1 / 4)))) (rTk τ (bI (τ 323 13 = 3 ∧ fMay (τ 325) n x))) := by
    refine PQ_pass hq (fun w m ht => ?_) (fun w q => ?_)
    · obtain ⟨p1, p2, p3, p4⟩ := hw w
      rw [(PT_sg hq.1 ht).1, hV.1.1 1 (by decide), p4, ← (p2 1 (by decide)).1, ← p1 1 (by omega)]
      rfl
    · obtain ⟨f, m, ht⟩ := PQ_no hq w
      intro z
      have z2 := (PT_end hq.1 ht).mp z
      have := (PT_sg hq.1 ht).1.mp q.1
      rw [z2] at this
      exact absurd this (by decide)
  have f7 : ∀ c, cPs σ c 32 7 = R 3 := fun c => by rw [cPs_far (by decide)]; exact e7
  have b7 : ∀ c, 0 ≤ cPs σ c 32 7 ∧ cPs σ c 32 7 < 20 := fun c => by
    rw [f7, r3]
    exact ⟨(iN_le (k := 0) (by decide) (by omega)).mpr (by omega), (iN_lt (m := 20) (by omega) (by decide)).mpr h20⟩
  by_cases hP : cB0 σ = 59 ∧ (σ 4 2 = 1 ∨ cR σ 32 1 ≤ σ 4 1 / 4)
  · rw [bI_y hP] at kP
    by_cases w : σ 1 5 = 0
    · obtain ⟨f, m, ht⟩ := PQ_no hq w
      obtain ⟨p1, p2, p3, p4⟩ := hw w
      have hQ : τ 323 13 = 3 ∧ fMay (τ 325) n x := by
        refine ⟨(PT_sg hq.1 ht).1.mp hP.1, ?_⟩
        have := hP.2
        rw [hV.1.1 1 (by decide), p4, ← (p2 1 (by decide)).1, ← p1 1 (by omega)] at this
        exact this
      rw [bI_y hQ] at kP
      have e1 : cPs σ 1 1 5 = 0 := by
        unfold cPs
        rw [if_pos ⟨w, by decide⟩, cTok_5]
        exact w
      have er : rZ σ = cAdm (cPs σ 1) 32 4 := by unfold rZ; rw [if_pos hP, if_pos e1]
      have eq : qZ τ n x = gup (rTk τ 1) 325 3 (rTk τ 1 325 3 + 1) := by unfold qZ; rw [if_pos hQ, if_pos f]
      rw [er, eq]
      refine ⟨PQ_cg kP (cAdm_far (b7 1) (by omega)) (cAdm_far (b7 1) (by omega)) (cAdm_far (b7 1) (by omega)) (funext fun i => gup_ne (by omega)) (funext fun i => gup_ne (by omega)), fun _ => ?_⟩
      have S : ∀ j, gup (rTk τ 1) 325 3 (rTk τ 1 325 3 + 1) 325 j = if j = 3 then iN (n + 1) else τ 325 j := by
        intro j
        by_cases e : j = 3
        · subst e
          rw [gup_at, if_pos rfl, rTk_25, p1 3 (by omega), r3, iN_one]
        · rw [gup_ne (by omega), if_neg e, rTk_25]
      have hV' : SV (cPs σ 1) 32 R := SV_blk hV (fun q q1 q2 => cPs_far (by omega))
      have c4 : cPs σ 1 4 = σ 4 := cPs_far (by decide)
      have sF : ∀ j, 9 ≤ j → j < 9 + 10 * n → gup (rTk τ 1) 325 3 (rTk τ 1 325 3 + 1) 325 j = R j := fun j j1 j2 => by rw [S, if_neg (by omega), p1 j (by omega)]
      have s3 : gup (rTk τ 1) 325 3 (rTk τ 1 325 3 + 1) 325 3 = iN (n + 1) := by rw [S, if_pos rfl]
      have sH : ∀ j, j < 9 → ¬ j = 3 → gup (rTk τ 1) 325 3 (rTk τ 1 325 3 + 1) 325 j = R j := fun j j1 j2 => by rw [S, if_neg j2, p1 j (by omega)]
      refine ⟨SV_adm hV' (by decide) hn h20 ?_ ?_ ?_ s3 sH sF (fun g hg => ?_) ?_ (fun j j1 j2 => ?_), GD_adm hG hn h20 s3 (sH 0 (by decide) (by decide)) sF (fun g hg => ?_), nM_iN s3 (by omega)⟩
      · rw [c4]; exact (p2 0 (by decide)).2.1 rfl
      · rw [c4]; exact (p2 1 (by decide)).2.2.1 rfl
      · rw [c4]; exact (p2 2 (by decide)).2.2.2.1 rfl
      · rw [S, if_neg (by omega), c4]
        exact (p2 g hg).1
      · rw [S, if_neg (by omega), c4]
        exact p3
      · rw [S, if_neg (by omega), p1 j (by omega)]
      · rw [S, if_neg (by omega), (p2 g hg).1]
        exact (p2 g hg).2
    · have fτ : ¬ τ 323 15 = 0 := by
        obtain ⟨hc, ⟨w2, f, ht⟩ | ⟨w2, f, he⟩⟩ := hq
        · exact absurd w2 w
        · exact f
      have e1 : ¬ cPs σ 1 1 5 = 0 := fun z => w (cPs_0 z).1
      have er : rZ σ = cPs σ 1 := by unfold rZ; rw [if_pos hP, if_neg e1]
      have eq : qZ τ n x = τ := by
        unfold qZ
        by_cases hQ : τ 323 13 = 3 ∧ fMay (τ 325) n x
        · rw [if_pos hQ, if_neg fτ]
        · rw [if_neg hQ, rTk_f fτ]
      rw [rTk_f fτ] at kP
      rw [er, eq]
      exact ⟨kP, fun z => absurd z e1⟩
  · rw [bI_n hP] at kP
    have e0 : ¬ cPs σ 0 1 5 = 0 := fun z => (cPs_0 z).2 rfl
    have er : rZ σ = cPs σ 0 := by unfold rZ; rw [if_neg hP]
    have eq : qZ τ n x = rTk τ (bI (τ 323 13 = 3 ∧ fMay (τ 325) n x)) := by
      unfold qZ
      by_cases hQ : τ 323 13 = 3 ∧ fMay (τ 325) n x
      · have fτ : ¬ τ 323 15 = 0 := by
          intro z
          have w : σ 1 5 = 0 := by
            obtain ⟨hc, ⟨w2, f, ht⟩ | ⟨w2, f, he⟩⟩ := hq
            · exact w2
            · exact absurd z f
          obtain ⟨f, m, ht⟩ := PQ_no hq w
          obtain ⟨p1, p2, p3, p4⟩ := hw w
          apply hP
          refine ⟨(PT_sg hq.1 ht).1.mpr hQ.1, ?_⟩
          rw [hV.1.1 1 (by decide), p4, ← (p2 1 (by decide)).1, ← p1 1 (by omega)]
          exact hQ.2
        rw [if_pos hQ, if_neg fτ, rTk_f fτ]
      · rw [if_neg hQ, bI_n hQ]
    rw [er, eq]
    exact ⟨kP, fun z => absurd z e0⟩
end
section
-- text 99
/-! RELATION: a setup is read by both -/
theorem PQ_wr {T : gW} {L : Nat} {σ τ ρ : gS} (h : PQ T L σ τ) (hw : ¬ σ 1 5 = 0) (hp : WP σ ρ) (h2 : ρ 2 = σ 2) (h3 : ρ 3 = σ 3) : PQ T L ρ τ := by
  obtain ⟨hc, ⟨w, f, ht⟩ | ⟨w, f, he⟩⟩ := h
  · exact absurd w hw
  · obtain ⟨z1, z2⟩ := hp hw
    refine ⟨?_, Or.inr ⟨z1, f, by rw [z2]; exact he⟩⟩
    unfold PC at *
    rw [h2, h3]
    exact hc
noncomputable def HL (T : gW) (L n : Nat) (σ τ : gS) : Prop := PQ T L σ τ ∧ (σ 1 5 = 0 → SV σ 32 (τ 325) ∧ GD (99 * n) (τ 325) ∧ nM (τ 325) = n)
theorem PQ_fw {T : gW} {L : Nat} {σ τ : gS} (h : PQ T L σ τ) (hw : ¬ σ 1 5 = 0) : ¬ τ 323 15 = 0 ∧ τ 323 9 = σ 1 2 := by
  obtain ⟨hc, ⟨w, f, ht⟩ | ⟨w, f, he⟩⟩ := h
  · exact absurd w hw
  · exact ⟨f, he⟩
theorem PQ_f9 {T : gW} {L : Nat} {σ τ : gS} (h : PQ T L σ τ) (hw : σ 1 5 = 0) : τ 323 15 = 0 ∧ τ 323 9 = -2 := by
  obtain ⟨hc, ⟨w, f, ht⟩ | ⟨w, f, he⟩⟩ := h
  · exact f
  · exact absurd hw w
/-- one more traveller -/
theorem TR_all {T : gW} {L n : Nat} {σ τ : gS} (h : HL T L n σ τ) (w : σ 1 5 = 0) (hs : rIs τ 377669) (h20 : n < 20) : HL T L (n + 1) (rTrv σ) (hRs τ) := by
  obtain ⟨hq, hv⟩ := h
  obtain ⟨hV, hG, hn⟩ := hv w
  obtain ⟨b3, bn, e7⟩ := SV_3 hV
  have r3 : τ 325 3 = iN n := by rw [← hn]; exact (nM_of b3).1
  have h7 : 0 ≤ σ 32 7 ∧ σ 32 7 < 20 := by
    rw [e7, r3]
    exact ⟨(iN_le (k := 0) (by decide) (by omega)).mpr (by omega), (iN_lt (m := 20) (by omega) (by decide)).mpr h20⟩
  obtain ⟨k1, k2⟩ := TR_h hq hs hV hG hn
  have eR : hRs τ = hRs2 (rTk (rTk τ 1) (bI (q2c (rTk τ 1) (rTk τ 1 323 14)))) n (rTk τ 1 323 14) := by
    rw [hRs_e, if_pos (by rw [r3]; exact (iN_lt (m := 20) (by omega) (by decide)).mpr h20)]
    have en3 : (rTk τ 1 325 3).toNatClampNeg = n := by rw [rTk_25, r3, iN_nat (by omega)]
    unfold hRs1
    rw [en3]
  rw [eR]
  unfold hRs2
  obtain ⟨x, hx⟩ : ∃ x, rTk τ 1 323 14 = x := ⟨_, rfl⟩
  rw [hx] at k1 k2 ⊢
  obtain ⟨b, hb⟩ : ∃ b, rTk (rTk τ 1) (bI (q2c (rTk τ 1) x)) = b := ⟨_, rfl⟩
  rw [hb] at k1 k2 ⊢
  by_cases q : rC (rB (rA σ)) 1 5 = 0
  · obtain ⟨c1, c2⟩ := k2 q
    rw [if_pos c1]
    rw [bI_y c1.2] at k1
    have p0 : PS T L n x (τ 325) (rC (rB (rA σ))) (grow (rTk b 1) 325 (fNew (b 325) x (b 323 14))) := ⟨PQ_cg k1 rfl rfl rfl (grow_ne (by decide)) (grow_ne (by decide)), fun _ => c2⟩
    have eh : σ 32 4 = τ 325 0 := by
      have := hV.1.1 0 (by decide)
      rw [cR_h (by decide)] at this
      exact this
    have p1 := TR_mid p0 ⟨eh, hG.2.2.2⟩
    have := TR_Z p1 (SV_blk hV (fun q q1 q2 => rMid_far (by omega) (by omega))) hG hn h20
    rw [rTrv_e]
    exact this
  · have c0 : ¬ (b 323 15 = 0 ∧ q3c b) := by
      intro z
      rw [bI_y z.2] at k1
      obtain ⟨f1, f2⟩ := PQ_fw k1 q
      apply f1
      rw [rTk_e, if_pos z.1, if_neg (by decide), rNx_3 (by omega)]
      exact z.1
    rw [if_neg c0]
    have k3 : PQ T L (rC (rB (rA σ))) (rTk b 0) := by
      by_cases z : b 323 15 = 0
      · have nq : ¬ q3c b := fun y => c0 ⟨z, y⟩
        rw [bI_n nq] at k1
        exact k1
      · rw [rTk_f z] at k1 ⊢
        exact k1
    obtain ⟨w1, w2⟩ := WP_trv h7
    have e2 : ∀ p, p = 2 ∨ p = 3 → rTrv σ p = rC (rB (rA σ)) p := fun p hp => by rw [rTrv_far (by omega) (by omega) h7 (by omega), rC_far (by omega) (by omega), rB_far (by omega) (by omega), rA_far (by omega) (by omega)]
    exact ⟨PQ_wr k3 q w1 (e2 2 (by omega)) (e2 3 (by omega)), fun z => absurd z (w1 q).1⟩
/-- how a setup ends: well in both, or wrong in both at the same place -/
noncomputable def FN (σ τ : gS) : Prop := ((σ 1 4 = 0 ∧ σ 1 5 = 0) ∧ (τ 323 15 = 0 ∧ τ 323 9 = -2) ∧ SV σ 32 (τ 325) ∧ GD 1980 (τ 325)) ∨ (¬ (σ 1 4 = 0 ∧ σ 1 5 = 0) ∧ ¬ τ 323 15 = 0 ∧ τ 323 9 = σ 1 2)
theorem cLp_w : ∀ (d : Nat) (σ : gS), ¬ σ 1 5 = 0 → cLp d σ = σ
  | 0, σ, _ => rfl
  | d + 1, σ, h => by unfold cLp; rw [if_pos (Or.inr h)]
theorem cLp_0 : ∀ (d : Nat) (σ : gS), σ 1 4 = 0 → cLp d σ = σ
  | 0, σ, _ => rfl
  | d + 1, σ, h => by unfold cLp; rw [if_pos (Or.inl h)]
theorem rLp_w : ∀ (d : Nat) (σ : gS), (¬ σ 323 15 = 0 ∨ ¬ rIs σ 377669) → rLp d σ = σ
  | 0, σ, _ => rfl
  | d + 1, σ, h => by unfold rLp; rw [if_pos h]
theorem FN_w {T : gW} {L d e : Nat} {σ τ : gS} (h : PQ T L σ τ) (w : ¬ σ 1 5 = 0) : FN (cLp d σ) (hEd (rLp e τ)) := by
  obtain ⟨f1, f2⟩ := PQ_fw h w
  rw [cLp_w d σ w, rLp_w e τ (Or.inl f1)]
  unfold hEd
  rw [if_neg (fun z => f1 z.1)]
  exact Or.inr ⟨fun z => w z.2, f1, f2⟩
theorem FN_lp {T : gW} {L : Nat} : ∀ (d n : Nat) (σ τ : gS), n + d = 20 → HL T L n σ τ → FN (cLp d σ) (hEd (rLp (d + 1) τ)) := by
  intro d
  induction d with
  | zero =>
    intro n σ τ hd h
    have n20 : n = 20 := by omega
    subst n20
    by_cases w : σ 1 5 = 0
    · obtain ⟨hV, hG, hn⟩ := h.2 w
      obtain ⟨f, f9⟩ := PQ_f9 h.1 w
      obtain ⟨f', m, ht⟩ := PQ_no h.1 w
      have en := PT_end h.1.1 ht
      show FN σ _
      by_cases k : σ 1 4 = 0
      · have k2 := en.mp k
        rw [rLp_w _ τ (Or.inr (fun z => by have z1 := z.1; rw [k2] at z1; exact absurd z1 (by decide)))]
        unfold hEd
        rw [if_neg (fun z => z.2 k2)]
        exact Or.inl ⟨⟨k, w⟩, ⟨f, f9⟩, hV, hG⟩
      · have k2 : ¬ τ 323 13 = 0 := fun z => k (en.mpr z)
        have e9 : rTk τ 0 323 9 = σ 1 2 := by
          rw [rTk_e, if_pos f, if_pos rfl, gup_at, ht.2.1.1]
          exact ht.2.2.1
        have r3 : τ 325 3 = iN 20 := by rw [← hn]; exact (nM_of (SV_3 hV).1).1
        have step : hEd (rLp 1 τ) = rTk τ 0 := by
          by_cases q : rIs τ 377669
          · have e1 : rLp 1 τ = hRs τ := by
              unfold rLp
              rw [if_neg (fun z => z.elim (fun z => z f) (fun z => z q))]
              rfl
            have e2 : hRs τ = rTk τ 0 := by
              rw [hRs_e, if_neg (by rw [r3]; decide)]
            rw [e1, e2]
            unfold hEd
            rw [if_neg (fun z => rTk0_f z.1)]
          · rw [rLp_w _ τ (Or.inr q)]
            unfold hEd
            rw [if_pos ⟨f, k2⟩]
        rw [step]
        exact Or.inr ⟨fun z => k z.1, rTk0_f, e9⟩
    · exact FN_w h.1 w
  | succ d ih =>
    intro n σ τ hd h
    by_cases w : σ 1 5 = 0
    · obtain ⟨hV, hG, hn⟩ := h.2 w
      obtain ⟨f, f9⟩ := PQ_f9 h.1 w
      obtain ⟨f', m, ht⟩ := PQ_no h.1 w
      have en := PT_end h.1.1 ht
      by_cases k : σ 1 4 = 0
      · have k2 := en.mp k
        rw [cLp_0 _ σ k, rLp_w _ τ (Or.inr (fun z => by have z1 := z.1; rw [k2] at z1; exact absurd z1 (by decide)))]
        unfold hEd
        rw [if_neg (fun z => z.2 k2)]
        exact Or.inl ⟨⟨k, w⟩, ⟨f, f9⟩, hV, GD_mono hG (by omega)⟩
      · have k2 : ¬ τ 323 13 = 0 := fun z => k (en.mpr z)
        have e1 : cLp (d + 1) σ = cLp d (rTrv σ) := by
          show (if _ then _ else _) = _
          rw [if_neg (fun z => z.elim k (fun z => z w))]
        rw [e1]
        by_cases q : rIs τ 377669
        · have e2 : rLp (d + 1 + 1) τ = rLp (d + 1) (hRs τ) := by
            show (if _ then _ else _) = _
            rw [if_neg (fun z => z.elim (fun z => z f) (fun z => z q))]
          rw [e2]
          exact ih (n + 1) _ _ (by omega) (TR_all h w q (by omega))
        · rw [rLp_w _ τ (Or.inr q)]
          have kA := TR_A h.1
          rw [bI_n q] at kA
          have wA : ¬ rA σ 1 5 = 0 := by
            intro z
            exact rTk0_f (PQ_f9 kA z).1
          obtain ⟨b3, bn, e7⟩ := SV_3 hV
          have r3 : τ 325 3 = iN n := by rw [← hn]; exact (nM_of b3).1
          have h7 : 0 ≤ σ 32 7 ∧ σ 32 7 < 20 := by
            rw [e7, r3]
            exact ⟨(iN_le (k := 0) (by decide) (by omega)).mpr (by omega), (iN_lt (m := 20) (by omega) (by decide)).mpr (by omega)⟩
          obtain ⟨w1, w2⟩ := WP_trv h7
          obtain ⟨g1, g2⟩ := w2 wA
          obtain ⟨f1, f2⟩ := PQ_fw kA wA
          have eE : hEd τ = rTk τ 0 := by
            unfold hEd
            rw [if_pos ⟨f, k2⟩]
          rw [cLp_w d _ g1, eE]
          exact Or.inr ⟨fun z => g1 z.2, f1, by rw [g2]; exact f2⟩
    · exact FN_w h.1 w
end
section
-- text 100
/-! RELATION: a setup begins; what a load leaves as it is -/
theorem PT_tok {T : gW} {L n : Nat} {σ τ : gS} (hc : PC T L σ τ) (lE : n ≤ L) (a2 : σ 1 3 = iN n) (b2 : τ 323 11 = iN n) : PT T L n (cTok σ) (rNx τ) := by
  obtain ⟨c1, c2, c3, c4, c5, c6⟩ := hc
  have nL : (σ 2 1).toNatClampNeg = L := by rw [c2, iN_nat (by omega)]
  have nE : (σ 1 3).toNatClampNeg = n := by rw [a2, iN_nat (by omega)]
  have mL : (τ 323 8).toNatClampNeg = L := by rw [c3, iN_nat (by omega)]
  have mE : (τ 323 11).toNatClampNeg = n := by rw [b2, iN_nat (by omega)]
  obtain ⟨t1, t2, t3⟩ := cTok_1 nL nE
  rw [c1] at t1 t2 t3
  have eS : rSt τ = tkS T L n := by
    unfold rSt
    rw [mL, mE]
    exact tkS_cg c4 lE
  have bE := tkS_b (T := T) lE
  have eP := rPl_cg c4 bE.2
  have eV := rVa_cg c4 bE.2
  have eK := rKi_cg c4 bE.2
  refine ⟨lE, ⟨t1, t2, t3⟩, ?_⟩
  rw [rNx_e, mL, eS, eP, eV, eK]
  exact ⟨rfl, rfl, rfl, rfl⟩
theorem PQ_1 {T : gW} {L : Nat} {σ τ : gS} (hc : PC T L σ τ) : PQ T L (cS1 σ) (dS1 τ) := by
  have c : PC T L (gup (gup (cClT σ) 1 5 0) 1 3 0) (gup (gup (gup (dZk τ 330) 323 11 0) 323 15 0) 323 9 (-2)) := by
    obtain ⟨c1, c2, c3, c4, c5, c6⟩ := hc
    refine ⟨?_, ?_, ?_, fun i hi => ?_, c5, c6⟩
    · funext i; rw [gup_ne (by omega), gup_ne (by omega), cClT_ne (by decide) (by decide) (by decide), c1]
    · rw [gup_ne (by omega), gup_ne (by omega), cClT_ne (by decide) (by decide) (by decide), c2]
    · rw [gup_ne (by omega), gup_ne (by omega), gup_ne (by omega)]
      unfold dZk
      rw [grow_ne (by decide), c3]
    · rw [gup_ne (by omega), gup_ne (by omega), gup_ne (by omega)]
      unfold dZk
      rw [grow_ne (by decide), c4 i hi]
  refine ⟨PC_nx c, Or.inl ⟨?_, ⟨?_, ?_⟩, 0, PT_tok c (Nat.zero_le _) (gup_at _ _ _) ?_⟩⟩
  · unfold cS1 cBeg
    rw [cTok_5, gup_ne (by omega), gup_at]
  · unfold dS1
    rw [rNx_3 (by omega), gup_ne (by omega), gup_at]
  · unfold dS1
    rw [rNx_3 (by omega), gup_at]
  · rw [gup_ne (by omega), gup_ne (by omega), gup_at]
    rfl
theorem gup32_1 {σ : gS} {j q : Nat} {x : Int32} (h : ¬ q = 32) : gup σ 32 j x q = σ q := funext fun i => gup_ne (by omega)
theorem gup25_3 {σ : gS} {j q : Nat} {x : Int32} (h : ¬ q = 325) : gup σ 325 j x q = σ q := funext fun i => gup_ne (by omega)
/-- heads alike -/
noncomputable def PH (σ τ : gS) : Prop := σ 1 5 = 0 → σ 32 4 = τ 325 0 ∧ (2 ≤ τ 325 0 ∧ τ 325 0 ≤ 10)
theorem PQ_set {T : gW} {L : Nat} {σ τ : gS} (hc : PC T L σ τ) : PQ T L (cSet0 σ) (dSet0 τ) ∧ (cSet0 σ 1 5 = 0 → cSet0 σ 32 4 = dSet0 τ 325 0 ∧ (2 ≤ dSet0 τ 325 0 ∧ dSet0 τ 325 0 ≤ 10) ∧ cSet0 σ 32 5 = dSet0 τ 325 1) := by
  have q1 := PQ_1 hc
  unfold cSet0 dSet0
  obtain ⟨s1, hs1⟩ : ∃ s, cS1 σ = s := ⟨_, rfl⟩
  obtain ⟨t1, ht1⟩ : ∃ t, dS1 τ = t := ⟨_, rfl⟩
  rw [hs1, ht1] at q1
  rw [hs1, ht1]
  have q2 : PQ T L (cS2 s1) (dS2 t1) := PQ_pass q1 (fun _ m ht => PT_1000001 q1.1 ht) (fun _ q => by rw [q.1]; decide)
  obtain ⟨s2, hs2⟩ : ∃ s, cS2 s1 = s := ⟨_, rfl⟩
  obtain ⟨t2, ht2⟩ : ∃ t, dS2 t1 = t := ⟨_, rfl⟩
  rw [hs2, ht2] at q2
  rw [hs2, ht2]
  obtain ⟨i1, i2⟩ := PQ_int (a := 2) (b := 10) q2 (by decide)
  have q3 : PQ T L (cS3 s2) (dS3 t2) := PQ_cg i1 (gup32_1 (by decide)) (gup32_1 (by decide)) (gup32_1 (by decide)) (gup25_3 (by decide)) (gup25_3 (by decide))
  have h3 : PH (cS3 s2) (dS3 t2) := by
    unfold PH cS3 dS3
    rw [gup_ne (by omega), gup_at, gup_at]
    intro z
    obtain ⟨j1, j2, j3⟩ := i2 z
    rw [j3]
    exact ⟨rfl, j2⟩
  obtain ⟨s3, hs3⟩ : ∃ s, cS3 s2 = s := ⟨_, rfl⟩
  obtain ⟨t3, ht3⟩ : ∃ t, dS3 t2 = t := ⟨_, rfl⟩
  rw [hs3, ht3] at q3 h3
  rw [hs3, ht3]
  have q4 : PQ T L (cS4 s3) (dS4 t3) := PQ_pass q3 (fun _ m ht => PT_1000002 q3.1 ht) (fun _ q => by rw [q.1]; decide)
  have h4 : PH (cS4 s3) (dS4 t3) := by
    intro z
    have := h3 (cPs_0 z).1
    unfold cS4 dS4
    rw [cPs_far (by decide), rTk_25]
    exact this
  obtain ⟨s4, hs4⟩ : ∃ s, cS4 s3 = s := ⟨_, rfl⟩
  obtain ⟨t4, ht4⟩ : ∃ t, dS4 t3 = t := ⟨_, rfl⟩
  rw [hs4, ht4] at q4 h4
  rw [hs4, ht4]
  have q5' : PQ T L (cInt s4 0 (s4 32 4)) (rTn t4 0 (t4 325 0)) ∧ (cInt s4 0 (s4 32 4) 1 5 = 0 → s4 1 5 = 0 ∧ rNm t4 0 (t4 325 0) = cNu s4) := by
    by_cases w : s4 1 5 = 0
    · rw [(h4 w).1]
      obtain ⟨a1, a2⟩ := PQ_int (a := 0) (b := t4 325 0) q4 (by decide)
      exact ⟨a1, fun z => ⟨w, (a2 z).2.2⟩⟩
    · have e : cInt s4 0 (s4 32 4) = gup s4 1 5 1 := by
        unfold cInt cPs
        rw [if_neg (fun z => w z.1)]
      have e2 : rTn t4 0 (t4 325 0) = t4 := rTk_f (PQ_fw q4 w).1
      rw [e, e2]
      exact ⟨PQ_w q4 w, fun z => absurd z (by rw [gup_at]; decide)⟩
  have q5 : PQ T L (cS5 s4) (dS5 t4) := PQ_cg q5'.1 (gup32_1 (by decide)) (gup32_1 (by decide)) (gup32_1 (by decide)) (gup25_3 (by decide)) (gup25_3 (by decide))
  have h5 : cS5 s4 1 5 = 0 → cS5 s4 32 4 = dS5 t4 325 0 ∧ (2 ≤ dS5 t4 325 0 ∧ dS5 t4 325 0 ≤ 10) ∧ cS5 s4 32 5 = dS5 t4 325 1 := by
    unfold cS5 dS5
    rw [gup_ne (by omega), gup_ne (by omega), gup_ne (by omega), gup_at, gup_at]
    intro z
    obtain ⟨j1, j3⟩ := q5'.2 z
    obtain ⟨k1, k2⟩ := h4 j1
    rw [cInt_far (by decide), rTn_far (by decide), j3]
    exact ⟨k1, k2, rfl⟩
  obtain ⟨s5, hs5⟩ : ∃ s, cS5 s4 = s := ⟨_, rfl⟩
  obtain ⟨t5, ht5⟩ : ∃ t, dS5 t4 = t := ⟨_, rfl⟩
  rw [hs5, ht5] at q5 h5
  rw [hs5, ht5]
  refine ⟨PQ_pass q5 (fun _ m ht => (PT_sg q5.1 ht).1) (fun w q => ?_), fun z => ?_⟩
  · obtain ⟨f, m, ht⟩ := PQ_no q5 w
    intro z
    have z2 := (PT_end q5.1 ht).mp z
    have := (PT_sg q5.1 ht).1.mp q
    rw [z2] at this
    exact absurd this (by decide)
  · have := h5 (cPs_0 z).1
    unfold cS6 dS6
    rw [cPs_far (by decide), rTk_25, rTk_25]
    exact this
theorem cSet0_ne {σ : gS} {q j : Nat} (h : ¬ q = 1) (h2 : ¬ (q = 32 ∧ (j = 4 ∨ j = 5))) : cSet0 σ q j = cClT σ q j := by
  unfold cSet0 cS6 cS5 cS4 cS3 cS2 cS1
  rw [cPs_far h, gup_ne (by omega), cInt_far h, cPs_far h, gup_ne (by omega), cInt_far h, cPs_far h, cBeg_ne h]
theorem dSet0_ne {τ : gS} {j : Nat} (h : ¬ j = 0) (h2 : ¬ j = 1) : dSet0 τ 325 j = dZk τ 330 325 j := by
  unfold dSet0 dS6 dS5 dS4 dS3 dS2 dS1 rTn
  rw [rTk_25, gup_ne (by omega), rTk_25, rTk_25, gup_ne (by omega), rTk_25, rTk_25, rNx_far (by decide), gup_ne (by omega), gup_ne (by omega), gup_ne (by omega)]
theorem dSet0_0 {τ : gS} {j : Nat} (h : ¬ j = 0) (h2 : ¬ j = 1) (h3 : j < 330) : dSet0 τ 325 j = 0 := by
  rw [dSet0_ne h h2]
  unfold dZk
  rw [grow_at, if_pos h3]
/-- an empty train, read by both -/
theorem HL_0 {T : gW} {L : Nat} {σ τ : gS} (hc : PC T L σ τ) : HL T L 0 (cSet0 σ) (dSet0 τ) := by
  obtain ⟨q, h⟩ := PQ_set hc
  refine ⟨q, fun w => ?_⟩
  obtain ⟨h1, h2, h3⟩ := h w
  have r3 : dSet0 τ 325 3 = 0 := dSet0_0 (by decide) (by decide) (by decide)
  have nR : nM (dSet0 τ 325) = 0 := by unfold nM; rw [r3]; rfl
  have hd : ∀ j, j < 9 → cR (cSet0 σ) 32 j = dSet0 τ 325 j := by
    intro j hj
    rw [cR_h hj]
    by_cases e0 : j = 0
    · subst e0; exact h1
    · by_cases e1 : j = 1
      · subst e1; exact h3
      · rw [cSet0_ne (by decide) (by omega), dSet0_0 e0 e1 (by omega)]
        unfold cClT
        rw [if_neg (by omega), if_neg (by omega), if_pos (by omega)]
  have nC : nM (cR (cSet0 σ) 32) = 0 := by unfold nM; rw [hd 3 (by decide), r3]; rfl
  refine ⟨⟨⟨hd, fun t ht => by rw [nC] at ht; exact absurd ht (Nat.not_lt_zero _)⟩, ⟨?_, ?_, ?_⟩, ⟨⟨?_, ?_⟩, ?_, ?_⟩, ?_⟩, ⟨?_, ?_, ?_, h2⟩, nR⟩
  · rw [hd 3 (by decide), r3]; decide
  · intro t ht
    rw [nC] at ht
    exact absurd ht (Nat.not_lt_zero _)
  · intro a ha f hf
    unfold mem
    rw [nC, cSet0_ne (by decide) (by omega)]
    unfold cClT
    rw [if_pos (by omega)]
    rfl
  · rw [cSet0_ne (by decide) (by omega)]
    unfold cClT
    rw [if_neg (by omega), if_pos (by omega)]
    decide
  · rw [cSet0_ne (by decide) (by omega)]
    unfold cClT
    rw [if_neg (by omega), if_pos (by omega)]
    decide
  · rw [cSet0_ne (by decide) (by omega), dSet0_0 (by decide) (by decide) (by decide)]
    unfold cClT
    rw [if_neg (by omega), if_pos (by omega)]
  · intro i hi
    have e : cSet0 σ (32 + 24) 2 = 0 := by
      rw [cSet0_ne (by decide) (by omega)]
      unfold cClT
      rw [if_neg (by omega), if_pos (by omega)]
    rw [e] at hi
    exact absurd hi (Nat.not_lt_zero _)
  · intro t ht
    rw [nR] at ht
    exact absurd ht (Nat.not_lt_zero _)
  · intro t ht
    rw [nR] at ht
    exact absurd ht (Nat.not_lt_zero _)
  · intro t ht
    rw [nR] at ht
    exact absurd ht (Nat.not_lt_zero _)
  · rw [nR]
    exact Nat.le_refl _
/-- class and reference read the tape alike -/
theorem FN_set {T : gW} {L : Nat} {σ τ : gS} (hc : PC T L σ τ) : FN (cSet σ) (dSet τ) := by
  rw [cSet_e, dSet_e]
  exact FN_lp 20 0 _ _ rfl (HL_0 hc)
end
section
-- text 101
/-! RELATION: load -/
theorem cLp_far {q : Nat} (h : ¬ q = 1) (h4 : ¬ q = 4) (h32 : q < 32 ∨ 56 ≤ q) : ∀ (d t : Nat) (σ : gS), t + d = 20 → (0 ≤ σ 32 7 ∧ σ 32 7 ≤ iN t) → cLp d σ q = σ q
  | 0, t, σ, hd, h7 => rfl
  | d + 1, t, σ, hd, h7 => by
    obtain ⟨a, b⟩ := cLp_st (by omega) h7
    unfold cLp
    split
    · rfl
    · rw [cLp_far h h4 h32 d (t + 1) _ (by omega) b]
      exact rTrv_far h h4 a h32
theorem cSet_far {σ : gS} {q : Nat} (h : ¬ q = 1) (h4 : ¬ q = 4) (h32 : q < 32 ∨ 57 ≤ q) : cSet σ q = σ q := by
  rw [cSet_e, cLp_far h h4 (by omega) 20 0 _ rfl (by rw [cSet0_7]; decide)]
  funext j
  rw [cSet0_ne h (by omega), cClT_ne (by omega) (by omega) (by omega)]
/-- the parser leaves the reference's other numbers and what is beyond the draft -/
noncomputable def qJ (σ τ : gS) : Prop := (∀ j, j < 9 → τ 323 j = σ 323 j) ∧ (∀ j, 330 ≤ j → τ 325 j = σ 325 j) ∧ ∀ q, ¬ q = 323 → ¬ q = 325 → τ q = σ q
theorem qJ_id (σ : gS) : qJ σ σ := ⟨fun _ _ => rfl, fun _ _ => rfl, fun _ _ _ => rfl⟩
theorem qJ_t {σ τ ρ : gS} (h : qJ σ τ) (h2 : qJ τ ρ) : qJ σ ρ := ⟨fun j hj => (h2.1 j hj).trans (h.1 j hj), fun j hj => (h2.2.1 j hj).trans (h.2.1 j hj), fun q a b => (h2.2.2 q a b).trans (h.2.2 q a b)⟩
theorem qJ_25 {σ τ : gS} {j : Nat} {x : Int32} (h : qJ σ τ) (hj : j < 330) : qJ σ (gup τ 325 j x) := qJ_t h ⟨fun i hi => gup_ne (by omega), fun i hi => gup_ne (by omega), fun q a b => funext fun i => gup_ne (by omega)⟩
theorem qJ_23 {σ τ : gS} {j : Nat} {x : Int32} (h : qJ σ τ) (hj : 9 ≤ j) : qJ σ (gup τ 323 j x) := qJ_t h ⟨fun i hi => gup_ne (by omega), fun i hi => gup_ne (by omega), fun q a b => funext fun i => gup_ne (by omega)⟩
theorem qJ_nx (σ : gS) : qJ σ (rNx σ) := ⟨fun j hj => rNx_3 (by omega), fun j _ => by rw [rNx_far (by decide)], fun q a _ => rNx_far a⟩
theorem qJ_tk (σ : gS) (c : Int32) : qJ σ (rTk σ c) := by
  rw [rTk_e]
  split
  · split
    · exact qJ_23 (qJ_23 (qJ_id σ) (by decide)) (by decide)
    · exact qJ_nx σ
  · exact qJ_id σ
theorem qJ_tn (σ : gS) (a b : Int32) : qJ σ (rTn σ a b) := qJ_tk _ _
theorem qJ_lk (σ : gS) : qJ σ (rLk σ) := qJ_tk _ _
theorem qT_J {σ : gS} {n : Nat} (hn : n < 20) : qJ σ (qT σ n) := by
  unfold qT
  split
  · exact qJ_25 (qJ_nx σ) (by omega)
  · exact qJ_id σ
theorem qF_J {σ : gS} {n : Nat} (hn : n < 20) : qJ σ (qF σ n) := by
  unfold qF
  split
  · exact qJ_25 (qJ_t (qJ_nx σ) (qJ_tn _ _ _)) (by omega)
  · exact qJ_id σ
theorem qW_J {σ : gS} {n : Nat} (hn : n < 20) : qJ σ (qW σ n) := by
  unfold qW
  split
  · exact qJ_25 (qJ_t (qJ_t (qJ_nx σ) (qJ_lk _)) (qJ_tn _ _ _)) (by omega)
  · exact qJ_id σ
theorem qAh_J {σ : gS} {n : Nat} (hn : n < 20) : qJ σ (qAh σ n) := by
  unfold qAh
  split
  · exact qJ_25 (qJ_t (qJ_t (qJ_nx σ) (qJ_lk _)) (qJ_tn _ _ _)) (by omega)
  · exact qJ_id σ
theorem qS_J {σ : gS} {n : Nat} (hn : n < 20) : qJ σ (qS σ n) := by
  unfold qS
  split
  · exact qJ_25 (qJ_t (qJ_nx σ) (qJ_tn _ _ _)) (by omega)
  · exact qJ_id σ
theorem qP_J {σ : gS} {n : Nat} (hn : n < 20) : qJ σ (qP σ n) := by
  unfold qP
  split
  · exact qJ_25 (qJ_t (qJ_nx σ) (qJ_tn _ _ _)) (by omega)
  · exact qJ_id σ
theorem qR_J {σ : gS} {n : Nat} (hn : n < 20) : qJ σ (qR σ n) := by
  unfold qR
  split
  · exact qJ_25 (qJ_t (qJ_25 (qJ_t (qJ_nx σ) (qJ_tn _ _ _)) (by omega)) (qJ_tn _ _ _)) (by omega)
  · exact qJ_id σ
theorem qMid_J {σ : gS} {n : Nat} (hn : n < 20) : qJ σ (qMid σ n) := qJ_t (qJ_t (qJ_t (qJ_t (qJ_t (qJ_t (qT_J hn) (qF_J hn)) (qW_J hn)) (qAh_J hn)) (qR_J hn)) (qS_J hn)) (qP_J hn)
theorem qZ_J {σ : gS} {n : Nat} {x : Int32} : qJ σ (qZ σ n x) := by
  unfold qZ
  split
  · split
    · exact qJ_25 (qJ_tk _ _) (by decide)
    · exact qJ_id σ
  · exact qJ_tk _ _
theorem hRs_J {σ : gS} {n : Nat} (h3 : σ 325 3 = iN n) (hn : n ≤ 20) : qJ σ (hRs σ) := by
  rw [hRs_e]
  split
  · rename_i q
    have l : n < 20 := by
      rw [h3] at q
      exact (iN_lt (m := 20) (by omega) (by decide)).mp q
    have en3 : (rTk σ 1 325 3).toNatClampNeg = n := by rw [rTk_25, h3, iN_nat (by omega)]
    unfold hRs1
    rw [en3]
    obtain ⟨b, hb⟩ : ∃ b, rTk (rTk σ 1) (bI (q2c (rTk σ 1) (rTk σ 1 323 14))) = b := ⟨_, rfl⟩
    have jb : qJ σ b := by rw [← hb]; exact qJ_t (qJ_tk _ _) (qJ_tk _ _)
    have nb : nM (b 325) = n := by rw [← hb]; unfold nM; rw [rTk_25, rTk_25, h3, iN_nat (by omega)]
    rw [hb]
    unfold hRs2
    split
    · have jg : qJ b (grow (rTk b 1) 325 (fNew (b 325) (rTk σ 1 323 14) (b 323 14))) := by
        refine qJ_t (qJ_tk b 1) ⟨fun i hi => by rw [grow_ne (by decide)], fun i hi => ?_, fun q a1 a2 => grow_ne a2⟩
        rw [grow_at, fNew_ne (by rw [nb]; omega), rTk_25]
      exact qJ_t jb (qJ_t jg (qJ_t (qMid_J l) qZ_J))
    · exact qJ_t jb (qJ_tk _ _)
  · exact qJ_tk _ _
theorem rLp_J : ∀ (d : Nat) (σ : gS), rHd d σ → qJ σ (rLp d σ)
  | 0, σ, _ => qJ_id σ
  | d + 1, σ, h => by
    unfold rLp
    split
    · exact qJ_id σ
    · rename_i q
      have f : σ 323 15 = 0 := Decidable.not_not.mp (fun z => q (Or.inl z))
      have st := rHd_st h f
      obtain ⟨hN, h | ⟨hk, n, h1, h2, h3⟩⟩ := h
      · exact absurd f h.1
      · exact qJ_t (hRs_J h3 h1) (rLp_J d _ st.2)
theorem dSet_J {σ : gS} (h : RT σ) : qJ σ (dSet σ) := by
  have j0 : qJ σ (dZk σ 330) := by
    unfold dZk
    refine ⟨fun j _ => by rw [grow_ne (by decide)], fun j hj => ?_, fun q a b => grow_ne b⟩
    rw [grow_at, if_neg (by omega)]
  have j1 : qJ σ (dSet0 σ) := by
    unfold dSet0 dS6 dS5 dS4 dS3 dS2 dS1
    exact qJ_t (qJ_25 (qJ_t (qJ_t (qJ_25 (qJ_t (qJ_t (qJ_t (qJ_23 (qJ_23 (qJ_23 j0 (by decide)) (by decide)) (by decide)) (qJ_nx _)) (qJ_tk _ _)) (qJ_tn _ _ _)) (by decide)) (qJ_tk _ _)) (qJ_tn _ _ _)) (by decide)) (qJ_tk _ _)
  rw [dSet_e]
  have j2 := qJ_t j1 (rLp_J 21 _ (dSet0_hd h))
  unfold hEd
  split
  · exact qJ_t j2 (qJ_tk _ _)
  · exact j2
/-- bytes are not below 0 -/
noncomputable def TB (σ : gS) : Prop := ∀ i, i < (σ 323 8).toNatClampNeg → ¬ σ 330 i = -1
theorem clL_hi {σ : gS} (h : 0 ≤ σ 2 1 ∧ σ 2 1 ≤ 1000) {q : Nat} (hq : (58 ≤ q ∧ ¬ q = 112 ∧ ¬ q = 113) ∨ q = 3 ∨ q = 5) : clL σ q = σ q := by
  obtain ⟨k, h7⟩ := cSet_ok h
  rw [clL_e]
  split
  · have n7 : (gup (gup (cSet σ) 0 9 (-2)) 2 1 0 32 7).toNatClampNeg ≤ 20 := by
      rw [gup_ne (by omega), gup_ne (by omega)]
      exact (c20 h7).2
    funext j
    unfold cLo1
    rw [gup_ne (by omega), gup_ne (by omega), gup_ne (by omega), cCo_far (by omega) n7, gup_ne (by omega), gup_ne (by omega), cSet_far (by omega) (by omega) (by omega)]
  · funext j
    unfold cLo0
    rw [gup_ne (by omega), gup_ne (by omega), cSet_far (by omega) (by omega) (by omega)]
theorem GR_load {B : Nat} {σ : gS} (h : GR B σ) (hB : 1980 ≤ B) (hT : TB σ) : (∀ q, 323 ≤ q → clL σ q = σ q) ∧ (if cLk σ then cSet σ 32 7 else -1) = aLo (dSet (clL σ)) ∧ GR B (hLoad (clL σ)) := by
  obtain ⟨g1, g2, g3, g4, g5, g6, g7, g8, g9⟩ := h
  obtain ⟨hL, h8, hTT⟩ := g5
  obtain ⟨eL, l⟩ := l1000 hL
  have hi : ∀ q, 323 ≤ q → clL σ q = σ q := fun q hq => clL_hi hL (by omega)
  obtain ⟨k, h7⟩ := cSet_ok hL
  have c : PC (σ 3) (σ 2 1).toNatClampNeg σ (clL σ) := by
    refine ⟨rfl, eL, by rw [hi 323 (by decide), h8]; exact eL, fun i hi2 => ?_, l, fun i hi2 => ?_⟩
    · rw [hi 330 (by decide)]
      exact hTT i hi2
    · rw [← hTT i hi2]
      exact hT i (by rw [h8]; exact hi2)
  have fn := FN_set c
  have rt : RT (clL σ) := by
    show 0 ≤ clL σ 323 8 ∧ clL σ 323 8 ≤ 1000
    rw [hi 323 (by decide)]
    exact g9
  obtain ⟨J1, J2, J3⟩ := dSet_J rt
  obtain ⟨ρ, hρ⟩ : ∃ ρ, dSet (clL σ) = ρ := ⟨_, rfl⟩
  rw [hρ] at fn J1 J2 J3
  rw [hLoad_e, hρ]
  refine ⟨hi, ?_, ?_⟩
  · unfold aLo
    rcases fn with ⟨a1, a2, a3, a4⟩ | ⟨a1, a2, a3⟩
    · rw [if_pos a1, if_pos a2.1]
      exact (SV_3 a3).2.2
    · rw [if_neg a1, if_neg a2]
  · unfold hLo
    rcases fn with ⟨a1, a2, a3, a4⟩ | ⟨a1, a2, a3⟩
    · rw [if_pos a2.1]
      obtain ⟨X, hX⟩ : ∃ X, gup (gup (cSet σ) 0 9 (-2)) 2 1 0 = X := ⟨_, rfl⟩
      have xv : ∀ q, ¬ q = 0 → ¬ q = 2 → X q = cSet σ q := fun q q1 q2 => by rw [← hX]; funext j; rw [gup_ne (by omega), gup_ne (by omega)]
      have n7 : (X 32 7).toNatClampNeg ≤ 20 := by rw [xv 32 (by decide) (by decide)]; exact (c20 h7).2
      have eC : clL σ = gup (gup (gup (cCo X 6 32) 112 0 0) 112 1 0) 113 2 0 := by
        rw [clL_e, if_pos a1]
        unfold cLo1
        rw [hX]
      have sX : SV X 32 (ρ 325) := SV_blk a3 (fun q q1 q2 => xv q (by omega) (by omega))
      have sC := cCo_ok (p := 6) (q := 32) (by decide) sX
      obtain ⟨τ, hτ⟩ : ∃ τ, hLo1 ρ = τ := ⟨_, rfl⟩
      rw [hτ]
      have t : ∀ q, q < 323 → τ q = clL σ q := fun q hq => by
        rw [← hτ, ← J3 q (by omega) (by omega)]
        unfold hLo1
        funext j
        rw [gup_ne (by omega), gup_ne (by omega), gup_ne (by omega), grow_ne (by omega), gup_ne (by omega)]
      have t2 : ∀ q, 323 ≤ q → ¬ q = 323 → ¬ q = 324 → ¬ q = 325 → ¬ q = 329 → τ q = σ q := fun q hq q1 q2 q4 q3 => by
        rw [← hi q hq, ← hτ, ← J3 q q1 q4]
        unfold hLo1
        funext j
        rw [gup_ne (by omega), gup_ne (by omega), gup_ne (by omega), grow_ne (by omega), gup_ne (by omega)]
      have t325 : τ 325 = ρ 325 := by
        rw [← hτ]
        unfold hLo1
        funext j
        rw [gup_ne (by omega), gup_ne (by omega), gup_ne (by omega), grow_ne (by omega), gup_ne (by omega)]
      have t324 : ∀ j, τ 324 j = if j < 330 then ρ 325 j else σ 324 j := by
        intro j
        rw [← hτ]
        unfold hLo1
        rw [gup_ne (by omega), gup_ne (by omega), gup_ne (by omega), grow_at]
        unfold rla
        by_cases q : j < 330
        · rw [if_pos (by omega), if_pos q, Nat.zero_add, Nat.sub_zero]
        · rw [if_neg (by omega), if_neg q, J3 324 (by decide) (by decide), hi 324 (by decide)]
      have t323 : ∀ j, τ 323 j = if j = 6 then 0 else if j = 8 then 0 else ρ 323 j := by
        intro j
        rw [← hτ]
        unfold hLo1
        rw [gup_ne (by omega), gup_ne (by omega)]
        by_cases q : j = 6
        · subst q
          rw [gup_at, if_pos rfl]
        · rw [gup_ne (by omega), grow_ne (by decide), if_neg q]
          by_cases q2 : j = 8
          · subst q2
            rw [gup_at, if_pos rfl]
          · rw [gup_ne (by omega), if_neg q2]
      have t329 : ∀ s, s < 2 → τ 329 s = 0 := by
        intro s hs
        rw [← hτ]
        unfold hLo1
        by_cases q : s = 1
        · subst q
          rw [gup_at]
        · rw [gup_ne (by omega)]
          have : s = 0 := by omega
          subst this
          rw [gup_at]
      have row : ∀ j, j < 330 → τ 324 j = ρ 325 j := fun j hj => by rw [t324, if_pos hj]
      have c112 : ∀ s, s < 2 → τ 112 s = 0 := by
        intro s hs
        rw [t 112 (by decide), eC, gup_ne (by omega)]
        by_cases q : s = 1
        · subst q
          rw [gup_at]
        · rw [gup_ne (by omega)]
          have : s = 0 := by omega
          subst this
          rw [gup_at]
      have c2 : τ 113 2 = 0 := by rw [t 113 (by decide), eC, gup_at]
      have cfar : ∀ q, q = 112 ∨ q = 113 → cCo X 6 32 q = σ q := fun q hq => by
        funext j
        rw [cCo_far (by omega) n7, xv q (by omega) (by omega), cSet_far (by omega) (by omega) (by omega)]
      have c1 : τ 113 1 = σ 113 1 := by rw [t 113 (by decide), eC, gup_ne (by omega), gup_ne (by omega), gup_ne (by omega), cfar 113 (by omega)]
      have c2n : (τ 113 2).toNatClampNeg = 0 := by rw [c2]; rfl
      have z0 : (0 : Int32) ≤ 0 ∧ (0 : Int32) ≤ 8 := by decide
      have c01 : τ 2 1 = 0 := by
        rw [t 2 (by decide), eC, gup_ne (by omega), gup_ne (by omega), gup_ne (by omega), cCo_far (by omega) n7, ← hX, gup_at]
      refine ⟨SV_row (SV_blk (σ := cCo X 6 32) sC (fun q q1 q2 => ?_)) row, GD_row (GD_mono a4 hB) (SV_3 a3).1 row, ⟨⟨⟨by rw [c1]; exact g3.1.1.1, by rw [c2]; exact z0⟩, by rw [c2, t323, if_pos rfl], fun u hu => by rw [c2n] at hu; exact absurd hu (Nat.not_lt_zero _)⟩, fun u hu => by rw [c2n] at hu; exact absurd hu (Nat.not_lt_zero _), fun j hj => ?_⟩, fun s hs => ⟨?_, ?_, fun z => absurd (c112 s hs) z⟩, ?_, ?_, ⟨?_, ?_⟩, ⟨?_, ?_, ?_⟩, ?_⟩
      · rw [t q (by omega), eC]
        funext j
        rw [gup_ne (by omega), gup_ne (by omega), gup_ne (by omega)]
      · rw [t _ (by omega), clL_hi hL (by omega)]
        exact g3.2.2 j hj
      · have : ∀ j, j < 2 → τ 112 j = τ 329 j := fun j hj => by rw [c112 j hj, t329 j hj]
        exact this s hs
      · rw [t _ (by omega), clL_hi hL (by omega)]
        exact (g4 s hs).2.1
      · unfold TP
        rw [c01, t323, if_neg (by decide), if_pos rfl]
        exact ⟨by decide, rfl, fun i hi => absurd hi (Nat.not_lt_zero _)⟩
      · rw [t323, if_neg (by decide), if_neg (by decide), a2.2, t 0 (by decide), eC, gup_ne (by omega), gup_ne (by omega), gup_ne (by omega), cCo_far (by omega) n7, ← hX, gup_ne (by omega), gup_at]
      · have sb := SV_b a3
        exact ⟨by rw [row 3 (by decide)]; exact sb.1, by rw [row 209 (by decide)]; exact sb.2⟩
      · rw [t323, if_pos rfl]
        exact z0
      · intro j hj
        rw [t324, if_neg (by omega)]
        exact g8.1 j hj
      · intro j hj
        rw [t325, J2 j hj, hi 325 (by decide)]
        exact g8.2.1 j hj
      · rw [t2 326 (by decide) (by decide) (by decide) (by decide) (by decide)]
        exact g8.2.2
      · show 0 ≤ τ 323 8 ∧ _
        rw [t323, if_neg (by decide), if_pos rfl]
        decide
    · rw [if_neg a2]
      have eC : clL σ = gup (gup (cSet σ) 0 9 (cSet σ 1 2)) 2 1 0 := by
        rw [clL_e, if_neg a1]
        rfl
      obtain ⟨τ, hτ⟩ : ∃ τ, gup ρ 323 8 0 = τ := ⟨_, rfl⟩
      rw [hτ]
      have t : ∀ q, ¬ q = 323 → ¬ q = 325 → ((6 ≤ q ∧ q < 32) ∨ 58 ≤ q) → τ q = σ q := fun q q1 q2 q3 => by
        have e : τ q = ρ q := by rw [← hτ]; funext j; rw [gup_ne (by omega)]
        rw [e, J3 q q1 q2, eC]
        funext j
        rw [gup_ne (by omega), gup_ne (by omega), cSet_far (by omega) (by omega) (by omega)]
      have t323 : ∀ j, j < 8 → τ 323 j = σ 323 j := fun j hj => by rw [← hτ, gup_ne (by omega), J1 j (by omega), hi 323 (by decide)]
      have t325 : τ 325 = ρ 325 := by rw [← hτ]; funext j; rw [gup_ne (by omega)]
      have e113 := t 113 (by decide) (by decide) (by decide)
      have e327 := t 327 (by decide) (by decide) (by decide)
      have e324 := t 324 (by decide) (by decide) (by decide)
      have eP : ∀ u, cPl τ u = cPl σ u := fun u => by unfold cPl; rw [e113]
      have hm : ∀ u, ((σ 113 1).toNatClampNeg + u) % 8 < 8 := fun u => Nat.mod_lt _ (by decide)
      have t8 : τ 323 8 = 0 := by rw [← hτ, gup_at]
      have t21 : τ 2 1 = 0 := by
        have e : τ 2 = ρ 2 := by rw [← hτ]; funext j; rw [gup_ne (by omega)]
        rw [e, J3 2 (by decide) (by decide), eC, gup_at]
      refine ⟨?_, by rw [e324]; exact g2, ?_, SL_same (Nat.le_refl _) g4 (fun q q1 q2 => t q (by omega) (by omega) (by omega)) (t 328 (by decide) (by decide) (by decide)) (t 329 (by decide) (by decide) (by decide)), ?_, ?_, ?_, ?_, ?_⟩
      · rw [e324]
        exact SV_blk g1 (fun q q1 q2 => t q (by omega) (by omega) (by omega))
      · obtain ⟨⟨p1, p2, p3⟩, p4, p5⟩ := g3
        refine ⟨⟨by unfold bPa; rw [e113]; exact p1, by rw [e113, t323 6 (by decide)]; exact p2, fun u hu => ?_⟩, fun u hu => ?_, fun j hj => ?_⟩
        · rw [e113] at hu
          rw [eP, e327]
          refine SV_blk (p3 u hu) (fun q q1 q2 => ?_)
          have := hm u
          unfold cPl at q1 q2
          exact t q (by omega) (by omega) (by omega)
        · rw [e113] at hu
          rw [e327]
          exact p4 u hu
        · rw [t _ (by omega) (by omega) (by omega)]
          exact p5 j hj
      · unfold TP
        rw [t21, t8]
        exact ⟨by decide, rfl, fun i hi => absurd hi (Nat.not_lt_zero _)⟩
      · have e0 : τ 0 = ρ 0 := by rw [← hτ]; funext j; rw [gup_ne (by omega)]
        rw [e0, J3 0 (by decide) (by decide), eC, gup_ne (by omega), gup_at, ← a3, ← hτ, gup_ne (by omega)]
      · unfold RS
        rw [e324, t323 6 (by decide)]
        exact g7
      · unfold RZ
        refine ⟨by rw [e324]; exact g8.1, fun j hj => ?_, by rw [t 326 (by decide) (by decide) (by decide)]; exact g8.2.2⟩
        rw [t325, J2 j hj, hi 325 (by decide)]
        exact g8.2.1 j hj
      · show 0 ≤ τ 323 8 ∧ τ 323 8 ≤ 1000
        rw [t8]
        decide
end
section
-- text 102
/-! QUERIES: those put together of what is known -/
abbrev b3R (R : gW) : Prop := 0 ≤ R 3 ∧ R 3 ≤ 20
noncomputable def aAt (R : gW) (x : Int32) : Int32 := if isS R x then fWho R x else -1
noncomputable def aWy (R : gW) (a b x : Int32) : Int32 := if isP R a b ∧ (0 ≤ x ∧ x ≤ 9) then fWhy R a.toNatClampNeg b.toNatClampNeg x else -1
noncomputable def aWm (R : gW) (t x : Int32) : Int32 := if isT R t ∧ isS R x then fWhyM R t.toNatClampNeg x else -1
noncomputable def aJa (R : gW) (t x : Int32) : Int32 := if isT R t ∧ isS R x then fJoy R t.toNatClampNeg x + 100 else -1
noncomputable def aIs (R : gW) (a b w : Int32) : Int32 := if isP R a b then (if w = 0 then fRise R a.toNatClampNeg b.toNatClampNeg a.toNatClampNeg + 100 else if w = 1 then fRise R a.toNatClampNeg b.toNatClampNeg b.toNatClampNeg + 100 else if w = 2 then fJa (rsw R a.toNatClampNeg b.toNatClampNeg) + 1000 else -1) else -1
noncomputable def aIf (R : gW) (x : Int32) : Int32 := if 0 ≤ x ∧ x ≤ R 0 then fBar R x else -1
noncomputable def lea (R : gW) (a b : Nat) : Nat → Nat → Int32
  | 0, _ => -2
  | d + 1, s => if fWhy R a b (iN s) = 0 then iN s else lea R a b d (s + 1)
noncomputable def aLe (R : gW) (a b : Int32) : Int32 := if isP R a b then lea R a.toNatClampNeg b.toNatClampNeg 10 0 else -1
theorem agr_at {R S : gW} (h : agr R S) (x : Int32) : aAt R x = aAt S x := by
  unfold aAt
  by_cases q : isS S x
  · rw [if_pos ((agr_isS h x).mpr q), if_pos q, agr_Who h x]
  · rw [if_neg (fun z => q ((agr_isS h x).mp z)), if_neg q]
theorem isT_nn {R : gW} (h3 : b3R R) {t : Int32} (h : isT R t) : t.toNatClampNeg < nM R := (isT_n h3 h).2
theorem agr_wy {R S : gW} (h3 : b3R R) (h : agr R S) (a b x : Int32) : aWy R a b x = aWy S a b x := by
  unfold aWy
  by_cases q : isP R a b ∧ (0 ≤ x ∧ x ≤ 9)
  · rw [if_pos q, if_pos ⟨(agr_isP h a b).mp q.1, q.2⟩]
    exact agr_Why h (isT_nn h3 q.1.1.1) (isT_nn h3 q.1.1.2) x
  · rw [if_neg q, if_neg (fun z => q ⟨(agr_isP h a b).mpr z.1, z.2⟩)]
theorem agr_wm {R S : gW} (h3 : b3R R) (h : agr R S) (t x : Int32) : aWm R t x = aWm S t x := by
  unfold aWm
  by_cases q : isT R t ∧ isS R x
  · rw [if_pos q, if_pos ⟨(agr_isT h t).mp q.1, (agr_isS h x).mp q.2⟩]
    exact agr_WhyM h (isT_nn h3 q.1) x
  · rw [if_neg q, if_neg (fun z => q ⟨(agr_isT h t).mpr z.1, (agr_isS h x).mpr z.2⟩)]
theorem agr_ja {R S : gW} (h3 : b3R R) (h : agr R S) (t x : Int32) : aJa R t x = aJa S t x := by
  unfold aJa
  by_cases q : isT R t ∧ isS R x
  · rw [if_pos q, if_pos ⟨(agr_isT h t).mp q.1, (agr_isS h x).mp q.2⟩, agr_Joy h (isT_nn h3 q.1) x]
  · rw [if_neg q, if_neg (fun z => q ⟨(agr_isT h t).mpr z.1, (agr_isS h x).mpr z.2⟩)]
theorem agr_is {R S : gW} (h3 : b3R R) (h : agr R S) (a b w : Int32) : aIs R a b w = aIs S a b w := by
  unfold aIs
  by_cases q : isP R a b
  · have ha := isT_nn h3 q.1.1
    have hb := isT_nn h3 q.1.2
    rw [if_pos q, if_pos ((agr_isP h a b).mp q), agr_Rise h ha hb ha, agr_Rise h ha hb hb, agr_Ja (agr_rsw h ha hb)]
  · rw [if_neg q, if_neg (fun z => q ((agr_isP h a b).mpr z))]
theorem agr_if {R S : gW} (h : agr R S) (x : Int32) : aIf R x = aIf S x := by
  unfold aIf
  rw [h.1 0 (by decide), agr_Bar h x]
theorem agr_lea {R S : gW} (h : agr R S) {a b : Nat} (ha : a < nM R) (hb : b < nM R) : ∀ d s, lea R a b d s = lea S a b d s
  | 0, _ => rfl
  | d + 1, s => by
    unfold lea
    rw [agr_Why h ha hb, agr_lea h ha hb d (s + 1)]
theorem agr_le {R S : gW} (h3 : b3R R) (h : agr R S) (a b : Int32) : aLe R a b = aLe S a b := by
  unfold aLe
  by_cases q : isP R a b
  · rw [if_pos q, if_pos ((agr_isP h a b).mp q)]
    exact agr_lea h (isT_nn h3 q.1.1) (isT_nn h3 q.1.2) _ _
  · rw [if_neg q, if_neg (fun z => q ((agr_isP h a b).mpr z))]
theorem dnn {P : Prop} [Decidable P] (h : ¬ bI P = 0) : P := Decidable.not_not.mp (fun z => h (bI_0.mpr z))
set_option maxRecDepth 20000 in
theorem w126 {σ : gS} {K : gK} {x : Int32} (h : (((bI (isS (cR σ 6) x)) = 0 → K (some (.int (-1))) σ) ∧ (¬ (bI (isS (cR σ 6) x)) = 0 → (0 ≤ σ 6 7 ∧ σ 6 7 ≤ 20) ∧ K (some (.int (fWho (cR σ 6) x))) σ))) : gE 126 0 [some (.ref 0), some (.int x)] [] σ K :=
  gw_run (cy := 126) (cuts := []) (inl := []) (pf := gpec) gpec_ok 400 (by decide) h
theorem s126 {σ : gS} {K : gK} {x : Int32} (hc : SC σ) (hK : K (some (.int (aAt (cR σ 6) x))) σ) : gE 126 0 [some (.ref 0), some (.int x)] [] σ K := by
  obtain ⟨hT, hP, hL, h0⟩ := hc
  have h7 : 0 ≤ σ 6 7 ∧ σ 6 7 ≤ 20 := SC_7 ⟨hT, hP, hL, h0⟩
  unfold aAt at hK
  refine w126 ⟨fun h => ?_, fun h => ⟨h7, ?_⟩⟩
  · rw [if_neg (bI_0.mp h)] at hK; exact hK
  · rw [if_pos (dnn h)] at hK; exact hK
noncomputable def f126 : gD := fun Lv σ => match Lv with
  | [some (.ref q0), some (.int x)] => cond (Nat.beq q0 0) (some (some (SC σ), some (.int (aAt (cR σ 6) x)), σ)) none
  | _ => none
theorem ok126 : gFok 126 f126 := by
  intro Lv σ q h hc K hK
  unfold f126 at h
  split at h
  · rename_i q0 x
    obtain ⟨hb, h⟩ := c_no h
    have hb0 := hb
    have e0 := b_eq hb0
    subst e0
    cases h
    exact s126 (hc _ rfl) hK
  · cases h
set_option maxRecDepth 20000 in
theorem w231 {σ : gS} {K : gK} {x : Int32} (h : (((bI (isS (σ 324) x)) = 0 → K (some (.int (-1))) σ) ∧ (¬ (bI (isS (σ 324) x)) = 0 → (0 ≤ σ 324 3 ∧ σ 324 3 ≤ 20) ∧ K (some (.int (fWho (σ 324) x))) σ))) : gE 231 0 [some (.ref 323), some (.int x)] [] σ K :=
  gw_run (cy := 231) (cuts := []) (inl := []) (pf := gpec) gpec_ok 400 (by decide) h
theorem s231 {σ : gS} {K : gK} {x : Int32} (hc : RS σ) (hK : K (some (.int (aAt (σ 324) x))) σ) : gE 231 0 [some (.ref 323), some (.int x)] [] σ K := by
  obtain ⟨⟨h3, h9⟩, hu⟩ := hc
  unfold aAt at hK
  refine w231 ⟨fun h => ?_, fun h => ⟨h3, ?_⟩⟩
  · rw [if_neg (bI_0.mp h)] at hK; exact hK
  · rw [if_pos (dnn h)] at hK; exact hK
noncomputable def f231 : gD := fun Lv σ => match Lv with
  | [some (.ref q0), some (.int x)] => cond (Nat.beq q0 323) (some (some (RS σ), some (.int (aAt (σ 324) x)), σ)) none
  | _ => none
theorem ok231 : gFok 231 f231 := by
  intro Lv σ q h hc K hK
  unfold f231 at h
  split at h
  · rename_i q0 x
    obtain ⟨hb, h⟩ := c_no h
    have hb0 := hb
    have e0 := b_eq hb0
    subst e0
    cases h
    exact s231 (hc _ rfl) hK
  · cases h
set_option maxRecDepth 20000 in
theorem w130 {σ : gS} {K : gK} {a b x : Int32} (h : (((bI (isP (cR σ 6) a b)) = 0 → K (some (.int (-1))) σ) ∧ (¬ (bI (isP (cR σ 6) a b)) = 0 → ((¬ (bI ((0 : Int32) ≤ x ∧ x ≤ (9 : Int32))) = 0 → (isN σ 6 a ∧ isN σ 6 b ∧ TC σ 6) ∧ K (some (.int (fWhy (cR σ 6) a.toNatClampNeg b.toNatClampNeg x))) σ) ∧ ((bI ((0 : Int32) ≤ x ∧ x ≤ (9 : Int32))) = 0 → K (some (.int (-1))) σ))))) : gE 130 0 [some (.ref 0), some (.int a), some (.int b), some (.int x)] [] σ K :=
  gw_run (cy := 130) (cuts := []) (inl := []) (pf := gpec) gpec_ok 400 (by decide) h
theorem s130 {σ : gS} {K : gK} {a b x : Int32} (hc : SC σ) (hK : K (some (.int (aWy (cR σ 6) a b x))) σ) : gE 130 0 [some (.ref 0), some (.int a), some (.int b), some (.int x)] [] σ K := by
  obtain ⟨hT, hP, hL, h0⟩ := hc
  have h7 : 0 ≤ σ 6 7 ∧ σ 6 7 ≤ 20 := SC_7 ⟨hT, hP, hL, h0⟩
  unfold aWy at hK
  refine w130 ⟨fun h => ?_, fun h => ⟨fun h2 => ⟨⟨isN_of hT.1 (dnn h).1.1, isN_of hT.1 (dnn h).1.2, hT⟩, ?_⟩, fun h2 => ?_⟩⟩
  · rw [if_neg (fun z => bI_0.mp h z.1)] at hK; exact hK
  · rw [if_pos ⟨dnn h, dnn h2⟩] at hK; exact hK
  · rw [if_neg (fun z => bI_0.mp h2 z.2)] at hK; exact hK
noncomputable def f130 : gD := fun Lv σ => match Lv with
  | [some (.ref q0), some (.int a), some (.int b), some (.int x)] => cond (Nat.beq q0 0) (some (some (SC σ), some (.int (aWy (cR σ 6) a b x)), σ)) none
  | _ => none
theorem ok130 : gFok 130 f130 := by
  intro Lv σ q h hc K hK
  unfold f130 at h
  split at h
  · rename_i q0 a b x
    obtain ⟨hb, h⟩ := c_no h
    have hb0 := hb
    have e0 := b_eq hb0
    subst e0
    cases h
    exact s130 (hc _ rfl) hK
  · cases h
set_option maxRecDepth 20000 in
theorem w240 {σ : gS} {K : gK} {a b x : Int32} (h : (((bI (isP (σ 324) a b)) = 0 → K (some (.int (-1))) σ) ∧ (¬ (bI (isP (σ 324) a b)) = 0 → (((bI (0 ≤ x ∧ x ≤ 9)) = 0 → K (some (.int (-1))) σ) ∧ (¬ (bI (0 ≤ x ∧ x ≤ 9)) = 0 → (((0 ≤ a ∧ a < 20) ∧ (0 ≤ b ∧ b < 20)) ∧ 0 ≤ σ 324 3 ∧ σ 324 3 ≤ 20) ∧ K (some (.int (fWhy (σ 324) a.toNatClampNeg b.toNatClampNeg x))) σ))))) : gE 240 0 [some (.ref 323), some (.int a), some (.int b), some (.int x)] [] σ K :=
  gw_run (cy := 240) (cuts := []) (inl := []) (pf := gpec) gpec_ok 400 (by decide) h
theorem s240 {σ : gS} {K : gK} {a b x : Int32} (hc : RS σ) (hK : K (some (.int (aWy (σ 324) a b x))) σ) : gE 240 0 [some (.ref 323), some (.int a), some (.int b), some (.int x)] [] σ K := by
  obtain ⟨⟨h3, h9⟩, hu⟩ := hc
  unfold aWy at hK
  refine w240 ⟨fun h => ?_, fun h => ⟨fun h2 => ?_, fun h2 => ⟨⟨isP_of h3 (dnn h), h3⟩, ?_⟩⟩⟩
  · rw [if_neg (fun z => bI_0.mp h z.1)] at hK; exact hK
  · rw [if_neg (fun z => bI_0.mp h2 z.2)] at hK; exact hK
  · rw [if_pos ⟨dnn h, dnn h2⟩] at hK; exact hK
noncomputable def f240 : gD := fun Lv σ => match Lv with
  | [some (.ref q0), some (.int a), some (.int b), some (.int x)] => cond (Nat.beq q0 323) (some (some (RS σ), some (.int (aWy (σ 324) a b x)), σ)) none
  | _ => none
theorem ok240 : gFok 240 f240 := by
  intro Lv σ q h hc K hK
  unfold f240 at h
  split at h
  · rename_i q0 a b x
    obtain ⟨hb, h⟩ := c_no h
    have hb0 := hb
    have e0 := b_eq hb0
    subst e0
    cases h
    exact s240 (hc _ rfl) hK
  · cases h
set_option maxRecDepth 20000 in
theorem w131 {σ : gS} {K : gK} {t x : Int32} (h : (((bI (isT (cR σ 6) t)) = 0 → K (some (.int (-1))) σ) ∧ (¬ (bI (isT (cR σ 6) t)) = 0 → ((¬ (bI (isS (cR σ 6) x)) = 0 → (isN σ 6 t ∧ (0 ≤ x ∧ x < 40) ∧ TC σ 6) ∧ K (some (.int (fWhyM (cR σ 6) t.toNatClampNeg x))) σ) ∧ ((bI (isS (cR σ 6) x)) = 0 → K (some (.int (-1))) σ))))) : gE 131 0 [some (.ref 0), some (.int t), some (.int x)] [] σ K :=
  gw_run (cy := 131) (cuts := []) (inl := []) (pf := gpec) gpec_ok 400 (by decide) h
theorem s131 {σ : gS} {K : gK} {t x : Int32} (hc : SC σ) (hK : K (some (.int (aWm (cR σ 6) t x))) σ) : gE 131 0 [some (.ref 0), some (.int t), some (.int x)] [] σ K := by
  obtain ⟨hT, hP, hL, h0⟩ := hc
  have h7 : 0 ≤ σ 6 7 ∧ σ 6 7 ≤ 20 := SC_7 ⟨hT, hP, hL, h0⟩
  unfold aWm at hK
  refine w131 ⟨fun h => ?_, fun h => ⟨fun h2 => ⟨⟨isN_of hT.1 (dnn h), isS_of h0 (dnn h2), hT⟩, ?_⟩, fun h2 => ?_⟩⟩
  · rw [if_neg (fun z => bI_0.mp h z.1)] at hK; exact hK
  · rw [if_pos ⟨dnn h, dnn h2⟩] at hK; exact hK
  · rw [if_neg (fun z => bI_0.mp h2 z.2)] at hK; exact hK
noncomputable def f131 : gD := fun Lv σ => match Lv with
  | [some (.ref q0), some (.int t), some (.int x)] => cond (Nat.beq q0 0) (some (some (SC σ), some (.int (aWm (cR σ 6) t x)), σ)) none
  | _ => none
theorem ok131 : gFok 131 f131 := by
  intro Lv σ q h hc K hK
  unfold f131 at h
  split at h
  · rename_i q0 t x
    obtain ⟨hb, h⟩ := c_no h
    have hb0 := hb
    have e0 := b_eq hb0
    subst e0
    cases h
    exact s131 (hc _ rfl) hK
  · cases h
set_option maxRecDepth 20000 in
theorem w241 {σ : gS} {K : gK} {t x : Int32} (h : (((bI (isT (σ 324) t)) = 0 → K (some (.int (-1))) σ) ∧ (¬ (bI (isT (σ 324) t)) = 0 → (((bI (isS (σ 324) x)) = 0 → K (some (.int (-1))) σ) ∧ (¬ (bI (isS (σ 324) x)) = 0 → ((0 ≤ t ∧ t < 20) ∧ 0 ≤ σ 324 3 ∧ σ 324 3 ≤ 20) ∧ K (some (.int (fWhyM (σ 324) t.toNatClampNeg x))) σ))))) : gE 241 0 [some (.ref 323), some (.int t), some (.int x)] [] σ K :=
  gw_run (cy := 241) (cuts := []) (inl := []) (pf := gpec) gpec_ok 400 (by decide) h
theorem s241 {σ : gS} {K : gK} {t x : Int32} (hc : RS σ) (hK : K (some (.int (aWm (σ 324) t x))) σ) : gE 241 0 [some (.ref 323), some (.int t), some (.int x)] [] σ K := by
  obtain ⟨⟨h3, h9⟩, hu⟩ := hc
  unfold aWm at hK
  refine w241 ⟨fun h => ?_, fun h => ⟨fun h2 => ?_, fun h2 => ⟨⟨isT_of h3 (dnn h), h3⟩, ?_⟩⟩⟩
  · rw [if_neg (fun z => bI_0.mp h z.1)] at hK; exact hK
  · rw [if_neg (fun z => bI_0.mp h2 z.2)] at hK; exact hK
  · rw [if_pos ⟨dnn h, dnn h2⟩] at hK; exact hK
noncomputable def f241 : gD := fun Lv σ => match Lv with
  | [some (.ref q0), some (.int t), some (.int x)] => cond (Nat.beq q0 323) (some (some (RS σ), some (.int (aWm (σ 324) t x)), σ)) none
  | _ => none
theorem ok241 : gFok 241 f241 := by
  intro Lv σ q h hc K hK
  unfold f241 at h
  split at h
  · rename_i q0 t x
    obtain ⟨hb, h⟩ := c_no h
    have hb0 := hb
    have e0 := b_eq hb0
    subst e0
    cases h
    exact s241 (hc _ rfl) hK
  · cases h
set_option maxRecDepth 20000 in
theorem w132 {σ : gS} {K : gK} {t x : Int32} (h : (((bI (isT (cR σ 6) t)) = 0 → K (some (.int (-1))) σ) ∧ (¬ (bI (isT (cR σ 6) t)) = 0 → ((¬ (bI (isS (cR σ 6) x)) = 0 → (((0 ≤ t ∧ t < 20) ∧ t.toNatClampNeg < nM (cR σ 6)) ∧ (0 ≤ x ∧ x < 40) ∧ TC σ 6) ∧ K (some (.int ((fJoy (cR σ 6) t.toNatClampNeg x) + 100))) σ) ∧ ((bI (isS (cR σ 6) x)) = 0 → K (some (.int (-1))) σ))))) : gE 132 0 [some (.ref 0), some (.int t), some (.int x)] [] σ K :=
  gw_run (cy := 132) (cuts := []) (inl := []) (pf := gpec) gpec_ok 400 (by decide) h
theorem s132 {σ : gS} {K : gK} {t x : Int32} (hc : SC σ) (hK : K (some (.int (aJa (cR σ 6) t x))) σ) : gE 132 0 [some (.ref 0), some (.int t), some (.int x)] [] σ K := by
  obtain ⟨hT, hP, hL, h0⟩ := hc
  have h7 : 0 ≤ σ 6 7 ∧ σ 6 7 ≤ 20 := SC_7 ⟨hT, hP, hL, h0⟩
  unfold aJa at hK
  refine w132 ⟨fun h => ?_, fun h => ⟨fun h2 => ⟨⟨isN_of hT.1 (dnn h), isS_of h0 (dnn h2), hT⟩, ?_⟩, fun h2 => ?_⟩⟩
  · rw [if_neg (fun z => bI_0.mp h z.1)] at hK; exact hK
  · rw [if_pos ⟨dnn h, dnn h2⟩] at hK; exact hK
  · rw [if_neg (fun z => bI_0.mp h2 z.2)] at hK; exact hK
noncomputable def f132 : gD := fun Lv σ => match Lv with
  | [some (.ref q0), some (.int t), some (.int x)] => cond (Nat.beq q0 0) (some (some (SC σ), some (.int (aJa (cR σ 6) t x)), σ)) none
  | _ => none
theorem ok132 : gFok 132 f132 := by
  intro Lv σ q h hc K hK
  unfold f132 at h
  split at h
  · rename_i q0 t x
    obtain ⟨hb, h⟩ := c_no h
    have hb0 := hb
    have e0 := b_eq hb0
    subst e0
    cases h
    exact s132 (hc _ rfl) hK
  · cases h
set_option maxRecDepth 20000 in
theorem w242 {σ : gS} {K : gK} {t x : Int32} (h : (((bI (isT (σ 324) t)) = 0 → K (some (.int (-1))) σ) ∧ (¬ (bI (isT (σ 324) t)) = 0 → (((bI (isS (σ 324) x)) = 0 → K (some (.int (-1))) σ) ∧ (¬ (bI (isS (σ 324) x)) = 0 → ((0 ≤ t ∧ t < 20) ∧ 0 ≤ σ 324 3 ∧ σ 324 3 ≤ 20) ∧ K (some (.int ((fJoy (σ 324) t.toNatClampNeg x) + 100))) σ))))) : gE 242 0 [some (.ref 323), some (.int t), some (.int x)] [] σ K :=
  gw_run (cy := 242) (cuts := []) (inl := []) (pf := gpec) gpec_ok 400 (by decide) h
theorem s242 {σ : gS} {K : gK} {t x : Int32} (hc : RS σ) (hK : K (some (.int (aJa (σ 324) t x))) σ) : gE 242 0 [some (.ref 323), some (.int t), some (.int x)] [] σ K := by
  obtain ⟨⟨h3, h9⟩, hu⟩ := hc
  unfold aJa at hK
  refine w242 ⟨fun h => ?_, fun h => ⟨fun h2 => ?_, fun h2 => ⟨⟨isT_of h3 (dnn h), h3⟩, ?_⟩⟩⟩
  · rw [if_neg (fun z => bI_0.mp h z.1)] at hK; exact hK
  · rw [if_neg (fun z => bI_0.mp h2 z.2)] at hK; exact hK
  · rw [if_pos ⟨dnn h, dnn h2⟩] at hK; exact hK
noncomputable def f242 : gD := fun Lv σ => match Lv with
  | [some (.ref q0), some (.int t), some (.int x)] => cond (Nat.beq q0 323) (some (some (RS σ), some (.int (aJa (σ 324) t x)), σ)) none
  | _ => none
theorem ok242 : gFok 242 f242 := by
  intro Lv σ q h hc K hK
  unfold f242 at h
  split at h
  · rename_i q0 t x
    obtain ⟨hb, h⟩ := c_no h
    have hb0 := hb
    have e0 := b_eq hb0
    subst e0
    cases h
    exact s242 (hc _ rfl) hK
  · cases h
set_option maxRecDepth 20000 in
theorem w133 {σ : gS} {K : gK} {a b w : Int32} (h : ((¬ (bI (isP (cR σ 6) a b)) = 0 → ((0 : Int) + 3 = 2 + 1 ∧ ((w = 0 → (isN σ 6 a ∧ isN σ 6 b ∧ TC σ 6) ∧ K (some (.int ((fRise (cR σ 6) a.toNatClampNeg b.toNatClampNeg a.toNatClampNeg) + 100))) σ) ∧ (¬ w = 0 → ((w = 1 → (isN σ 6 b ∧ isN σ 6 a ∧ TC σ 6) ∧ K (some (.int ((fRise (cR σ 6) b.toNatClampNeg a.toNatClampNeg b.toNatClampNeg) + 100))) σ) ∧ (¬ w = 1 → ((w = 2 → (isN σ 6 a ∧ isN σ 6 b ∧ TC σ 6) ∧ K (some (.int ((fJa (rsw (cR σ 6) a.toNatClampNeg b.toNatClampNeg)) + 1000))) σ) ∧ (¬ w = 2 → K (some (.int (-1))) σ)))))))) ∧ ((bI (isP (cR σ 6) a b)) = 0 → K (some (.int (-1))) σ))) : gE 133 0 [some (.ref 0), some (.int a), some (.int b), some (.int w)] [] σ K :=
  gw_run (cy := 133) (cuts := []) (inl := []) (pf := gpec) gpec_ok 400 (by decide) h
theorem s133 {σ : gS} {K : gK} {a b w : Int32} (hc : SC σ) (hK : K (some (.int (aIs (cR σ 6) a b w))) σ) : gE 133 0 [some (.ref 0), some (.int a), some (.int b), some (.int w)] [] σ K := by
  obtain ⟨hT, hP, hL, h0⟩ := hc
  have h7 : 0 ≤ σ 6 7 ∧ σ 6 7 ≤ 20 := SC_7 ⟨hT, hP, hL, h0⟩
  unfold aIs at hK
  refine w133 ⟨fun h => ?_, fun h => ?_⟩
  · have h := dnn h
    have na := isN_of hT.1 h.1.1
    have nb := isN_of hT.1 h.1.2
    rw [if_pos h] at hK
    refine ⟨by decide, fun h2 => ⟨⟨na, nb, hT⟩, ?_⟩, fun h2 => ⟨fun h3 => ⟨⟨nb, na, hT⟩, ?_⟩, fun h3 => ⟨fun h4 => ⟨⟨na, nb, hT⟩, ?_⟩, fun h4 => ?_⟩⟩⟩
    · rw [if_pos h2] at hK; exact hK
    · rw [if_neg h2, if_pos h3] at hK
      have e : fRise (cR σ 6) b.toNatClampNeg a.toNatClampNeg b.toNatClampNeg = fRise (cR σ 6) a.toNatClampNeg b.toNatClampNeg b.toNatClampNeg := by
        unfold fRise
        rw [rsw_cm]
      rw [e]; exact hK
    · rw [if_neg h2, if_neg h3, if_pos h4] at hK; exact hK
    · rw [if_neg h2, if_neg h3, if_neg h4] at hK; exact hK
  · rw [if_neg (bI_0.mp h)] at hK; exact hK
noncomputable def f133 : gD := fun Lv σ => match Lv with
  | [some (.ref q0), some (.int a), some (.int b), some (.int w)] => cond (Nat.beq q0 0) (some (some (SC σ), some (.int (aIs (cR σ 6) a b w)), σ)) none
  | _ => none
theorem ok133 : gFok 133 f133 := by
  intro Lv σ q h hc K hK
  unfold f133 at h
  split at h
  · rename_i q0 a b w
    obtain ⟨hb, h⟩ := c_no h
    have hb0 := hb
    have e0 := b_eq hb0
    subst e0
    cases h
    exact s133 (hc _ rfl) hK
  · cases h
set_option maxRecDepth 20000 in
theorem w243 {σ : gS} {K : gK} {a b w : Int32} (h : ((¬ (bI (isP (σ 324) a b)) = 0 → ((0 : Int) + 3 = 2 + 1 ∧ ((w = 0 → (((0 ≤ a ∧ a < 20) ∧ (0 ≤ b ∧ b < 20)) ∧ (0 ≤ a ∧ a < 20) ∧ 0 ≤ σ 324 3 ∧ σ 324 3 ≤ 20) ∧ K (some (.int ((fRise (σ 324) a.toNatClampNeg b.toNatClampNeg a.toNatClampNeg) + 100))) σ) ∧ (¬ w = 0 → ((w = 1 → (((0 ≤ a ∧ a < 20) ∧ (0 ≤ b ∧ b < 20)) ∧ (0 ≤ b ∧ b < 20) ∧ 0 ≤ σ 324 3 ∧ σ 324 3 ≤ 20) ∧ K (some (.int ((fRise (σ 324) a.toNatClampNeg b.toNatClampNeg b.toNatClampNeg) + 100))) σ) ∧ (¬ w = 1 → ((w = 2 → (0 ≤ σ 324 3 ∧ σ 324 3 ≤ 20) ∧ (((0 ≤ a ∧ a < 20) ∧ (0 ≤ b ∧ b < 20)) ∧ 0 ≤ σ 324 3 ∧ σ 324 3 ≤ 20) ∧ K (some (.int (((fJa (σ 324)) + (fRA (σ 324) a.toNatClampNeg b.toNatClampNeg)) + 1000))) σ) ∧ (¬ w = 2 → K (some (.int (-1))) σ)))))))) ∧ ((bI (isP (σ 324) a b)) = 0 → K (some (.int (-1))) σ))) : gE 243 0 [some (.ref 323), some (.int a), some (.int b), some (.int w)] [] σ K :=
  gw_run (cy := 243) (cuts := []) (inl := []) (pf := gpec) gpec_ok 400 (by decide) h
theorem s243 {σ : gS} {K : gK} {a b w : Int32} (hc : RS σ) (hK : K (some (.int (aIs (σ 324) a b w))) σ) : gE 243 0 [some (.ref 323), some (.int a), some (.int b), some (.int w)] [] σ K := by
  obtain ⟨⟨h3, h9⟩, hu⟩ := hc
  unfold aIs at hK
  refine w243 ⟨fun h => ?_, fun h => ?_⟩
  · have h := dnn h
    have hp := isP_of h3 h
    rw [if_pos h] at hK
    refine ⟨by decide, fun h2 => ⟨⟨hp, hp.1, h3⟩, ?_⟩, fun h2 => ⟨fun h4 => ⟨⟨hp, hp.2, h3⟩, ?_⟩, fun h4 => ⟨fun h5 => ⟨h3, ⟨hp, h3⟩, ?_⟩, fun h5 => ?_⟩⟩⟩
    · rw [if_pos h2] at hK; exact hK
    · rw [if_neg h2, if_pos h4] at hK; exact hK
    · rw [if_neg h2, if_neg h4, if_pos h5] at hK
      have e : fJa (σ 324) + fRA (σ 324) a.toNatClampNeg b.toNatClampNeg = fJa (rsw (σ 324) a.toNatClampNeg b.toNatClampNeg) := by
        unfold fRA
        grind
      rw [e]; exact hK
    · rw [if_neg h2, if_neg h4, if_neg h5] at hK; exact hK
  · rw [if_neg (bI_0.mp h)] at hK; exact hK
noncomputable def f243 : gD := fun Lv σ => match Lv with
  | [some (.ref q0), some (.int a), some (.int b), some (.int w)] => cond (Nat.beq q0 323) (some (some (RS σ), some (.int (aIs (σ 324) a b w)), σ)) none
  | _ => none
theorem ok243 : gFok 243 f243 := by
  intro Lv σ q h hc K hK
  unfold f243 at h
  split at h
  · rename_i q0 a b w
    obtain ⟨hb, h⟩ := c_no h
    have hb0 := hb
    have e0 := b_eq hb0
    subst e0
    cases h
    exact s243 (hc _ rfl) hK
  · cases h
set_option maxRecDepth 20000 in
theorem w139 {σ : gS} {K : gK} {x : Int32} (h : (((bI ((0 : Int32) ≤ x ∧ x ≤ (σ 6 4))) = 0 → K (some (.int (-1))) σ) ∧ (¬ (bI ((0 : Int32) ≤ x ∧ x ≤ (σ 6 4))) = 0 → (0 ≤ σ 6 7 ∧ σ 6 7 ≤ 20 ∧ bT (cR σ 6)) ∧ K (some (.int (fBar (cR σ 6) x))) σ))) : gE 139 0 [some (.ref 0), some (.int x)] [] σ K :=
  gw_run (cy := 139) (cuts := []) (inl := []) (pf := gpec) gpec_ok 400 (by decide) h
theorem s139 {σ : gS} {K : gK} {x : Int32} (hc : SC σ) (hK : K (some (.int (aIf (cR σ 6) x))) σ) : gE 139 0 [some (.ref 0), some (.int x)] [] σ K := by
  obtain ⟨hT, hP, hL, h0⟩ := hc
  have h7 : 0 ≤ σ 6 7 ∧ σ 6 7 ≤ 20 := SC_7 ⟨hT, hP, hL, h0⟩
  unfold aIf at hK
  rw [cR_0] at hK
  refine w139 ⟨fun h => ?_, fun h => ⟨⟨h7.1, h7.2, hT.2.1⟩, ?_⟩⟩
  · rw [if_neg (bI_0.mp h)] at hK; exact hK
  · rw [if_pos (dnn h)] at hK; exact hK
noncomputable def f139 : gD := fun Lv σ => match Lv with
  | [some (.ref q0), some (.int x)] => cond (Nat.beq q0 0) (some (some (SC σ), some (.int (aIf (cR σ 6) x)), σ)) none
  | _ => none
theorem ok139 : gFok 139 f139 := by
  intro Lv σ q h hc K hK
  unfold f139 at h
  split at h
  · rename_i q0 x
    obtain ⟨hb, h⟩ := c_no h
    have hb0 := hb
    have e0 := b_eq hb0
    subst e0
    cases h
    exact s139 (hc _ rfl) hK
  · cases h
set_option maxRecDepth 20000 in
theorem w249 {σ : gS} {K : gK} {x : Int32} (h : (0 ≤ (0 : Int32) ∧ (0 : Int32) < 330) ∧ (((bI ((0 : Int32) ≤ x ∧ x ≤ (σ 324 0))) = 0 → K (some (.int (-1))) σ) ∧ (¬ (bI ((0 : Int32) ≤ x ∧ x ≤ (σ 324 0))) = 0 → (0 ≤ σ 324 3 ∧ σ 324 3 ≤ 20) ∧ K (some (.int (fBar (σ 324) x))) σ))) : gE 249 0 [some (.ref 323), some (.int x)] [] σ K :=
  gw_run (cy := 249) (cuts := []) (inl := []) (pf := gpec) gpec_ok 400 (by decide) h
theorem s249 {σ : gS} {K : gK} {x : Int32} (hc : RS σ) (hK : K (some (.int (aIf (σ 324) x))) σ) : gE 249 0 [some (.ref 323), some (.int x)] [] σ K := by
  obtain ⟨⟨h3, h9⟩, hu⟩ := hc
  unfold aIf at hK
  refine w249 ⟨by decide, fun h => ?_, fun h => ⟨h3, ?_⟩⟩
  · rw [if_neg (bI_0.mp h)] at hK; exact hK
  · rw [if_pos (dnn h)] at hK; exact hK
noncomputable def f249 : gD := fun Lv σ => match Lv with
  | [some (.ref q0), some (.int x)] => cond (Nat.beq q0 323) (some (some (RS σ), some (.int (aIf (σ 324) x)), σ)) none
  | _ => none
theorem ok249 : gFok 249 f249 := by
  intro Lv σ q h hc K hK
  unfold f249 at h
  split at h
  · rename_i q0 x
    obtain ⟨hb, h⟩ := c_no h
    have hb0 := hb
    have e0 := b_eq hb0
    subst e0
    cases h
    exact s249 (hc _ rfl) hK
  · cases h
set_option maxRecDepth 20000 in
theorem w134 {σ : gS} {K : gK} {a b : Int32} (h : ((¬ (bI (isP (cR σ 6) a b)) = 0 → gE 134 13 [some (.ref 0), some (.int a), some (.int b), some (.int 0)] [] σ K) ∧ ((bI (isP (cR σ 6) a b)) = 0 → K (some (.int (-1))) σ))) : gE 134 0 [some (.ref 0), some (.int a), some (.int b), none] [] σ K :=
  gw_run (cy := 134) (cuts := [13]) (inl := []) (pf := gpec) gpec_ok 400 (by decide) h
set_option maxRecDepth 20000 in
theorem c134_13 {σ : gS} {K : gK} {l1 l2 l3 : Int32} (h : ((9 < l3 → K (some (.int (-2))) σ) ∧ (¬ 9 < l3 → (isN σ 6 l1 ∧ isN σ 6 l2 ∧ TC σ 6) ∧ ((¬ (fWhy (cR σ 6) l1.toNatClampNeg l2.toNatClampNeg l3) = 0 → gE 134 13 [some (.ref 0), some (.int l1), some (.int l2), some (.int (l3 + 1))] [] σ K) ∧ ((fWhy (cR σ 6) l1.toNatClampNeg l2.toNatClampNeg l3) = 0 → K (some (.int l3)) σ))))) : gE 134 13 [some (.ref 0), some (.int l1), some (.int l2), some (.int l3)] [] σ K :=
  gw_run (cy := 134) (cuts := [13]) (inl := []) (pf := gpec) gpec_ok 400 (by decide) h
theorem s134 {σ : gS} {K : gK} {a b : Int32} (hc : SC σ) (hK : K (some (.int (aLe (cR σ 6) a b))) σ) : gE 134 0 [some (.ref 0), some (.int a), some (.int b), none] [] σ K := by
  obtain ⟨hT, hP, hL, h0⟩ := hc
  have h7 : 0 ≤ σ 6 7 ∧ σ 6 7 ≤ 20 := SC_7 ⟨hT, hP, hL, h0⟩
  unfold aLe at hK
  refine w134 ⟨fun h => ?_, fun h => ?_⟩
  · have hp := dnn h
    rw [if_pos hp] at hK
    have key : ∀ d s, s + d = 10 → K (some (.int (lea (cR σ 6) a.toNatClampNeg b.toNatClampNeg d s))) σ → gE 134 13 [some (.ref 0), some (.int a), some (.int b), some (.int (iN s))] [] σ K := by
      intro d
      induction d with
      | zero =>
        intro s hs hK
        have : s = 10 := by omega
        subst this
        exact c134_13 ⟨fun _ => hK, fun z => absurd (by decide) z⟩
      | succ d ih =>
        intro s hs hK
        unfold lea at hK
        refine c134_13 ⟨fun z => absurd ((iN_lt (k := 9) (by decide) (by omega)).mp z) (by omega), fun _ => ⟨⟨isN_of hT.1 hp.1.1, isN_of hT.1 hp.1.2, hT⟩, fun z => ?_, fun z => ?_⟩⟩
        · rw [if_neg z] at hK
          rw [iN_one]
          exact ih (s + 1) (by omega) hK
        · rw [if_pos z] at hK
          exact hK
    exact key 10 0 rfl hK
  · rw [if_neg (bI_0.mp h)] at hK; exact hK
noncomputable def f134 : gD := fun Lv σ => match Lv with
  | [some (.ref q0), some (.int a), some (.int b), none] => cond (Nat.beq q0 0) (some (some (SC σ), some (.int (aLe (cR σ 6) a b)), σ)) none
  | _ => none
theorem ok134 : gFok 134 f134 := by
  intro Lv σ q h hc K hK
  unfold f134 at h
  split at h
  · rename_i q0 a b
    obtain ⟨hb, h⟩ := c_no h
    have hb0 := hb
    have e0 := b_eq hb0
    subst e0
    cases h
    exact s134 (hc _ rfl) hK
  · cases h
set_option maxRecDepth 20000 in
theorem w244 {σ : gS} {K : gK} {a b : Int32} (h : ((¬ (bI (isP (σ 324) a b)) = 0 → gE 244 13 [some (.ref 323), some (.int a), some (.int b), some (.int 0)] [] σ K) ∧ ((bI (isP (σ 324) a b)) = 0 → K (some (.int (-1))) σ))) : gE 244 0 [some (.ref 323), some (.int a), some (.int b), none] [] σ K :=
  gw_run (cy := 244) (cuts := [13]) (inl := []) (pf := gpec) gpec_ok 400 (by decide) h
set_option maxRecDepth 20000 in
theorem c244_13 {σ : gS} {K : gK} {l1 l2 l3 : Int32} (h : ((9 < l3 → K (some (.int (-2))) σ) ∧ (¬ 9 < l3 → (((0 ≤ l1 ∧ l1 < 20) ∧ (0 ≤ l2 ∧ l2 < 20)) ∧ 0 ≤ σ 324 3 ∧ σ 324 3 ≤ 20) ∧ ((¬ (fWhy (σ 324) l1.toNatClampNeg l2.toNatClampNeg l3) = 0 → gE 244 13 [some (.ref 323), some (.int l1), some (.int l2), some (.int (l3 + 1))] [] σ K) ∧ ((fWhy (σ 324) l1.toNatClampNeg l2.toNatClampNeg l3) = 0 → K (some (.int l3)) σ))))) : gE 244 13 [some (.ref 323), some (.int l1), some (.int l2), some (.int l3)] [] σ K :=
  gw_run (cy := 244) (cuts := [13]) (inl := []) (pf := gpec) gpec_ok 400 (by decide) h
theorem s244 {σ : gS} {K : gK} {a b : Int32} (hc : RS σ) (hK : K (some (.int (aLe (σ 324) a b))) σ) : gE 244 0 [some (.ref 323), some (.int a), some (.int b), none] [] σ K := by
  obtain ⟨⟨h3, h9⟩, hu⟩ := hc
  unfold aLe at hK
  refine w244 ⟨fun h => ?_, fun h => ?_⟩
  · have hp := dnn h
    rw [if_pos hp] at hK
    have key : ∀ d s, s + d = 10 → K (some (.int (lea (σ 324) a.toNatClampNeg b.toNatClampNeg d s))) σ → gE 244 13 [some (.ref 323), some (.int a), some (.int b), some (.int (iN s))] [] σ K := by
      intro d
      induction d with
      | zero =>
        intro s hs hK
        have : s = 10 := by omega
        subst this
        exact c244_13 ⟨fun _ => hK, fun z => absurd (by decide) z⟩
      | succ d ih =>
        intro s hs hK
        unfold lea at hK
        refine c244_13 ⟨fun z => absurd ((iN_lt (k := 9) (by decide) (by omega)).mp z) (by omega), fun _ => ⟨⟨isP_of h3 hp, h3⟩, fun z => ?_, fun z => ?_⟩⟩
        · rw [if_neg z] at hK
          rw [iN_one]
          exact ih (s + 1) (by omega) hK
        · rw [if_pos z] at hK
          exact hK
    exact key 10 0 rfl hK
  · rw [if_neg (bI_0.mp h)] at hK; exact hK
noncomputable def f244 : gD := fun Lv σ => match Lv with
  | [some (.ref q0), some (.int a), some (.int b), none] => cond (Nat.beq q0 323) (some (some (RS σ), some (.int (aLe (σ 324) a b)), σ)) none
  | _ => none
theorem ok244 : gFok 244 f244 := by
  intro Lv σ q h hc K hK
  unfold f244 at h
  split at h
  · rename_i q0 a b
    obtain ⟨hb, h⟩ := c_no h
    have hb0 := hb
    have e0 := b_eq hb0
    subst e0
    cases h
    exact s244 (hc _ rfl) hK
  · cases h
noncomputable def aSt (R : gW) (w : Int32) : Int32 := if 0 ≤ w ∧ w ≤ 2 then (if w = 0 then iN (fSt 99 R).1 else if w = 1 then fJa (fSt 99 R).2 + 10000 else fGr (fSt 99 R).2) else -1
noncomputable def cSx (σ : gS) (w : Int32) : Int32 := if 0 ≤ w ∧ w ≤ 2 then (if w = 0 then iN (cSt 99 (cCo σ 32 6)).1 else if w = 1 then fJa (cR (cSt 99 (cCo σ 32 6)).2 32) + 10000 else fGr (cR (cSt 99 (cCo σ 32 6)).2 32)) else -1
theorem clX_x : ∃ f : gS → Int32 → gS, ∀ σ w, f σ w = if 0 ≤ w ∧ w ≤ 2 then (cSt 99 (cCo σ 32 6)).2 else σ := ⟨fun σ w => if 0 ≤ w ∧ w ≤ 2 then (cSt 99 (cCo σ 32 6)).2 else σ, fun _ _ => rfl⟩
noncomputable def clX : gS → Int32 → gS := Classical.choose clX_x
theorem clX_e : ∀ σ w, clX σ w = if 0 ≤ w ∧ w ≤ 2 then (cSt 99 (cCo σ 32 6)).2 else σ := Classical.choose_spec clX_x
theorem hSx_x : ∃ f : gS → Int32 → gS, ∀ σ w, f σ w = if 0 ≤ w ∧ w ≤ 2 then grow σ 326 (fSt 99 (σ 324)).2 else σ := ⟨fun σ w => if 0 ≤ w ∧ w ≤ 2 then grow σ 326 (fSt 99 (σ 324)).2 else σ, fun _ _ => rfl⟩
noncomputable def hSx : gS → Int32 → gS := Classical.choose hSx_x
theorem hSx_e : ∀ σ w, hSx σ w = if 0 ≤ w ∧ w ≤ 2 then grow σ 326 (fSt 99 (σ 324)).2 else σ := Classical.choose_spec hSx_x
set_option maxRecDepth 20000 in
theorem w138 {σ : gS} {K : gK} {w : Int32} (h : ((¬ (bI ((0 : Int32) ≤ w ∧ w ≤ (2 : Int32))) = 0 → ((0 ≤ σ 6 7 ∧ σ 6 7 ≤ 20) ∧ TC (cCo σ 32 6) 32) ∧ ((w = 0 → K (some (.int (iN (cSt 99 (cCo σ 32 6)).1))) ((cSt 99 (cCo σ 32 6)).2)) ∧ (¬ w = 0 → ((w = 1 → (TC ((cSt 99 (cCo σ 32 6)).2) 32) ∧ K (some (.int ((fJa (cR ((cSt 99 (cCo σ 32 6)).2) 32)) + 10000))) ((cSt 99 (cCo σ 32 6)).2)) ∧ (¬ w = 1 → (TC ((cSt 99 (cCo σ 32 6)).2) 32) ∧ K (some (.int (fGr (cR ((cSt 99 (cCo σ 32 6)).2) 32)))) ((cSt 99 (cCo σ 32 6)).2)))))) ∧ ((bI ((0 : Int32) ≤ w ∧ w ≤ (2 : Int32))) = 0 → K (some (.int (-1))) σ))) : gE 138 0 [some (.ref 0), some (.int w), none] [] σ K :=
  gw_run (cy := 138) (cuts := []) (inl := []) (pf := gpec) gpec_ok 400 (by decide) h
theorem s138 {σ : gS} {K : gK} {w : Int32} (hc : SC σ ∧ TC (cCo σ 32 6) 32) (hK : K (some (.int (cSx σ w))) (clX σ w)) : gE 138 0 [some (.ref 0), some (.int w), none] [] σ K := by
  obtain ⟨hc, ht⟩ := hc
  obtain ⟨hT, hP, hL, h0⟩ := hc
  have h7 : 0 ≤ σ 6 7 ∧ σ 6 7 ≤ 20 := SC_7 ⟨hT, hP, hL, h0⟩
  obtain ⟨t1, l1, f1⟩ := cSt_tc (d := 99) ht
  rw [clX_e] at hK
  unfold cSx at hK
  refine w138 ⟨fun h => ⟨⟨h7, ht⟩, fun h2 => ?_, fun h2 => ⟨fun h3 => ⟨t1, ?_⟩, fun h3 => ⟨t1, ?_⟩⟩⟩, fun h => ?_⟩
  · rw [if_pos (dnn h), if_pos (dnn h), if_pos h2] at hK; exact hK
  · rw [if_pos (dnn h), if_pos (dnn h), if_neg h2, if_pos h3] at hK; exact hK
  · rw [if_pos (dnn h), if_pos (dnn h), if_neg h2, if_neg h3] at hK; exact hK
  · rw [if_neg (bI_0.mp h), if_neg (bI_0.mp h)] at hK; exact hK
noncomputable def f138 : gD := fun Lv σ => match Lv with
  | [some (.ref q0), some (.int w), none] => cond (Nat.beq q0 0) (some (some (SC σ ∧ TC (cCo σ 32 6) 32), some (.int (cSx σ w)), clX σ w)) none
  | _ => none
theorem ok138 : gFok 138 f138 := by
  intro Lv σ q h hc K hK
  unfold f138 at h
  split at h
  · rename_i q0 w
    obtain ⟨hb, h⟩ := c_no h
    have hb0 := hb
    have e0 := b_eq hb0
    subst e0
    cases h
    exact s138 (hc _ rfl) hK
  · cases h
set_option maxRecDepth 20000 in
theorem w248 {σ : gS} {K : gK} {w : Int32} (h : ((¬ (bI ((0 : Int32) ≤ w ∧ w ≤ (2 : Int32))) = 0 → (RZ σ) ∧ (0 ≤ (grow σ 326 (σ 324)) 326 3 ∧ (grow σ 326 (σ 324)) 326 3 ≤ 20) ∧ ((¬ w = 0 → ((¬ w = 1 → (0 ≤ (grow (grow σ 326 (σ 324)) 326 (fSt 99 ((grow σ 326 (σ 324)) 326)).2) 326 3 ∧ (grow (grow σ 326 (σ 324)) 326 (fSt 99 ((grow σ 326 (σ 324)) 326)).2) 326 3 ≤ 20) ∧ K (some (.int (fGr ((grow (grow σ 326 (σ 324)) 326 (fSt 99 ((grow σ 326 (σ 324)) 326)).2) 326)))) (grow (grow σ 326 (σ 324)) 326 (fSt 99 ((grow σ 326 (σ 324)) 326)).2)) ∧ (w = 1 → (0 ≤ (grow (grow σ 326 (σ 324)) 326 (fSt 99 ((grow σ 326 (σ 324)) 326)).2) 326 3 ∧ (grow (grow σ 326 (σ 324)) 326 (fSt 99 ((grow σ 326 (σ 324)) 326)).2) 326 3 ≤ 20) ∧ K (some (.int ((fJa ((grow (grow σ 326 (σ 324)) 326 (fSt 99 ((grow σ 326 (σ 324)) 326)).2) 326)) + 10000))) (grow (grow σ 326 (σ 324)) 326 (fSt 99 ((grow σ 326 (σ 324)) 326)).2)))) ∧ (w = 0 → K (some (.int (iN (fSt 99 ((grow σ 326 (σ 324)) 326)).1))) (grow (grow σ 326 (σ 324)) 326 (fSt 99 ((grow σ 326 (σ 324)) 326)).2)))) ∧ ((bI ((0 : Int32) ≤ w ∧ w ≤ (2 : Int32))) = 0 → K (some (.int (-1))) σ))) : gE 248 0 [some (.ref 323), some (.int w), none] [] σ K :=
  gw_run (cy := 248) (cuts := []) (inl := []) (pf := gpec) gpec_ok 400 (by decide) h
theorem s248 {σ : gS} {K : gK} {w : Int32} (hc : RS σ ∧ RZ σ) (hK : K (some (.int (aSt (σ 324) w))) (hSx σ w)) : gE 248 0 [some (.ref 323), some (.int w), none] [] σ K := by
  obtain ⟨hc, hz⟩ := hc
  obtain ⟨⟨h3, h9⟩, hu⟩ := hc
  rw [hSx_e] at hK
  unfold aSt at hK
  have s3 : 0 ≤ (fSt 99 (σ 324)).2 3 ∧ (fSt 99 (σ 324)).2 3 ≤ 20 := by rw [fSt_3]; exact h3
  refine w248 ?_
  simp only [grow_at, grow_grow]
  refine ⟨fun h => ⟨hz, h3, fun h2 => ⟨fun h4 => ⟨s3, ?_⟩, fun h4 => ⟨s3, ?_⟩⟩, fun h2 => ?_⟩, fun h => ?_⟩
  · rw [if_pos (dnn h), if_pos (dnn h), if_neg h2, if_neg h4] at hK; exact hK
  · rw [if_pos (dnn h), if_pos (dnn h), if_neg h2, if_pos h4] at hK; exact hK
  · rw [if_pos (dnn h), if_pos (dnn h), if_pos h2] at hK; exact hK
  · rw [if_neg (bI_0.mp h), if_neg (bI_0.mp h)] at hK; exact hK
noncomputable def f248 : gD := fun Lv σ => match Lv with
  | [some (.ref q0), some (.int w), none] => cond (Nat.beq q0 323) (some (some (RS σ ∧ RZ σ), some (.int (aSt (σ 324) w)), hSx σ w)) none
  | _ => none
theorem ok248 : gFok 248 f248 := by
  intro Lv σ q h hc K hK
  unfold f248 at h
  split at h
  · rename_i q0 w
    obtain ⟨hb, h⟩ := c_no h
    have hb0 := hb
    have e0 := b_eq hb0
    subst e0
    cases h
    exact s248 (hc _ rfl) hK
  · cases h
noncomputable def gped_l : List (Nat × gD) := (126, f126) :: (231, f231) :: (130, f130) :: (240, f240) :: (131, f131) :: (241, f241) :: (132, f132) :: (242, f242) :: (133, f133) :: (243, f243) :: (139, f139) :: (249, f249) :: (134, f134) :: (244, f244) :: (138, f138) :: (248, f248) :: gpec_l
noncomputable def gped : gP := gpl0 gped_l
theorem gped_ok : gPok gped := gpl0_cons ok126 (gpl0_cons ok231 (gpl0_cons ok130 (gpl0_cons ok240 (gpl0_cons ok131 (gpl0_cons ok241 (gpl0_cons ok132 (gpl0_cons ok242 (gpl0_cons ok133 (gpl0_cons ok243 (gpl0_cons ok139 (gpl0_cons ok249 (gpl0_cons ok134 (gpl0_cons ok244 (gpl0_cons ok138 (gpl0_cons ok248 (gpec_ok))))))))))))))))
end
section
-- text 103
/-! QUERIES: sums and counts over the travellers -/
noncomputable def fSw (R : gW) : Int32 := sm (fun t => fld R t 7) (nM R)
noncomputable def plP (R : gW) (t o : Nat) : Bool := decide (fJo R t < fJo R o ∨ (fJo R o = fJo R t ∧ o < t))
noncomputable def fPl (R : gW) (t : Nat) : Int32 := iN (cnt (plP R t) (nM R))
noncomputable def fRk (R : gW) (x : Int32) : Int32 := fnd (fun t => decide (fPl R t = x)) (nM R)
noncomputable def fAc (R : gW) (b : Int32) : Int32 := iN (cnt (fun t => decide (fld R t 0 / 8 = b)) (nM R))
noncomputable def fAg (R : gW) (b : Int32) : Int32 := iN (cnt (fun t => decide (fld R t 0 / 8 = b ∧ fJo R t < 0)) (nM R))
noncomputable def fAj (R : gW) (b : Int32) : Int32 := sm (fun t => if fld R t 0 / 8 = b then fJo R t else 0) (nM R)
noncomputable def fMF (R : gW) (f : Int32) : Int32 := iN (cnt (fun t => decide (fld R t 2 = f)) (nM R))
noncomputable def fJF (R : gW) (f : Int32) : Int32 := sm (fun t => if fld R t 2 = f then fJo R t else 0) (nM R)
theorem plP_t {R : gW} {t o : Nat} (h : fJo R t < fJo R o) : plP R t o = true := decide_eq_true (Or.inl h)
theorem plP_t2 {R : gW} {t o : Nat} (h : fJo R o = fJo R t) (h2 : o < t) : plP R t o = true := decide_eq_true (Or.inr ⟨h, h2⟩)
theorem plP_f {R : gW} {t o : Nat} (h : ¬ fJo R t < fJo R o) (h2 : ¬ (fJo R o = fJo R t ∧ o < t)) : ¬ plP R t o = true := fun z => (of_decide_eq_true z).elim h h2
theorem sm_z {g : Nat → Int32} {k : Nat} (h : g k = 0) : sm g (k + 1) = sm g k := by
  show sm g k + g k = sm g k
  rw [h]
  grind
set_option maxRecDepth 20000 in
theorem w82 {σ : gS} {K : gK} (h : gE 82 4 [some (.ref 6), some (.int 0), some (.int 0)] [] σ K) : gE 82 0 [some (.ref 6), none, none] [] σ K :=
  gw_run (cy := 82) (cuts := [4]) (inl := []) (pf := gped) gped_ok 400 (by decide) h
set_option maxRecDepth 20000 in
theorem c82_4 {σ : gS} {K : gK} {l1 l2 : Int32} (h : ((¬ l2 < (σ 6 7) → K (some (.int l1)) σ) ∧ (l2 < (σ 6 7) → (0 ≤ l2 ∧ l2 < 20) ∧ gTv (6 + 2 + l2.toNatClampNeg) ∧ gE 82 4 [some (.ref 6), some (.int (l1 + (σ (6 + 2 + l2.toNatClampNeg) 8))), some (.int (l2 + 1))] [] σ K))) : gE 82 4 [some (.ref 6), some (.int l1), some (.int l2)] [] σ K :=
  gw_run (cy := 82) (cuts := [4]) (inl := []) (pf := gped) gped_ok 400 (by decide) h
theorem s82 {σ : gS} {K : gK} (hc : SC σ) (hK : K (some (.int (fSw (cR σ 6)))) σ) : gE 82 0 [some (.ref 6), none, none] [] σ K := by
  obtain ⟨hT, hP, hL, h0⟩ := hc
  have h7 : 0 ≤ σ 6 7 ∧ σ 6 7 ≤ 20 := SC_7 ⟨hT, hP, hL, h0⟩
  have hc3 := hT.1
  refine w82 ?_
  refine g_forI (nM (cR σ 6)) (fun k => [some (.ref 6), some (.int (sm (fun t => fld (cR σ 6) t 7) k)), some (.int (iN k))]) (fun _ => σ) (fun _ => True) (fun _ => ?_) (fun k hk _ ih => ?_) 0 (Nat.zero_le _) trivial
  · have hn := (nM_of hc3).2
    refine c82_4 ⟨fun _ => hK, fun h => ?_⟩
    rw [← cR_3 σ 6, nM_lt hc3 (by omega)] at h; omega
  · have hn := (nM_of hc3).2
    have hk20 : k < 20 := by omega
    have ek : (iN k).toNatClampNeg = k := iN_nat (by omega)
    have ih := ih trivial
    refine c82_4 ⟨fun h => ?_, fun h => ⟨b20 hk20, by rw [ek]; exact tv_6 k hk20, ?_⟩⟩
    · rw [← cR_3 σ 6, nM_lt hc3 (by omega)] at h; omega
    · rw [ek, ← cR_f (σ := σ) (p := 6) (t := k) (f := 7) hk20 (by decide), iN_one]
      exact ih
noncomputable def f82 : gD := fun Lv σ => match Lv with
  | [some (.ref q0), none, none] => cond (Nat.beq q0 6) (some (some (SC σ), some (.int (fSw (cR σ 6))), σ)) none
  | _ => none
theorem ok82 : gFok 82 f82 := by
  intro Lv σ q h hc K hK
  unfold f82 at h
  split at h
  · rename_i q0
    obtain ⟨hb, h⟩ := c_no h
    have hb0 := hb
    have e0 := b_eq hb0
    subst e0
    cases h
    exact s82 (hc _ rfl) hK
  · cases h
set_option maxRecDepth 20000 in
theorem w224 {σ : gS} {K : gK} (h : gE 224 4 [some (.ref 323), some (.int 0), some (.int 0)] [] σ K) : gE 224 0 [some (.ref 323), none, none] [] σ K :=
  gw_run (cy := 224) (cuts := [4]) (inl := []) (pf := gped) gped_ok 400 (by decide) h
set_option maxRecDepth 20000 in
theorem c224_4 {σ : gS} {K : gK} {l1 l2 : Int32} (h : (0 ≤ (3 : Int32) ∧ (3 : Int32) < 330) ∧ ((¬ l2 < (σ 324 3) → K (some (.int l1)) σ) ∧ (l2 < (σ 324 3) → (0 ≤ (9 + 10 * l2 + (7 : Int32)) ∧ (9 + 10 * l2 + (7 : Int32)) < 330) ∧ gE 224 4 [some (.ref 323), some (.int (l1 + (σ 324 (9 + 10 * l2 + (7 : Int32)).toNatClampNeg))), some (.int (l2 + 1))] [] σ K))) : gE 224 4 [some (.ref 323), some (.int l1), some (.int l2)] [] σ K :=
  gw_run (cy := 224) (cuts := [4]) (inl := []) (pf := gped) gped_ok 400 (by decide) h
theorem s224 {σ : gS} {K : gK} (hc : RS σ) (hK : K (some (.int (fSw (σ 324)))) σ) : gE 224 0 [some (.ref 323), none, none] [] σ K := by
  obtain ⟨⟨h3, h9⟩, hu⟩ := hc
  have hc3 := h3
  refine w224 ?_
  refine g_forI (nM (σ 324)) (fun k => [some (.ref 323), some (.int (sm (fun t => fld (σ 324) t 7) k)), some (.int (iN k))]) (fun _ => σ) (fun _ => True) (fun _ => ?_) (fun k hk _ ih => ?_) 0 (Nat.zero_le _) trivial
  · have hn := (nM_of hc3).2
    refine c224_4 ⟨by decide, fun _ => hK, fun h => ?_⟩
    rw [nM_lt hc3 (by omega)] at h; omega
  · have hn := (nM_of hc3).2
    have hk20 : k < 20 := by omega
    have ek : (iN k).toNatClampNeg = k := iN_nat (by omega)
    have ih := ih trivial
    refine c224_4 ⟨by decide, fun h => ?_, fun h => ⟨ixb7 hk20, ?_⟩⟩
    · rw [nM_lt hc3 (by omega)] at h; omega
    · rw [ix7 hk20, iN_one]
      exact ih
noncomputable def f224 : gD := fun Lv σ => match Lv with
  | [some (.ref q0), none, none] => cond (Nat.beq q0 323) (some (some (RS σ), some (.int (fSw (σ 324))), σ)) none
  | _ => none
theorem ok224 : gFok 224 f224 := by
  intro Lv σ q h hc K hK
  unfold f224 at h
  split at h
  · rename_i q0
    obtain ⟨hb, h⟩ := c_no h
    have hb0 := hb
    have e0 := b_eq hb0
    subst e0
    cases h
    exact s224 (hc _ rfl) hK
  · cases h
set_option maxRecDepth 20000 in
theorem w71 {σ : gS} {K : gK} {t : Int32} (h : (((0 ≤ t ∧ t < 20) ∧ t.toNatClampNeg < nM (cR σ 6)) ∧ TC σ 6) ∧ gE 71 11 [some (.ref 6), some (.int t), some (.int (fJo (cR σ 6) t.toNatClampNeg)), some (.int 0), some (.int 0), none] [] σ K) : gE 71 0 [some (.ref 6), some (.int t), none, none, none, none] [] σ K :=
  gw_run (cy := 71) (cuts := [11]) (inl := []) (pf := gped) gped_ok 400 (by decide) h
set_option maxRecDepth 20000 in
theorem c71_11 {σ : gS} {K : gK} {l1 l2 l3 l4 : Int32} {l5 : Option Value} (h : ((¬ l4 < (σ 6 7) → K (some (.int l3)) σ) ∧ (l4 < (σ 6 7) → (((0 ≤ l4 ∧ l4 < 20) ∧ l4.toNatClampNeg < nM (cR σ 6)) ∧ TC σ 6) ∧ ((l2 < (fJo (cR σ 6) l4.toNatClampNeg) → gE 71 11 [some (.ref 6), some (.int l1), some (.int l2), some (.int (l3 + 1)), some (.int (l4 + 1)), some (.int (fJo (cR σ 6) l4.toNatClampNeg))] [] σ K) ∧ (¬ l2 < (fJo (cR σ 6) l4.toNatClampNeg) → ((¬ (fJo (cR σ 6) l4.toNatClampNeg) = l2 → gE 71 11 [some (.ref 6), some (.int l1), some (.int l2), some (.int l3), some (.int (l4 + 1)), some (.int (fJo (cR σ 6) l4.toNatClampNeg))] [] σ K) ∧ ((fJo (cR σ 6) l4.toNatClampNeg) = l2 → ((¬ l4 < l1 → gE 71 11 [some (.ref 6), some (.int l1), some (.int l2), some (.int l3), some (.int (l4 + 1)), some (.int (fJo (cR σ 6) l4.toNatClampNeg))] [] σ K) ∧ (l4 < l1 → gE 71 11 [some (.ref 6), some (.int l1), some (.int l2), some (.int (l3 + 1)), some (.int (l4 + 1)), some (.int (fJo (cR σ 6) l4.toNatClampNeg))] [] σ K))))))))) : gE 71 11 [some (.ref 6), some (.int l1), some (.int l2), some (.int l3), some (.int l4), l5] [] σ K :=
  gw_run (cy := 71) (cuts := [11]) (inl := []) (pf := gped) gped_ok 400 (by decide) h
theorem s71 {σ : gS} {K : gK} {t : Int32} (hc : SC σ ∧ isN σ 6 t) (hK : K (some (.int (fPl (cR σ 6) t.toNatClampNeg))) σ) : gE 71 0 [some (.ref 6), some (.int t), none, none, none, none] [] σ K := by
  obtain ⟨hc, ht⟩ := hc
  obtain ⟨hT, hP, hL, h0⟩ := hc
  have h7 : 0 ≤ σ 6 7 ∧ σ 6 7 ≤ 20 := SC_7 ⟨hT, hP, hL, h0⟩
  have hc3 := hT.1
  obtain ⟨et, lt⟩ := t20 ht.1
  have ht2 := ht.2
  have ht1 := ht.1
  obtain ⟨m, hm⟩ : ∃ m, t.toNatClampNeg = m := ⟨_, rfl⟩
  rw [hm] at et lt hK ht2
  subst et
  have em : (iN m).toNatClampNeg = m := iN_nat (by omega)
  refine w71 ⟨⟨⟨ht1, by rw [em]; exact ht2⟩, hT⟩, ?_⟩
  rw [em]
  refine g_forJ (nM (cR σ 6)) (fun k u => [some (.ref 6), some (.int (iN m)), some (.int (fJo (cR σ 6) m)), some (.int (iN (cnt (plP (cR σ 6) m) k))), some (.int (iN k)), u]) (fun _ => σ) (fun _ => True) (fun _ u => ?_) (fun k hk _ ih u => ?_) 0 (Nat.zero_le _) trivial none
  · have hn := (nM_of hc3).2
    refine c71_11 ⟨fun _ => hK, fun h => ?_⟩
    rw [← cR_3 σ 6, nM_lt hc3 (by omega)] at h; omega
  · have hn := (nM_of hc3).2
    have hk20 : k < 20 := by omega
    have ek : (iN k).toNatClampNeg = k := iN_nat (by omega)
    have ih := ih trivial
    refine c71_11 ⟨fun h => ?_, fun h => ⟨⟨⟨b20 hk20, by rw [ek]; exact hk⟩, hT⟩, ?_⟩⟩
    · rw [← cR_3 σ 6, nM_lt hc3 (by omega)] at h; omega
    · rw [ek, iN_one, iN_one]
      refine ⟨fun q => ?_, fun q => ⟨fun q2 => ?_, fun q2 => ⟨fun q3 => ?_, fun q3 => ?_⟩⟩⟩
      · rw [cnt_t (plP_t q)] at ih
        exact ih _
      · rw [cnt_f (plP_f q (fun z => q2 z.1))] at ih
        exact ih _
      · rw [cnt_f (plP_f q (fun z => q3 ((iN_lt (by omega) (by omega)).mpr z.2)))] at ih
        exact ih _
      · rw [cnt_t (plP_t2 q2 ((iN_lt (by omega) (by omega)).mp q3))] at ih
        exact ih _
noncomputable def f71 : gD := fun Lv σ => match Lv with
  | [some (.ref q0), some (.int t), none, none, none, none] => cond (Nat.beq q0 6) (some (some (SC σ ∧ isN σ 6 t), some (.int (fPl (cR σ 6) t.toNatClampNeg)), σ)) none
  | _ => none
theorem ok71 : gFok 71 f71 := by
  intro Lv σ q h hc K hK
  unfold f71 at h
  split at h
  · rename_i q0 t
    obtain ⟨hb, h⟩ := c_no h
    have hb0 := hb
    have e0 := b_eq hb0
    subst e0
    cases h
    exact s71 (hc _ rfl) hK
  · cases h
set_option maxRecDepth 20000 in
theorem w228 {σ : gS} {K : gK} {t : Int32} (h : ((0 ≤ t ∧ t < 20) ∧ 0 ≤ σ 324 3 ∧ σ 324 3 ≤ 20) ∧ gE 228 14 [some (.ref 323), some (.int t), some (.int 0), some (.int (fJo (σ 324) t.toNatClampNeg)), some (.int 0), none] [] σ K) : gE 228 0 [some (.ref 323), some (.int t), none, none, none, none] [] σ K :=
  gw_run (cy := 228) (cuts := [14]) (inl := []) (pf := gped) gped_ok 400 (by decide) h
set_option maxRecDepth 20000 in
theorem c228_14 {σ : gS} {K : gK} {l1 l2 l3 l4 : Int32} {l5 : Option Value} (h : (0 ≤ (3 : Int32) ∧ (3 : Int32) < 330) ∧ ((¬ l4 < (σ 324 3) → K (some (.int l2)) σ) ∧ (l4 < (σ 324 3) → ((0 ≤ l4 ∧ l4 < 20) ∧ 0 ≤ σ 324 3 ∧ σ 324 3 ≤ 20) ∧ ((l3 < (fJo (σ 324) l4.toNatClampNeg) → gE 228 14 [some (.ref 323), some (.int l1), some (.int (l2 + 1)), some (.int l3), some (.int (l4 + 1)), some (.int (fJo (σ 324) l4.toNatClampNeg))] [] σ K) ∧ (¬ l3 < (fJo (σ 324) l4.toNatClampNeg) → ((¬ (fJo (σ 324) l4.toNatClampNeg) = l3 → gE 228 14 [some (.ref 323), some (.int l1), some (.int l2), some (.int l3), some (.int (l4 + 1)), some (.int (fJo (σ 324) l4.toNatClampNeg))] [] σ K) ∧ ((fJo (σ 324) l4.toNatClampNeg) = l3 → ((¬ l4 < l1 → gE 228 14 [some (.ref 323), some (.int l1), some (.int l2), some (.int l3), some (.int (l4 + 1)), some (.int (fJo (σ 324) l4.toNatClampNeg))] [] σ K) ∧ (l4 < l1 → gE 228 14 [some (.ref 323), some (.int l1), some (.int (l2 + 1)), some (.int l3), some (.int (l4 + 1)), some (.int (fJo (σ 324) l4.toNatClampNeg))] [] σ K))))))))) : gE 228 14 [some (.ref 323), some (.int l1), some (.int l2), some (.int l3), some (.int l4), l5] [] σ K :=
  gw_run (cy := 228) (cuts := [14]) (inl := []) (pf := gped) gped_ok 400 (by decide) h
theorem s228 {σ : gS} {K : gK} {t : Int32} (hc : RS σ ∧ (0 ≤ t ∧ t < 20)) (hK : K (some (.int (fPl (σ 324) t.toNatClampNeg))) σ) : gE 228 0 [some (.ref 323), some (.int t), none, none, none, none] [] σ K := by
  obtain ⟨hc, ht1⟩ := hc
  obtain ⟨⟨h3, h9⟩, hu⟩ := hc
  have hc3 := h3
  obtain ⟨et, lt⟩ := t20 ht1
  obtain ⟨m, hm⟩ : ∃ m, t.toNatClampNeg = m := ⟨_, rfl⟩
  rw [hm] at et lt hK
  subst et
  have em : (iN m).toNatClampNeg = m := iN_nat (by omega)
  refine w228 ⟨⟨ht1, h3⟩, ?_⟩
  rw [em]
  refine g_forJ (nM (σ 324)) (fun k u => [some (.ref 323), some (.int (iN m)), some (.int (iN (cnt (plP (σ 324) m) k))), some (.int (fJo (σ 324) m)), some (.int (iN k)), u]) (fun _ => σ) (fun _ => True) (fun _ u => ?_) (fun k hk _ ih u => ?_) 0 (Nat.zero_le _) trivial none
  · have hn := (nM_of hc3).2
    refine c228_14 ⟨by decide, fun _ => hK, fun h => ?_⟩
    rw [nM_lt hc3 (by omega)] at h; omega
  · have hn := (nM_of hc3).2
    have hk20 : k < 20 := by omega
    have ek : (iN k).toNatClampNeg = k := iN_nat (by omega)
    have ih := ih trivial
    refine c228_14 ⟨by decide, fun h => ?_, fun h => ⟨⟨b20 hk20, h3⟩, ?_⟩⟩
    · rw [nM_lt hc3 (by omega)] at h; omega
    · rw [ek, iN_one, iN_one]
      refine ⟨fun q => ?_, fun q => ⟨fun q2 => ?_, fun q2 => ⟨fun q3 => ?_, fun q3 => ?_⟩⟩⟩
      · rw [cnt_t (plP_t q)] at ih
        exact ih _
      · rw [cnt_f (plP_f q (fun z => q2 z.1))] at ih
        exact ih _
      · rw [cnt_f (plP_f q (fun z => q3 ((iN_lt (by omega) (by omega)).mpr z.2)))] at ih
        exact ih _
      · rw [cnt_t (plP_t2 q2 ((iN_lt (by omega) (by omega)).mp q3))] at ih
        exact ih _
noncomputable def f228 : gD := fun Lv σ => match Lv with
  | [some (.ref q0), some (.int t), none, none, none, none] => cond (Nat.beq q0 323) (some (some (RS σ ∧ (0 ≤ t ∧ t < 20)), some (.int (fPl (σ 324) t.toNatClampNeg)), σ)) none
  | _ => none
theorem ok228 : gFok 228 f228 := by
  intro Lv σ q h hc K hK
  unfold f228 at h
  split at h
  · rename_i q0 t
    obtain ⟨hb, h⟩ := c_no h
    have hb0 := hb
    have e0 := b_eq hb0
    subst e0
    cases h
    exact s228 (hc _ rfl) hK
  · cases h
set_option maxRecDepth 20000 in
theorem w73 {σ : gS} {K : gK} {t b : Int32} (h : (0 ≤ t ∧ t < 20) ∧ gTv (6 + 2 + t.toNatClampNeg) ∧ (8 : Int32) ≠ 0 ∧ ((¬ ((σ (6 + 2 + t.toNatClampNeg) 1) / 8) = b → ((0 : Int32) = 0 ∨ (0 : Int32) = 1) ∧ K (some (.int 0)) σ) ∧ (((σ (6 + 2 + t.toNatClampNeg) 1) / 8) = b → ((1 : Int32) = 0 ∨ (1 : Int32) = 1) ∧ K (some (.int 1)) σ))) : gE 73 0 [some (.ref 6), some (.int t), some (.int b)] [] σ K :=
  gw_run (cy := 73) (cuts := []) (inl := []) (pf := gped) gped_ok 400 (by decide) h
theorem s73 {σ : gS} {K : gK} {t b : Int32} (hc : 0 ≤ t ∧ t < 20) (hK : K (some (.int (bI (fld (cR σ 6) t.toNatClampNeg 0 / 8 = b)))) σ) : gE 73 0 [some (.ref 6), some (.int t), some (.int b)] [] σ K := by
  have lt := n20 hc
  rw [cR_f lt (by decide)] at hK
  refine w73 ⟨hc, tv_6 _ lt, by decide, fun h => ⟨Or.inl rfl, ?_⟩, fun h => ⟨Or.inr rfl, ?_⟩⟩
  · rw [bI_n h] at hK; exact hK
  · rw [bI_y h] at hK; exact hK
noncomputable def f73 : gD := fun Lv σ => match Lv with
  | [some (.ref q0), some (.int t), some (.int b)] => cond (Nat.beq q0 6) (some (some (0 ≤ t ∧ t < 20), some (.int (bI (fld (cR σ 6) t.toNatClampNeg 0 / 8 = b))), σ)) none
  | _ => none
theorem ok73 : gFok 73 f73 := by
  intro Lv σ q h hc K hK
  unfold f73 at h
  split at h
  · rename_i q0 t b
    obtain ⟨hb, h⟩ := c_no h
    have hb0 := hb
    have e0 := b_eq hb0
    subst e0
    cases h
    exact s73 (hc _ rfl) hK
  · cases h
set_option maxRecDepth 20000 in
theorem w232 {σ : gS} {K : gK} {t b : Int32} (h : (0 ≤ (9 + 10 * t + (0 : Int32)) ∧ (9 + 10 * t + (0 : Int32)) < 330) ∧ ((¬ ((σ 324 (9 + 10 * t + (0 : Int32)).toNatClampNeg) / 8) = b → ((0 : Int32) = 0 ∨ (0 : Int32) = 1) ∧ K (some (.int 0)) σ) ∧ (((σ 324 (9 + 10 * t + (0 : Int32)).toNatClampNeg) / 8) = b → ((1 : Int32) = 0 ∨ (1 : Int32) = 1) ∧ K (some (.int 1)) σ))) : gE 232 0 [some (.ref 323), some (.int t), some (.int b)] [] σ K :=
  gw_run (cy := 232) (cuts := []) (inl := []) (pf := gped) gped_ok 400 (by decide) h
theorem s232 {σ : gS} {K : gK} {t b : Int32} (hc : 0 ≤ t ∧ t < 20) (hK : K (some (.int (bI (fld (σ 324) t.toNatClampNeg 0 / 8 = b)))) σ) : gE 232 0 [some (.ref 323), some (.int t), some (.int b)] [] σ K := by
  obtain ⟨et, lt⟩ := t20 hc
  obtain ⟨m, hm⟩ : ∃ m, t.toNatClampNeg = m := ⟨_, rfl⟩
  rw [hm] at et lt hK
  subst et
  refine w232 ⟨ixb0 lt, ?_⟩
  rw [ix0 lt]
  refine ⟨fun h => ⟨Or.inl rfl, ?_⟩, fun h => ⟨Or.inr rfl, ?_⟩⟩
  · rw [bI_n (show ¬ fld (σ 324) m 0 / 8 = b from h)] at hK; exact hK
  · rw [bI_y (show fld (σ 324) m 0 / 8 = b from h)] at hK; exact hK
noncomputable def f232 : gD := fun Lv σ => match Lv with
  | [some (.ref q0), some (.int t), some (.int b)] => cond (Nat.beq q0 323) (some (some (0 ≤ t ∧ t < 20), some (.int (bI (fld (σ 324) t.toNatClampNeg 0 / 8 = b))), σ)) none
  | _ => none
theorem ok232 : gFok 232 f232 := by
  intro Lv σ q h hc K hK
  unfold f232 at h
  split at h
  · rename_i q0 t b
    obtain ⟨hb, h⟩ := c_no h
    have hb0 := hb
    have e0 := b_eq hb0
    subst e0
    cases h
    exact s232 (hc _ rfl) hK
  · cases h
noncomputable def gpee_l : List (Nat × gD) := (82, f82) :: (224, f224) :: (71, f71) :: (228, f228) :: (73, f73) :: (232, f232) :: gped_l
noncomputable def gpee : gP := gpl0 gpee_l
theorem gpee_ok : gPok gpee := gpl0_cons ok82 (gpl0_cons ok224 (gpl0_cons ok71 (gpl0_cons ok228 (gpl0_cons ok73 (gpl0_cons ok232 (gped_ok))))))
set_option maxRecDepth 20000 in
theorem w74 {σ : gS} {K : gK} {b : Int32} (h : gE 74 4 [some (.ref 6), some (.int b), some (.int 0), some (.int 0)] [] σ K) : gE 74 0 [some (.ref 6), some (.int b), none, none] [] σ K :=
  gw_run (cy := 74) (cuts := [4]) (inl := []) (pf := gpee) gpee_ok 400 (by decide) h
set_option maxRecDepth 20000 in
theorem c74_4 {σ : gS} {K : gK} {l1 l2 l3 : Int32} (h : ((¬ l3 < (σ 6 7) → K (some (.int l2)) σ) ∧ (l3 < (σ 6 7) → (0 ≤ l3 ∧ l3 < 20) ∧ (((bI (fld (cR σ 6) l3.toNatClampNeg 0 / 8 = l1)) = 0 → gE 74 4 [some (.ref 6), some (.int l1), some (.int l2), some (.int (l3 + 1))] [] σ K) ∧ (¬ (bI (fld (cR σ 6) l3.toNatClampNeg 0 / 8 = l1)) = 0 → gE 74 4 [some (.ref 6), some (.int l1), some (.int (l2 + 1)), some (.int (l3 + 1))] [] σ K))))) : gE 74 4 [some (.ref 6), some (.int l1), some (.int l2), some (.int l3)] [] σ K :=
  gw_run (cy := 74) (cuts := [4]) (inl := []) (pf := gpee) gpee_ok 400 (by decide) h
theorem s74 {σ : gS} {K : gK} {b : Int32} (hc : SC σ) (hK : K (some (.int (fAc (cR σ 6) b))) σ) : gE 74 0 [some (.ref 6), some (.int b), none, none] [] σ K := by
  obtain ⟨hT, hP, hL, h0⟩ := hc
  have h7 : 0 ≤ σ 6 7 ∧ σ 6 7 ≤ 20 := SC_7 ⟨hT, hP, hL, h0⟩
  have hc3 := hT.1
  refine w74 ?_
  refine g_forI (nM (cR σ 6)) (fun k => [some (.ref 6), some (.int b), some (.int (iN (cnt (fun t => decide (fld (cR σ 6) t 0 / 8 = b)) k))), some (.int (iN k))]) (fun _ => σ) (fun _ => True) (fun _ => ?_) (fun k hk _ ih => ?_) 0 (Nat.zero_le _) trivial
  · have hn := (nM_of hc3).2
    refine c74_4 ⟨fun _ => hK, fun h => ?_⟩
    rw [← cR_3 σ 6, nM_lt hc3 (by omega)] at h; omega
  · have hn := (nM_of hc3).2
    have hk20 : k < 20 := by omega
    have ek : (iN k).toNatClampNeg = k := iN_nat (by omega)
    have ih := ih trivial
    refine c74_4 ⟨fun h => ?_, fun h => ⟨b20 hk20, ?_⟩⟩
    · rw [← cR_3 σ 6, nM_lt hc3 (by omega)] at h; omega
    · rw [ek, iN_one, iN_one]
      refine ⟨fun q => ?_, fun q => ?_⟩
      · rw [cnt_f (fun z => bI_0.mp q (of_decide_eq_true z))] at ih
        exact ih
      · rw [cnt_t (decide_eq_true (dnn q))] at ih
        exact ih
noncomputable def f74 : gD := fun Lv σ => match Lv with
  | [some (.ref q0), some (.int b), none, none] => cond (Nat.beq q0 6) (some (some (SC σ), some (.int (fAc (cR σ 6) b)), σ)) none
  | _ => none
theorem ok74 : gFok 74 f74 := by
  intro Lv σ q h hc K hK
  unfold f74 at h
  split at h
  · rename_i q0 b
    obtain ⟨hb, h⟩ := c_no h
    have hb0 := hb
    have e0 := b_eq hb0
    subst e0
    cases h
    exact s74 (hc _ rfl) hK
  · cases h
set_option maxRecDepth 20000 in
theorem w75 {σ : gS} {K : gK} {b : Int32} (h : gE 75 4 [some (.ref 6), some (.int b), some (.int 0), some (.int 0)] [] σ K) : gE 75 0 [some (.ref 6), some (.int b), none, none] [] σ K :=
  gw_run (cy := 75) (cuts := [4]) (inl := []) (pf := gpee) gpee_ok 400 (by decide) h
set_option maxRecDepth 20000 in
theorem c75_4 {σ : gS} {K : gK} {l1 l2 l3 : Int32} (h : ((¬ l3 < (σ 6 7) → K (some (.int l2)) σ) ∧ (l3 < (σ 6 7) → (0 ≤ l3 ∧ l3 < 20) ∧ (((bI (fld (cR σ 6) l3.toNatClampNeg 0 / 8 = l1)) = 0 → gE 75 4 [some (.ref 6), some (.int l1), some (.int l2), some (.int (l3 + 1))] [] σ K) ∧ (¬ (bI (fld (cR σ 6) l3.toNatClampNeg 0 / 8 = l1)) = 0 → (((0 ≤ l3 ∧ l3 < 20) ∧ l3.toNatClampNeg < nM (cR σ 6)) ∧ TC σ 6) ∧ ((¬ (fJo (cR σ 6) l3.toNatClampNeg) < 0 → gE 75 4 [some (.ref 6), some (.int l1), some (.int l2), some (.int (l3 + 1))] [] σ K) ∧ ((fJo (cR σ 6) l3.toNatClampNeg) < 0 → gE 75 4 [some (.ref 6), some (.int l1), some (.int (l2 + 1)), some (.int (l3 + 1))] [] σ K))))))) : gE 75 4 [some (.ref 6), some (.int l1), some (.int l2), some (.int l3)] [] σ K :=
  gw_run (cy := 75) (cuts := [4]) (inl := []) (pf := gpee) gpee_ok 400 (by decide) h
theorem s75 {σ : gS} {K : gK} {b : Int32} (hc : SC σ) (hK : K (some (.int (fAg (cR σ 6) b))) σ) : gE 75 0 [some (.ref 6), some (.int b), none, none] [] σ K := by
  obtain ⟨hT, hP, hL, h0⟩ := hc
  have h7 : 0 ≤ σ 6 7 ∧ σ 6 7 ≤ 20 := SC_7 ⟨hT, hP, hL, h0⟩
  have hc3 := hT.1
  refine w75 ?_
  refine g_forI (nM (cR σ 6)) (fun k => [some (.ref 6), some (.int b), some (.int (iN (cnt (fun t => decide (fld (cR σ 6) t 0 / 8 = b ∧ fJo (cR σ 6) t < 0)) k))), some (.int (iN k))]) (fun _ => σ) (fun _ => True) (fun _ => ?_) (fun k hk _ ih => ?_) 0 (Nat.zero_le _) trivial
  · have hn := (nM_of hc3).2
    refine c75_4 ⟨fun _ => hK, fun h => ?_⟩
    rw [← cR_3 σ 6, nM_lt hc3 (by omega)] at h; omega
  · have hn := (nM_of hc3).2
    have hk20 : k < 20 := by omega
    have ek : (iN k).toNatClampNeg = k := iN_nat (by omega)
    have ih := ih trivial
    refine c75_4 ⟨fun h => ?_, fun h => ⟨b20 hk20, ?_⟩⟩
    · rw [← cR_3 σ 6, nM_lt hc3 (by omega)] at h; omega
    · rw [ek, iN_one, iN_one]
      refine ⟨fun q => ?_, fun q => ⟨⟨⟨b20 hk20, hk⟩, hT⟩, fun q2 => ?_, fun q2 => ?_⟩⟩
      · rw [cnt_f (fun z => bI_0.mp q (of_decide_eq_true z).1)] at ih
        exact ih
      · rw [cnt_f (fun z => q2 (of_decide_eq_true z).2)] at ih
        exact ih
      · rw [cnt_t (decide_eq_true ⟨dnn q, q2⟩)] at ih
        exact ih
noncomputable def f75 : gD := fun Lv σ => match Lv with
  | [some (.ref q0), some (.int b), none, none] => cond (Nat.beq q0 6) (some (some (SC σ), some (.int (fAg (cR σ 6) b)), σ)) none
  | _ => none
theorem ok75 : gFok 75 f75 := by
  intro Lv σ q h hc K hK
  unfold f75 at h
  split at h
  · rename_i q0 b
    obtain ⟨hb, h⟩ := c_no h
    have hb0 := hb
    have e0 := b_eq hb0
    subst e0
    cases h
    exact s75 (hc _ rfl) hK
  · cases h
set_option maxRecDepth 20000 in
theorem w76 {σ : gS} {K : gK} {b : Int32} (h : gE 76 4 [some (.ref 6), some (.int b), some (.int 0), some (.int 0)] [] σ K) : gE 76 0 [some (.ref 6), some (.int b), none, none] [] σ K :=
  gw_run (cy := 76) (cuts := [4]) (inl := []) (pf := gpee) gpee_ok 400 (by decide) h
set_option maxRecDepth 20000 in
theorem c76_4 {σ : gS} {K : gK} {l1 l2 l3 : Int32} (h : ((¬ l3 < (σ 6 7) → K (some (.int l2)) σ) ∧ (l3 < (σ 6 7) → (0 ≤ l3 ∧ l3 < 20) ∧ (((bI (fld (cR σ 6) l3.toNatClampNeg 0 / 8 = l1)) = 0 → gE 76 4 [some (.ref 6), some (.int l1), some (.int l2), some (.int (l3 + 1))] [] σ K) ∧ (¬ (bI (fld (cR σ 6) l3.toNatClampNeg 0 / 8 = l1)) = 0 → (((0 ≤ l3 ∧ l3 < 20) ∧ l3.toNatClampNeg < nM (cR σ 6)) ∧ TC σ 6) ∧ gE 76 4 [some (.ref 6), some (.int l1), some (.int (l2 + (fJo (cR σ 6) l3.toNatClampNeg))), some (.int (l3 + 1))] [] σ K))))) : gE 76 4 [some (.ref 6), some (.int l1), some (.int l2), some (.int l3)] [] σ K :=
  gw_run (cy := 76) (cuts := [4]) (inl := []) (pf := gpee) gpee_ok 400 (by decide) h
theorem s76 {σ : gS} {K : gK} {b : Int32} (hc : SC σ) (hK : K (some (.int (fAj (cR σ 6) b))) σ) : gE 76 0 [some (.ref 6), some (.int b), none, none] [] σ K := by
  obtain ⟨hT, hP, hL, h0⟩ := hc
  have h7 : 0 ≤ σ 6 7 ∧ σ 6 7 ≤ 20 := SC_7 ⟨hT, hP, hL, h0⟩
  have hc3 := hT.1
  refine w76 ?_
  refine g_forI (nM (cR σ 6)) (fun k => [some (.ref 6), some (.int b), some (.int (sm (fun t => if fld (cR σ 6) t 0 / 8 = b then fJo (cR σ 6) t else 0) k)), some (.int (iN k))]) (fun _ => σ) (fun _ => True) (fun _ => ?_) (fun k hk _ ih => ?_) 0 (Nat.zero_le _) trivial
  · have hn := (nM_of hc3).2
    refine c76_4 ⟨fun _ => hK, fun h => ?_⟩
    rw [← cR_3 σ 6, nM_lt hc3 (by omega)] at h; omega
  · have hn := (nM_of hc3).2
    have hk20 : k < 20 := by omega
    have ek : (iN k).toNatClampNeg = k := iN_nat (by omega)
    have ih := ih trivial
    refine c76_4 ⟨fun h => ?_, fun h => ⟨b20 hk20, ?_⟩⟩
    · rw [← cR_3 σ 6, nM_lt hc3 (by omega)] at h; omega
    · rw [ek, iN_one]
      refine ⟨fun q => ?_, fun q => ⟨⟨⟨b20 hk20, hk⟩, hT⟩, ?_⟩⟩
      · rw [sm_z (if_neg (bI_0.mp q))] at ih
        exact ih
      · have e : sm (fun t => if fld (cR σ 6) t 0 / 8 = b then fJo (cR σ 6) t else 0) (k + 1) = sm (fun t => if fld (cR σ 6) t 0 / 8 = b then fJo (cR σ 6) t else 0) k + fJo (cR σ 6) k := congrArg (_ + ·) (if_pos (dnn q))
        rw [e] at ih
        exact ih
noncomputable def f76 : gD := fun Lv σ => match Lv with
  | [some (.ref q0), some (.int b), none, none] => cond (Nat.beq q0 6) (some (some (SC σ), some (.int (fAj (cR σ 6) b)), σ)) none
  | _ => none
theorem ok76 : gFok 76 f76 := by
  intro Lv σ q h hc K hK
  unfold f76 at h
  split at h
  · rename_i q0 b
    obtain ⟨hb, h⟩ := c_no h
    have hb0 := hb
    have e0 := b_eq hb0
    subst e0
    cases h
    exact s76 (hc _ rfl) hK
  · cases h
set_option maxRecDepth 20000 in
theorem w80 {σ : gS} {K : gK} {f : Int32} (h : gE 80 4 [some (.ref 6), some (.int f), some (.int 0), some (.int 0)] [] σ K) : gE 80 0 [some (.ref 6), some (.int f), none, none] [] σ K :=
  gw_run (cy := 80) (cuts := [4]) (inl := []) (pf := gpee) gpee_ok 400 (by decide) h
set_option maxRecDepth 20000 in
theorem c80_4 {σ : gS} {K : gK} {l1 l2 l3 : Int32} (h : ((¬ l3 < (σ 6 7) → K (some (.int l2)) σ) ∧ (l3 < (σ 6 7) → (0 ≤ l3 ∧ l3 < 20) ∧ gTv (6 + 2 + l3.toNatClampNeg) ∧ ((¬ (σ (6 + 2 + l3.toNatClampNeg) 3) = l1 → gE 80 4 [some (.ref 6), some (.int l1), some (.int l2), some (.int (l3 + 1))] [] σ K) ∧ ((σ (6 + 2 + l3.toNatClampNeg) 3) = l1 → (((0 ≤ l3 ∧ l3 < 20) ∧ l3.toNatClampNeg < nM (cR σ 6)) ∧ TC σ 6) ∧ gE 80 4 [some (.ref 6), some (.int l1), some (.int (l2 + (fJo (cR σ 6) l3.toNatClampNeg))), some (.int (l3 + 1))] [] σ K))))) : gE 80 4 [some (.ref 6), some (.int l1), some (.int l2), some (.int l3)] [] σ K :=
  gw_run (cy := 80) (cuts := [4]) (inl := []) (pf := gpee) gpee_ok 400 (by decide) h
theorem s80 {σ : gS} {K : gK} {f : Int32} (hc : SC σ) (hK : K (some (.int (fJF (cR σ 6) f))) σ) : gE 80 0 [some (.ref 6), some (.int f), none, none] [] σ K := by
  obtain ⟨hT, hP, hL, h0⟩ := hc
  have h7 : 0 ≤ σ 6 7 ∧ σ 6 7 ≤ 20 := SC_7 ⟨hT, hP, hL, h0⟩
  have hc3 := hT.1
  refine w80 ?_
  refine g_forI (nM (cR σ 6)) (fun k => [some (.ref 6), some (.int f), some (.int (sm (fun t => if fld (cR σ 6) t 2 = f then fJo (cR σ 6) t else 0) k)), some (.int (iN k))]) (fun _ => σ) (fun _ => True) (fun _ => ?_) (fun k hk _ ih => ?_) 0 (Nat.zero_le _) trivial
  · have hn := (nM_of hc3).2
    refine c80_4 ⟨fun _ => hK, fun h => ?_⟩
    rw [← cR_3 σ 6, nM_lt hc3 (by omega)] at h; omega
  · have hn := (nM_of hc3).2
    have hk20 : k < 20 := by omega
    have ek : (iN k).toNatClampNeg = k := iN_nat (by omega)
    have ih := ih trivial
    refine c80_4 ⟨fun h => ?_, fun h => ⟨b20 hk20, by rw [ek]; exact tv_6 k hk20, ?_⟩⟩
    · rw [← cR_3 σ 6, nM_lt hc3 (by omega)] at h; omega
    · rw [ek, ← cR_f (σ := σ) (p := 6) (t := k) (f := 2) hk20 (by decide), iN_one]
      refine ⟨fun q => ?_, fun q => ⟨⟨⟨b20 hk20, hk⟩, hT⟩, ?_⟩⟩
      · rw [sm_z (if_neg q)] at ih
        exact ih
      · have e : sm (fun t => if fld (cR σ 6) t 2 = f then fJo (cR σ 6) t else 0) (k + 1) = sm (fun t => if fld (cR σ 6) t 2 = f then fJo (cR σ 6) t else 0) k + fJo (cR σ 6) k := congrArg (_ + ·) (if_pos q)
        rw [e] at ih
        exact ih
noncomputable def f80 : gD := fun Lv σ => match Lv with
  | [some (.ref q0), some (.int f), none, none] => cond (Nat.beq q0 6) (some (some (SC σ), some (.int (fJF (cR σ 6) f)), σ)) none
  | _ => none
theorem ok80 : gFok 80 f80 := by
  intro Lv σ q h hc K hK
  unfold f80 at h
  split at h
  · rename_i q0 f
    obtain ⟨hb, h⟩ := c_no h
    have hb0 := hb
    have e0 := b_eq hb0
    subst e0
    cases h
    exact s80 (hc _ rfl) hK
  · cases h
set_option maxRecDepth 20000 in
theorem w225 {σ : gS} {K : gK} {f : Int32} (h : gE 225 4 [some (.ref 323), some (.int f), some (.int 0), some (.int 0)] [] σ K) : gE 225 0 [some (.ref 323), some (.int f), none, none] [] σ K :=
  gw_run (cy := 225) (cuts := [4]) (inl := []) (pf := gpee) gpee_ok 400 (by decide) h
set_option maxRecDepth 20000 in
theorem c225_4 {σ : gS} {K : gK} {l1 l2 l3 : Int32} (h : (0 ≤ (3 : Int32) ∧ (3 : Int32) < 330) ∧ ((¬ l3 < (σ 324 3) → K (some (.int l2)) σ) ∧ (l3 < (σ 324 3) → (0 ≤ (9 + 10 * l3 + (2 : Int32)) ∧ (9 + 10 * l3 + (2 : Int32)) < 330) ∧ ((¬ (σ 324 (9 + 10 * l3 + (2 : Int32)).toNatClampNeg) = l1 → gE 225 4 [some (.ref 323), some (.int l1), some (.int l2), some (.int (l3 + 1))] [] σ K) ∧ ((σ 324 (9 + 10 * l3 + (2 : Int32)).toNatClampNeg) = l1 → gE 225 4 [some (.ref 323), some (.int l1), some (.int (l2 + 1)), some (.int (l3 + 1))] [] σ K))))) : gE 225 4 [some (.ref 323), some (.int l1), some (.int l2), some (.int l3)] [] σ K :=
  gw_run (cy := 225) (cuts := [4]) (inl := []) (pf := gpee) gpee_ok 400 (by decide) h
theorem s225 {σ : gS} {K : gK} {f : Int32} (hc : RS σ) (hK : K (some (.int (fMF (σ 324) f))) σ) : gE 225 0 [some (.ref 323), some (.int f), none, none] [] σ K := by
  obtain ⟨⟨h3, h9⟩, hu⟩ := hc
  have hc3 := h3
  refine w225 ?_
  refine g_forI (nM (σ 324)) (fun k => [some (.ref 323), some (.int f), some (.int (iN (cnt (fun t => decide (fld (σ 324) t 2 = f)) k))), some (.int (iN k))]) (fun _ => σ) (fun _ => True) (fun _ => ?_) (fun k hk _ ih => ?_) 0 (Nat.zero_le _) trivial
  · have hn := (nM_of hc3).2
    refine c225_4 ⟨by decide, fun _ => hK, fun h => ?_⟩
    rw [nM_lt hc3 (by omega)] at h; omega
  · have hn := (nM_of hc3).2
    have hk20 : k < 20 := by omega
    have ek : (iN k).toNatClampNeg = k := iN_nat (by omega)
    have ih := ih trivial
    refine c225_4 ⟨by decide, fun h => ?_, fun h => ⟨ixb2 hk20, ?_⟩⟩
    · rw [nM_lt hc3 (by omega)] at h; omega
    · rw [ix2 hk20, iN_one, iN_one]
      refine ⟨fun q => ?_, fun q => ?_⟩
      · rw [cnt_f (fun z => q (of_decide_eq_true z))] at ih
        exact ih
      · rw [cnt_t (decide_eq_true (show fld (σ 324) k 2 = f from q))] at ih
        exact ih
noncomputable def f225 : gD := fun Lv σ => match Lv with
  | [some (.ref q0), some (.int f), none, none] => cond (Nat.beq q0 323) (some (some (RS σ), some (.int (fMF (σ 324) f)), σ)) none
  | _ => none
theorem ok225 : gFok 225 f225 := by
  intro Lv σ q h hc K hK
  unfold f225 at h
  split at h
  · rename_i q0 f
    obtain ⟨hb, h⟩ := c_no h
    have hb0 := hb
    have e0 := b_eq hb0
    subst e0
    cases h
    exact s225 (hc _ rfl) hK
  · cases h
set_option maxRecDepth 20000 in
theorem w237 {σ : gS} {K : gK} {f : Int32} (h : gE 237 4 [some (.ref 323), some (.int f), some (.int 0), some (.int 0)] [] σ K) : gE 237 0 [some (.ref 323), some (.int f), none, none] [] σ K :=
  gw_run (cy := 237) (cuts := [4]) (inl := []) (pf := gpee) gpee_ok 400 (by decide) h
set_option maxRecDepth 20000 in
theorem c237_4 {σ : gS} {K : gK} {l1 l2 l3 : Int32} (h : (0 ≤ (3 : Int32) ∧ (3 : Int32) < 330) ∧ ((¬ l3 < (σ 324 3) → K (some (.int l2)) σ) ∧ (l3 < (σ 324 3) → (0 ≤ (9 + 10 * l3 + (2 : Int32)) ∧ (9 + 10 * l3 + (2 : Int32)) < 330) ∧ ((¬ (σ 324 (9 + 10 * l3 + (2 : Int32)).toNatClampNeg) = l1 → gE 237 4 [some (.ref 323), some (.int l1), some (.int l2), some (.int (l3 + 1))] [] σ K) ∧ ((σ 324 (9 + 10 * l3 + (2 : Int32)).toNatClampNeg) = l1 → ((0 ≤ l3 ∧ l3 < 20) ∧ 0 ≤ σ 324 3 ∧ σ 324 3 ≤ 20) ∧ gE 237 4 [some (.ref 323), some (.int l1), some (.int (l2 + (fJo (σ 324) l3.toNatClampNeg))), some (.int (l3 + 1))] [] σ K))))) : gE 237 4 [some (.ref 323), some (.int l1), some (.int l2), some (.int l3)] [] σ K :=
  gw_run (cy := 237) (cuts := [4]) (inl := []) (pf := gpee) gpee_ok 400 (by decide) h
theorem s237 {σ : gS} {K : gK} {f : Int32} (hc : RS σ) (hK : K (some (.int (fJF (σ 324) f))) σ) : gE 237 0 [some (.ref 323), some (.int f), none, none] [] σ K := by
  obtain ⟨⟨h3, h9⟩, hu⟩ := hc
  have hc3 := h3
  refine w237 ?_
  refine g_forI (nM (σ 324)) (fun k => [some (.ref 323), some (.int f), some (.int (sm (fun t => if fld (σ 324) t 2 = f then fJo (σ 324) t else 0) k)), some (.int (iN k))]) (fun _ => σ) (fun _ => True) (fun _ => ?_) (fun k hk _ ih => ?_) 0 (Nat.zero_le _) trivial
  · have hn := (nM_of hc3).2
    refine c237_4 ⟨by decide, fun _ => hK, fun h => ?_⟩
    rw [nM_lt hc3 (by omega)] at h; omega
  · have hn := (nM_of hc3).2
    have hk20 : k < 20 := by omega
    have ek : (iN k).toNatClampNeg = k := iN_nat (by omega)
    have ih := ih trivial
    refine c237_4 ⟨by decide, fun h => ?_, fun h => ⟨ixb2 hk20, ?_⟩⟩
    · rw [nM_lt hc3 (by omega)] at h; omega
    · rw [ix2 hk20, ek, iN_one]
      refine ⟨fun q => ?_, fun q => ⟨⟨b20 hk20, h3⟩, ?_⟩⟩
      · rw [sm_z (g := fun t => if fld (σ 324) t 2 = f then fJo (σ 324) t else 0) (if_neg q)] at ih
        exact ih
      · have e : sm (fun t => if fld (σ 324) t 2 = f then fJo (σ 324) t else 0) (k + 1) = sm (fun t => if fld (σ 324) t 2 = f then fJo (σ 324) t else 0) k + fJo (σ 324) k := congrArg (_ + ·) (if_pos q)
        rw [e] at ih
        exact ih
noncomputable def f237 : gD := fun Lv σ => match Lv with
  | [some (.ref q0), some (.int f), none, none] => cond (Nat.beq q0 323) (some (some (RS σ), some (.int (fJF (σ 324) f)), σ)) none
  | _ => none
theorem ok237 : gFok 237 f237 := by
  intro Lv σ q h hc K hK
  unfold f237 at h
  split at h
  · rename_i q0 f
    obtain ⟨hb, h⟩ := c_no h
    have hb0 := hb
    have e0 := b_eq hb0
    subst e0
    cases h
    exact s237 (hc _ rfl) hK
  · cases h
set_option maxRecDepth 20000 in
theorem w233 {σ : gS} {K : gK} {b f : Int32} (h : gE 233 5 [some (.ref 323), some (.int b), some (.int f), some (.int 0), some (.int 0)] [] σ K) : gE 233 0 [some (.ref 323), some (.int b), some (.int f), none, none] [] σ K :=
  gw_run (cy := 233) (cuts := [5]) (inl := []) (pf := gpee) gpee_ok 400 (by decide) h
set_option maxRecDepth 20000 in
theorem c233_5 {σ : gS} {K : gK} {l1 l2 l3 l4 : Int32} (h : (0 ≤ (3 : Int32) ∧ (3 : Int32) < 330) ∧ ((¬ l4 < (σ 324 3) → K (some (.int l3)) σ) ∧ (l4 < (σ 324 3) → (0 ≤ l4 ∧ l4 < 20) ∧ (((bI (fld (σ 324) l4.toNatClampNeg 0 / 8 = l1)) = 0 → gE 233 5 [some (.ref 323), some (.int l1), some (.int l2), some (.int l3), some (.int (l4 + 1))] [] σ K) ∧ (¬ (bI (fld (σ 324) l4.toNatClampNeg 0 / 8 = l1)) = 0 → (0 ≤ (9 + 10 * l4 + (2 : Int32)) ∧ (9 + 10 * l4 + (2 : Int32)) < 330) ∧ ((¬ (σ 324 (9 + 10 * l4 + (2 : Int32)).toNatClampNeg) = l2 → gE 233 5 [some (.ref 323), some (.int l1), some (.int l2), some (.int l3), some (.int (l4 + 1))] [] σ K) ∧ ((σ 324 (9 + 10 * l4 + (2 : Int32)).toNatClampNeg) = l2 → gE 233 5 [some (.ref 323), some (.int l1), some (.int l2), some (.int (l3 + 1)), some (.int (l4 + 1))] [] σ K))))))) : gE 233 5 [some (.ref 323), some (.int l1), some (.int l2), some (.int l3), some (.int l4)] [] σ K :=
  gw_run (cy := 233) (cuts := [5]) (inl := []) (pf := gpee) gpee_ok 400 (by decide) h
theorem s233 {σ : gS} {K : gK} {b f : Int32} (hc : RS σ) (hK : K (some (.int (iN (mem (σ 324) b f)))) σ) : gE 233 0 [some (.ref 323), some (.int b), some (.int f), none, none] [] σ K := by
  obtain ⟨⟨h3, h9⟩, hu⟩ := hc
  have hc3 := h3
  refine w233 ?_
  refine g_forI (nM (σ 324)) (fun k => [some (.ref 323), some (.int b), some (.int f), some (.int (iN (cnt (memP (σ 324) b f) k))), some (.int (iN k))]) (fun _ => σ) (fun _ => True) (fun _ => ?_) (fun k hk _ ih => ?_) 0 (Nat.zero_le _) trivial
  · have hn := (nM_of hc3).2
    refine c233_5 ⟨by decide, fun _ => hK, fun h => ?_⟩
    rw [nM_lt hc3 (by omega)] at h; omega
  · have hn := (nM_of hc3).2
    have hk20 : k < 20 := by omega
    have ek : (iN k).toNatClampNeg = k := iN_nat (by omega)
    have ih := ih trivial
    refine c233_5 ⟨by decide, fun h => ?_, fun h => ⟨b20 hk20, ?_⟩⟩
    · rw [nM_lt hc3 (by omega)] at h; omega
    · rw [ix2 hk20, ek, iN_one, iN_one]
      refine ⟨fun q => ?_, fun q => ⟨ixb2 hk20, fun q2 => ?_, fun q2 => ?_⟩⟩
      · rw [cnt_f (fun z => bI_0.mp q (of_decide_eq_true z).1)] at ih
        exact ih
      · rw [cnt_f (fun z => q2 (of_decide_eq_true z).2)] at ih
        exact ih
      · rw [cnt_t (decide_eq_true ⟨dnn q, q2⟩)] at ih
        exact ih
noncomputable def f233 : gD := fun Lv σ => match Lv with
  | [some (.ref q0), some (.int b), some (.int f), none, none] => cond (Nat.beq q0 323) (some (some (RS σ), some (.int (iN (mem (σ 324) b f))), σ)) none
  | _ => none
theorem ok233 : gFok 233 f233 := by
  intro Lv σ q h hc K hK
  unfold f233 at h
  split at h
  · rename_i q0 b f
    obtain ⟨hb, h⟩ := c_no h
    have hb0 := hb
    have e0 := b_eq hb0
    subst e0
    cases h
    exact s233 (hc _ rfl) hK
  · cases h
set_option maxRecDepth 20000 in
theorem w72 {σ : gS} {K : gK} {x : Int32} (h : gE 72 2 [some (.ref 6), some (.int x), some (.int 0)] [] σ K) : gE 72 0 [some (.ref 6), some (.int x), none] [] σ K :=
  gw_run (cy := 72) (cuts := [2]) (inl := []) (pf := gpee) gpee_ok 400 (by decide) h
set_option maxRecDepth 20000 in
theorem c72_2 {σ : gS} {K : gK} {l1 l2 : Int32} (h : ((¬ l2 < (σ 6 7) → K (some (.int (-2))) σ) ∧ (l2 < (σ 6 7) → (SC σ ∧ isN σ 6 l2) ∧ ((¬ (fPl (cR σ 6) l2.toNatClampNeg) = l1 → gE 72 2 [some (.ref 6), some (.int l1), some (.int (l2 + 1))] [] σ K) ∧ ((fPl (cR σ 6) l2.toNatClampNeg) = l1 → K (some (.int l2)) σ))))) : gE 72 2 [some (.ref 6), some (.int l1), some (.int l2)] [] σ K :=
  gw_run (cy := 72) (cuts := [2]) (inl := []) (pf := gpee) gpee_ok 400 (by decide) h
theorem s72 {σ : gS} {K : gK} {x : Int32} (hc : SC σ) (hK : K (some (.int (fRk (cR σ 6) x))) σ) : gE 72 0 [some (.ref 6), some (.int x), none] [] σ K := by
  obtain ⟨hT, hP, hL, h0⟩ := hc
  have h7 : 0 ≤ σ 6 7 ∧ σ 6 7 ≤ 20 := SC_7 ⟨hT, hP, hL, h0⟩
  have hc3 := hT.1
  refine w72 ?_
  refine g_forI (nM (cR σ 6)) (fun k => [some (.ref 6), some (.int x), some (.int (iN k))]) (fun _ => σ) (fun k => ∀ j, j < k → fPl (cR σ 6) j ≠ x) (fun hi => ?_) (fun k hk hi ih => ?_) 0 (Nat.zero_le _) (fun j hj => absurd hj (Nat.not_lt_zero j))
  · have hn := (nM_of hc3).2
    refine c72_2 ⟨fun _ => ?_, fun h => ?_⟩
    · have e : fRk (cR σ 6) x = -2 := fnd_none (fun j hj => decide_eq_false (hi j hj))
      rw [e] at hK; exact hK
    · rw [← cR_3 σ 6, nM_lt hc3 (by omega)] at h; omega
  · have hn := (nM_of hc3).2
    have hk20 : k < 20 := by omega
    have ek : (iN k).toNatClampNeg = k := iN_nat (by omega)
    refine c72_2 ⟨fun h => ?_, fun h => ⟨⟨⟨hT, hP, hL, h0⟩, b20 hk20, by rw [ek]; exact hk⟩, fun h2 => ?_, fun h2 => ?_⟩⟩
    · rw [← cR_3 σ 6, nM_lt hc3 (by omega)] at h; omega
    · rw [ek] at h2
      rw [iN_one]
      refine ih (fun j hj => ?_)
      rcases Nat.lt_or_ge j k with q | q
      · exact hi j q
      · have : j = k := by omega
        subst this; exact h2
    · rw [ek] at h2
      have e : fRk (cR σ 6) x = iN k := fnd_some (decide_eq_true h2) (fun j hj => decide_eq_false (hi j hj)) (by omega) hk
      rw [e] at hK; exact hK
noncomputable def f72 : gD := fun Lv σ => match Lv with
  | [some (.ref q0), some (.int x), none] => cond (Nat.beq q0 6) (some (some (SC σ), some (.int (fRk (cR σ 6) x)), σ)) none
  | _ => none
theorem ok72 : gFok 72 f72 := by
  intro Lv σ q h hc K hK
  unfold f72 at h
  split at h
  · rename_i q0 x
    obtain ⟨hb, h⟩ := c_no h
    have hb0 := hb
    have e0 := b_eq hb0
    subst e0
    cases h
    exact s72 (hc _ rfl) hK
  · cases h
set_option maxRecDepth 20000 in
theorem w239 {σ : gS} {K : gK} {x : Int32} (h : ((¬ x < 0 → gE 239 8 [some (.ref 323), some (.int x), some (.int 0)] [] σ K) ∧ (x < 0 → K (some (.int (-1))) σ))) : gE 239 0 [some (.ref 323), some (.int x), none] [] σ K :=
  gw_run (cy := 239) (cuts := [8]) (inl := []) (pf := gpee) gpee_ok 400 (by decide) h
set_option maxRecDepth 20000 in
theorem c239_8 {σ : gS} {K : gK} {l1 l2 : Int32} (h : (0 ≤ (3 : Int32) ∧ (3 : Int32) < 330) ∧ ((¬ l2 < (σ 324 3) → K (some (.int (-2))) σ) ∧ (l2 < (σ 324 3) → (RS σ ∧ (0 ≤ l2 ∧ l2 < 20)) ∧ ((¬ (fPl (σ 324) l2.toNatClampNeg) = l1 → gE 239 8 [some (.ref 323), some (.int l1), some (.int (l2 + 1))] [] σ K) ∧ ((fPl (σ 324) l2.toNatClampNeg) = l1 → K (some (.int l2)) σ))))) : gE 239 8 [some (.ref 323), some (.int l1), some (.int l2)] [] σ K :=
  gw_run (cy := 239) (cuts := [8]) (inl := []) (pf := gpee) gpee_ok 400 (by decide) h
theorem s239 {σ : gS} {K : gK} {x : Int32} (hc : RS σ) (hK : K (some (.int (if x < 0 then -1 else fRk (σ 324) x))) σ) : gE 239 0 [some (.ref 323), some (.int x), none] [] σ K := by
  obtain ⟨⟨h3, h9⟩, hu⟩ := hc
  have hc3 := h3
  refine w239 ⟨fun q => ?_, fun q => ?_⟩
  · first
    | (rw [if_neg q] at hK)
    | (rw [if_pos q] at hK; exact hK)
    refine g_forI (nM (σ 324)) (fun k => [some (.ref 323), some (.int x), some (.int (iN k))]) (fun _ => σ) (fun k => ∀ j, j < k → fPl (σ 324) j ≠ x) (fun hi => ?_) (fun k hk hi ih => ?_) 0 (Nat.zero_le _) (fun j hj => absurd hj (Nat.not_lt_zero j))
    · have hn := (nM_of hc3).2
      refine c239_8 ⟨by decide, fun _ => ?_, fun h => ?_⟩
      · have e : fRk (σ 324) x = -2 := fnd_none (fun j hj => decide_eq_false (hi j hj))
        rw [e] at hK; exact hK
      · rw [nM_lt hc3 (by omega)] at h; omega
    · have hn := (nM_of hc3).2
      have hk20 : k < 20 := by omega
      have ek : (iN k).toNatClampNeg = k := iN_nat (by omega)
      refine c239_8 ⟨by decide, fun h => ?_, fun h => ⟨⟨⟨⟨h3, h9⟩, hu⟩, b20 hk20⟩, fun h2 => ?_, fun h2 => ?_⟩⟩
      · rw [nM_lt hc3 (by omega)] at h; omega
      · rw [ek] at h2
        rw [iN_one]
        refine ih (fun j hj => ?_)
        rcases Nat.lt_or_ge j k with q | q
        · exact hi j q
        · have : j = k := by omega
          subst this; exact h2
      · rw [ek] at h2
        have e : fRk (σ 324) x = iN k := fnd_some (decide_eq_true h2) (fun j hj => decide_eq_false (hi j hj)) (by omega) hk
        rw [e] at hK; exact hK
  · rw [if_pos q] at hK; exact hK
noncomputable def f239 : gD := fun Lv σ => match Lv with
  | [some (.ref q0), some (.int x), none] => cond (Nat.beq q0 323) (some (some (RS σ), some (.int (if x < 0 then -1 else fRk (σ 324) x)), σ)) none
  | _ => none
theorem ok239 : gFok 239 f239 := by
  intro Lv σ q h hc K hK
  unfold f239 at h
  split at h
  · rename_i q0 x
    obtain ⟨hb, h⟩ := c_no h
    have hb0 := hb
    have e0 := b_eq hb0
    subst e0
    cases h
    exact s239 (hc _ rfl) hK
  · cases h
noncomputable def gpef_l : List (Nat × gD) := (74, f74) :: (75, f75) :: (76, f76) :: (80, f80) :: (225, f225) :: (237, f237) :: (233, f233) :: (72, f72) :: (239, f239) :: gpee_l
noncomputable def gpef : gP := gpl0 gpef_l
theorem gpef_ok : gPok gpef := gpl0_cons ok74 (gpl0_cons ok75 (gpl0_cons ok76 (gpl0_cons ok80 (gpl0_cons ok225 (gpl0_cons ok237 (gpl0_cons ok233 (gpl0_cons ok72 (gpl0_cons ok239 (gpee_ok)))))))))
end
