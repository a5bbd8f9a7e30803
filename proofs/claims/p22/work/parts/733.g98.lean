-- text 98
/-! RELATION: a traveller is read by both -/
theorem cR_32 {σ τ : gS} (h : ∀ q, 32 ≤ q → q < 58 → τ q = σ q) : cR τ 32 = cR σ 32 := by
  funext j
  unfold cR
  by_cases q : j < 9
  · rw [if_pos q, if_pos q, h 32 (by decide) (by decide)]
  · rw [if_neg q, if_neg q]
    by_cases q2 : j < 209
    · rw [if_pos q2, if_pos q2, h (32 + 2 + (j - 9) / 10) (by omega) (by omega)]
    · rw [if_neg q2, if_neg q2]
theorem TR_A {T : gW} {L : Nat} {σ τ : gS} (h : PQ T L σ τ) : PQ T L (rA σ) (rTk τ (bI (rIs τ 377669))) := by
  have hz : PQ T L (cZr σ 4) τ := PQ_cg h (cZr_ne (by decide)) (cZr_ne (by decide)) (cZr_ne (by decide)) rfl rfl
  exact PQ_pass hz (fun _ m ht => PT_1000003 hz.1 ht) (fun _ q => by rw [q.1]; decide)
theorem fNew_v {R : gW} {n f : Nat} {x v : Int32} (hn : nM R = n) (hf : f < 9) : fNew R x v (9 + 10 * n + f) = if f = 0 then x else if f = 8 then 99 else 0 := by
  unfold fNew zsh rup
  rw [hn]
  grind
theorem fNew_9 {R : gW} {n : Nat} {x v : Int32} (hn : nM R = n) : fNew R x v (9 + 10 * n + 9) = v := by
  unfold fNew zsh rup
  rw [hn]
  grind
theorem TR_h {T : gW} {L n B : Nat} {σ τ : gS} (h : PQ T L σ τ) (hs : rIs τ 377669) (hV : SV σ 32 (τ 325)) (hG : GD B (τ 325)) (hn : nM (τ 325) = n) :
    PQ T L (rC (rB (rA σ))) (rTk (rTk (rTk τ 1) (bI (q2c (rTk τ 1) (rTk τ 1 323 14)))) (bI (q3c (rTk (rTk τ 1) (bI (q2c (rTk τ 1) (rTk τ 1 323 14))))))) ∧
    (rC (rB (rA σ)) 1 5 = 0 → (rTk (rTk τ 1) (bI (q2c (rTk τ 1) (rTk τ 1 323 14))) 323 15 = 0 ∧ q3c (rTk (rTk τ 1) (bI (q2c (rTk τ 1) (rTk τ 1 323 14))))) ∧ PW n (rTk τ 1 323 14) (τ 325) (rC (rB (rA σ))) (grow (rTk (rTk (rTk τ 1) (bI (q2c (rTk τ 1) (rTk τ 1 323 14)))) 1) 325 (fNew (rTk (rTk τ 1) (bI (q2c (rTk τ 1) (rTk τ 1 323 14))) 325) (rTk τ 1 323 14) (rTk (rTk τ 1) (bI (q2c (rTk τ 1) (rTk τ 1 323 14))) 323 14)))) := by
  have kA := TR_A h
  rw [bI_y hs] at kA
  obtain ⟨b3, bn, e7⟩ := SV_3 hV
  have fA : ∀ q, 32 ≤ q → q < 58 → rA σ q = σ q := fun q q1 q2 => rA_far (by omega) (by omega)
  have e25 : rTk τ 1 325 = τ 325 := rTk_far (by decide)
  have eh : σ 32 4 = τ 325 0 := by
    have := hV.1.1 0 (by decide)
    rw [cR_h (by decide)] at this
    exact this
  have hw : ∀ v, fWho (cR (rA σ) 32) v = -2 ↔ fWho (rTk τ 1 325) v < 0 := by
    intro v
    rw [cR_32 fA, e25, agr_Who hV.1 v]
    rcases fWho_c (τ 325) v b3 with q | q
    · rw [q]; decide
    · grind
  obtain ⟨kB, kB2⟩ := PQ_seat kA (by rw [fA 32 (by decide) (by decide), e25]; exact eh) (by rw [e25]; exact hG.2.2.2) hw
  obtain ⟨a, ha⟩ : ∃ a, rTk τ 1 = a := ⟨_, rfl⟩
  rw [ha] at kB kB2 e25 ⊢
  obtain ⟨b, hb⟩ : ∃ b, rTk a (bI (q2c a (a 323 14))) = b := ⟨_, rfl⟩
  have b25 : b 325 = τ 325 := by rw [← hb, rTk_far (by decide), e25]
  rw [hb] at kB ⊢
  have kB' : PQ T L (rB (rA σ)) b := PQ_4 kB
  have kC : PQ T L (cPs (rB (rA σ)) (bI (cNm (rB (rA σ))))) (rTk b (bI (q3c b))) := PQ_pass kB' (fun _ m ht => (PT_nm kB'.1 ht).1) (fun _ q => by rw [q.1]; decide)
  refine ⟨PQ_4 kC, fun z => ?_⟩
  have z : cPs (rB (rA σ)) (bI (cNm (rB (rA σ)))) 1 5 = 0 := by
    unfold rC at z
    rw [gup_ne (by omega)] at z
    exact z
  obtain ⟨y1, y2⟩ := cPs_0 z
  have y2 := Decidable.not_not.mp (fun z => y2 (bI_0.mpr z))
  obtain ⟨f, m, ht⟩ := PQ_no kB' y1
  obtain ⟨p1, p2⟩ := PT_nm kB'.1 ht
  have y1' : cInt (cFs (rA σ)) 0 (rA σ 32 4 * 4 - 1) 1 5 = 0 := by
    unfold rB at y1
    rw [gup_ne (by omega)] at y1
    exact y1
  obtain ⟨w1, w2, w3⟩ := kB2 y1'
  refine ⟨⟨f, p1.mp y2⟩, ?_⟩
  have v4 : ∀ j, 1 ≤ j → j < 10 → rC (rB (rA σ)) 4 j = if j = 1 then cNu (cFs (rA σ)) else if j < 9 then 0 else 99 := by
    intro j j1 j2
    unfold rC
    rw [gup_ne (by omega), cPs_far (by decide)]
    unfold rB
    by_cases e : j = 1
    · subst e
      rw [gup_at, if_pos rfl]
    · rw [gup_ne (by omega), if_neg e, cInt_far (by decide), cFs_far (by decide)]
      unfold rA
      rw [cPs_far (by decide)]
      show (if 4 = 4 ∧ j < 9 then 0 else if 4 = 4 ∧ j = 9 then 99 else σ 4 j) = _
      by_cases e2 : j < 9
      · rw [if_pos ⟨rfl, e2⟩, if_pos e2]
      · rw [if_neg (by omega), if_pos ⟨rfl, by omega⟩, if_neg e2]
  have u : ∀ j, grow (rTk b 1) 325 (fNew (b 325) (a 323 14) (b 323 14)) 325 j = fNew (τ 325) (a 323 14) (b 323 14) j := fun j => by rw [grow_at, b25]
  refine ⟨fun j hj => ?_, fun g hg => ?_, ?_, ?_⟩
  · rw [u, fNew_ne (by rw [hn]; omega)]
  · rw [u, fNew_v hn hg, v4 (g + 1) (by omega) (by omega)]
    refine ⟨?_, ?_⟩
    · by_cases e : g = 0
      · rw [if_pos e, if_pos (show g + 1 = 1 by omega), w3]
      · rw [if_neg e, if_neg (show ¬ g + 1 = 1 by omega)]
        by_cases e2 : g = 8
        · rw [if_pos e2, if_neg (show ¬ g + 1 < 9 by omega)]
        · rw [if_neg e2, if_pos (show g + 1 < 9 by omega)]
    · by_cases e : g = 0
      · subst e
        rw [if_pos rfl]
        unfold PB
        simp [w2]
      · rw [if_neg (by omega)]
        by_cases e2 : g = 8
        · subst e2
          exact PB_8
        · rw [if_pos (by omega)]
          unfold PB
          simp [e]
  · rw [u, fNew_9 hn]
    have := p2 y2
    unfold rC
    rw [gup_at]
    exact this
  · rw [v4 1 (by decide) (by decide), if_pos rfl, w3]
theorem TR_mid {T : gW} {L n : Nat} {x : Int32} {R : gW} {σ τ : gS} (h : PS T L n x R (rC (rB (rA σ))) τ) (hR : σ 32 4 = R 0 ∧ (2 ≤ R 0 ∧ R 0 ≤ 10)) : PS T L n x R (rMid σ) (qMid τ n) := by
  unfold rMid qMid
  refine PS_P (PS_S (PS_R (PS_Ah (PS_W (PS_F (PS_T h)))) (fun _ => ?_)))
  rw [rAh_far (by decide) (by decide), rW_far (by decide) (by decide), rF_far (by decide) (by decide), rT_far (by decide) (by decide), rC_far (by decide) (by decide), rB_far (by decide) (by decide), rA_far (by decide) (by decide)]
  exact hR
theorem GD_adm {n : Nat} {R S : gW} (h : GD (99 * n) R) (hn : nM R = n) (h20 : n < 20) (s3 : S 3 = iN (n + 1)) (s0 : S 0 = R 0) (sF : ∀ j, 9 ≤ j → j < 9 + 10 * n → S j = R j) (sN : ∀ f, f < 9 → PB f (S (9 + 10 * n + f))) (sx : S (9 + 10 * n + 0) < 4 * R 0) : GD (99 * (n + 1)) S := by
  have SN : nM S = n + 1 := nM_iN s3 (by omega)
  have old : ∀ t, t < n → ∀ g, g < 10 → fld S t g = fld R t g := fun t ht g hg => sF _ (by omega) (by omega)
  obtain ⟨g1, g2, ⟨g3, gs⟩, g4⟩ := h
  rw [hn] at g3
  have sA : qSt S := by
    intro t ht
    rw [SN] at ht
    rw [s0]
    by_cases q : t < n
    · rw [old t q 0 (by decide)]
      exact gs t (by omega)
    · have : t = n := by omega
      subst this
      exact sx
  refine ⟨fun t ht => ?_, fun t ht => ?_, ⟨?_, sA⟩, by rw [s0]; exact g4⟩
  · rw [SN] at ht
    by_cases q : t < n
    · rw [old t q 3 (by decide), old t q 4 (by decide), old t q 5 (by decide), old t q 6 (by decide)]
      exact g1 t (by omega)
    · have : t = n := by omega
      subst this
      exact ⟨(sN 3 (by decide)).2.2.2.1 rfl, (sN 4 (by decide)).2.2.2.2.1 rfl, (sN 5 (by decide)).2.2.2.2.2.1 rfl, (sN 6 (by decide)).2.2.2.2.2.2.1 rfl⟩
  · rw [SN] at ht
    by_cases q : t < n
    · rw [old t q 7 (by decide)]
      exact g2 t (by omega)
    · have : t = n := by omega
      subst this
      exact ((sN 7 (by decide)).2.2.2.2.2.2.2 rfl).1
  · rw [SN]
    show smN (swN S) n + swN S n ≤ 99 * (n + 1)
    rw [smN_cg (g := swN R) (fun j hj => by unfold swN; rw [old j hj 7 (by decide)])]
    have : swN S n ≤ 99 := by
      unfold swN
      have hw := (sN 7 (by decide)).2.2.2.2.2.2.2 rfl
      have e : fld S n 7 = S (9 + 10 * n + 7) := rfl
      rw [e]
      obtain ⟨ew, lw⟩ := iN_of hw.1
      have h2 := hw.2
      rw [ew] at h2
      exact (iN_le (m := 99) lw (by decide)).mp h2
    omega
theorem TR_Z {T : gW} {L n : Nat} {x : Int32} {R : gW} {σ τ : gS} (h : PS T L n x R σ τ) (hV : SV σ 32 R) (hG : GD (99 * n) R) (hn : nM R = n) (h20 : n < 20) (hx4 : x < 4 * R 0) : PQ T L (rZ σ) (qZ τ n x) ∧ (rZ σ 1 5 = 0 → SV (rZ σ) 32 (qZ τ n x 325) ∧ GD (99 * (n + 1)) (qZ τ n x 325) ∧ nM (qZ τ n x 325) = n + 1) := by
  obtain ⟨hq, hw⟩ := h
  obtain ⟨b3, bn, e7⟩ := SV_3 hV
  have r3 : R 3 = iN n := by rw [← hn]; exact (nM_of b3).1
  have kP : PQ T L (cPs σ (bI (cB0 σ = 59 ∧ (σ 4 2 = 1 ∨ cR σ 32 1 ≤ σ 4 1 / 4)))) (rTk τ (bI (τ 323 13 = 3 ∧ fMay (τ 325) n x))) := by
    refine PQ_pass hq (fun w m ht => ?_) (fun w q => ?_)
    · obtain ⟨p1, p2, p3, p4⟩ := hw w
      rw [(PT_sg hq.1 ht).1, hV.1.1 1 (by decide), p4, ← (p2 1 (by decide)).1, ← p1 1 (by omega)]
      rfl
    · obtain ⟨f, m, ht⟩ := PQ_no hq w
      intro z
      have z2 := (PT_end hq.1 ht).mp z
      have := (PT_sg hq.1 ht).1.mp q.1
      rw [z2] at this
      exact absurd this (by decide)
  have f7 : ∀ c, cPs σ c 32 7 = R 3 := fun c => by rw [cPs_far (by decide)]; exact e7
  have b7 : ∀ c, 0 ≤ cPs σ c 32 7 ∧ cPs σ c 32 7 < 20 := fun c => by
    rw [f7, r3]
    exact ⟨(iN_le (k := 0) (by decide) (by omega)).mpr (by omega), (iN_lt (m := 20) (by omega) (by decide)).mpr h20⟩
  by_cases hP : cB0 σ = 59 ∧ (σ 4 2 = 1 ∨ cR σ 32 1 ≤ σ 4 1 / 4)
  · rw [bI_y hP] at kP
    by_cases w : σ 1 5 = 0
    · obtain ⟨f, m, ht⟩ := PQ_no hq w
      obtain ⟨p1, p2, p3, p4⟩ := hw w
      have hQ : τ 323 13 = 3 ∧ fMay (τ 325) n x := by
        refine ⟨(PT_sg hq.1 ht).1.mp hP.1, ?_⟩
        have := hP.2
        rw [hV.1.1 1 (by decide), p4, ← (p2 1 (by decide)).1, ← p1 1 (by omega)] at this
        exact this
      rw [bI_y hQ] at kP
      have e1 : cPs σ 1 1 5 = 0 := by
        unfold cPs
        rw [if_pos ⟨w, by decide⟩, cTok_5]
        exact w
      have er : rZ σ = cAdm (cPs σ 1) 32 4 := by unfold rZ; rw [if_pos hP, if_pos e1]
      have eq : qZ τ n x = gup (rTk τ 1) 325 3 (rTk τ 1 325 3 + 1) := by unfold qZ; rw [if_pos hQ, if_pos f]
      rw [er, eq]
      refine ⟨PQ_cg kP (cAdm_far (b7 1) (by omega)) (cAdm_far (b7 1) (by omega)) (cAdm_far (b7 1) (by omega)) (funext fun i => gup_ne (by omega)) (funext fun i => gup_ne (by omega)), fun _ => ?_⟩
      have S : ∀ j, gup (rTk τ 1) 325 3 (rTk τ 1 325 3 + 1) 325 j = if j = 3 then iN (n + 1) else τ 325 j := by
        intro j
        by_cases e : j = 3
        · subst e
          rw [gup_at, if_pos rfl, rTk_25, p1 3 (by omega), r3, iN_one]
        · rw [gup_ne (by omega), if_neg e, rTk_25]
      have hV' : SV (cPs σ 1) 32 R := SV_blk hV (fun q q1 q2 => cPs_far (by omega))
      have c4 : cPs σ 1 4 = σ 4 := cPs_far (by decide)
      have sF : ∀ j, 9 ≤ j → j < 9 + 10 * n → gup (rTk τ 1) 325 3 (rTk τ 1 325 3 + 1) 325 j = R j := fun j j1 j2 => by rw [S, if_neg (by omega), p1 j (by omega)]
      have s3 : gup (rTk τ 1) 325 3 (rTk τ 1 325 3 + 1) 325 3 = iN (n + 1) := by rw [S, if_pos rfl]
      have sH : ∀ j, j < 9 → ¬ j = 3 → gup (rTk τ 1) 325 3 (rTk τ 1 325 3 + 1) 325 j = R j := fun j j1 j2 => by rw [S, if_neg j2, p1 j (by omega)]
      refine ⟨SV_adm hV' (by decide) hn h20 ?_ ?_ ?_ s3 sH sF (fun g hg => ?_) ?_ (fun j j1 j2 => ?_), GD_adm hG hn h20 s3 (sH 0 (by decide) (by decide)) sF (fun g hg => ?_) (by rw [S, if_neg (by omega), (p2 0 (by decide)).1, show 0 + 1 = 1 from rfl, p4]; exact hx4), nM_iN s3 (by omega)⟩
      · rw [c4]; exact (p2 0 (by decide)).2.1 rfl
      · rw [c4]; exact (p2 1 (by decide)).2.2.1 rfl
      · rw [c4]; exact (p2 2 (by decide)).2.2.2.1 rfl
      · rw [S, if_neg (by omega), c4]
        exact (p2 g hg).1
      · rw [S, if_neg (by omega), c4]
        exact p3
      · rw [S, if_neg (by omega), p1 j (by omega)]
      · rw [S, if_neg (by omega), (p2 g hg).1]
        exact (p2 g hg).2
    · have fτ : ¬ τ 323 15 = 0 := by
        obtain ⟨hc, ⟨w2, f, ht⟩ | ⟨w2, f, he⟩⟩ := hq
        · exact absurd w2 w
        · exact f
      have e1 : ¬ cPs σ 1 1 5 = 0 := fun z => w (cPs_0 z).1
      have er : rZ σ = cPs σ 1 := by unfold rZ; rw [if_pos hP, if_neg e1]
      have eq : qZ τ n x = τ := by
        unfold qZ
        by_cases hQ : τ 323 13 = 3 ∧ fMay (τ 325) n x
        · rw [if_pos hQ, if_neg fτ]
        · rw [if_neg hQ, rTk_f fτ]
      rw [rTk_f fτ] at kP
      rw [er, eq]
      exact ⟨kP, fun z => absurd z e1⟩
  · rw [bI_n hP] at kP
    have e0 : ¬ cPs σ 0 1 5 = 0 := fun z => (cPs_0 z).2 rfl
    have er : rZ σ = cPs σ 0 := by unfold rZ; rw [if_neg hP]
    have eq : qZ τ n x = rTk τ (bI (τ 323 13 = 3 ∧ fMay (τ 325) n x)) := by
      unfold qZ
      by_cases hQ : τ 323 13 = 3 ∧ fMay (τ 325) n x
      · have fτ : ¬ τ 323 15 = 0 := by
          intro z
          have w : σ 1 5 = 0 := by
            obtain ⟨hc, ⟨w2, f, ht⟩ | ⟨w2, f, he⟩⟩ := hq
            · exact w2
            · exact absurd z f
          obtain ⟨f, m, ht⟩ := PQ_no hq w
          obtain ⟨p1, p2, p3, p4⟩ := hw w
          apply hP
          refine ⟨(PT_sg hq.1 ht).1.mpr hQ.1, ?_⟩
          rw [hV.1.1 1 (by decide), p4, ← (p2 1 (by decide)).1, ← p1 1 (by omega)]
          exact hQ.2
        rw [if_pos hQ, if_neg fτ, rTk_f fτ]
      · rw [if_neg hQ, bI_n hQ]
    rw [er, eq]
    exact ⟨kP, fun z => absurd z e0⟩
