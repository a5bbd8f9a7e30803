-- text 73
/-! RELATION: come -/
/-- reader, writer, guest, drafts are free -/
theorem GR_fre {B : Nat} {σ τ : gS} (h : GR B σ) (hq : ∀ q, (q = 0 ∨ q = 2 ∨ q = 3 ∨ (6 ≤ q ∧ q < 32) ∨ 60 ≤ q) → ¬ q = 326 → τ q = σ q) (hz : zR (τ 326)) : GR B τ := by
  obtain ⟨g1, g2, g3, g4, g5, g6, g7, g8, g9⟩ := h
  have e := fun q (h1 : q = 0 ∨ q = 2 ∨ q = 3 ∨ (6 ≤ q ∧ q < 32) ∨ 60 ≤ q) (h2 : ¬ q = 326) => hq q h1 h2
  have e324 := e 324 (by decide) (by decide)
  have e323 := e 323 (by decide) (by decide)
  refine ⟨?_, by rw [e324]; exact g2, ?_, SL_same (Nat.le_refl _) g4 (fun q q1 q2 => e q (by omega) (by omega)) (e 328 (by decide) (by decide)) (e 329 (by decide) (by decide)), ?_, ?_, ?_, ?_, ?_⟩
  · rw [e324]
    exact SV_blk g1 (fun q q1 q2 => e q (by omega) (by omega))
  · obtain ⟨⟨p1, p2, p3⟩, p4, p5⟩ := g3
    have e113 := e 113 (by decide) (by decide)
    have e327 := e 327 (by decide) (by decide)
    have eP : ∀ u, cPl τ u = cPl σ u := fun u => by unfold cPl; rw [e113]
    have hm : ∀ u, ((σ 113 1).toNatClampNeg + u) % 8 < 8 := fun u => Nat.mod_lt _ (by decide)
    refine ⟨⟨by unfold bPa; rw [e113]; exact p1, by rw [e113, e323]; exact p2, fun u hu => ?_⟩, fun u hu => ?_, fun j hj => ?_⟩
    · rw [e113] at hu
      rw [eP, e327]
      refine SV_blk (p3 u hu) (fun q q1 q2 => ?_)
      have := hm u
      unfold cPl at q1 q2
      exact e q (by omega) (by omega)
    · rw [e113] at hu
      rw [e327]
      exact p4 u hu
    · rw [e _ (by omega) (by omega)]
      exact p5 j hj
  · unfold TP
    rw [e 2 (by decide) (by decide), e 3 (by decide) (by decide), e323, e 330 (by decide) (by decide)]
    exact g5
  · rw [e 0 (by decide) (by decide), e323]
    exact g6
  · unfold RS
    rw [e324, e323]
    exact g7
  · unfold RZ
    rw [e324, e 325 (by decide) (by decide)]
    exact ⟨g8.1, g8.2.1, hz⟩
  · unfold RT
    rw [e323]
    exact g9
def clC (σ : gS) (x k f w s : Int32) : gS := if okK σ x k f w s then (if cTN σ ∧ σ 6 7 < 20 ∧ okF σ x k then cCom σ x k f w s else cBeg σ) else σ
theorem GR_come {B : Nat} {σ : gS} {x k f w s : Int32} (h : GR B σ) : (∀ q, 323 ≤ q → clC σ x k f w s q = σ q) ∧ (if okK σ x k f w s ∧ cTN σ then (if σ 6 7 < 20 then (if okF σ x k then σ 6 7 else -4) else -3) else -1) = aCom σ x k f w s ∧ GR (B + 99) (hCom (clC σ x k f w s) x k f w s) := by
  have h' := h
  obtain ⟨g1, g2, g3, g4, g5, g6, g7, g8, g9⟩ := h'
  obtain ⟨b3, bn, e7⟩ := SV_3 g1
  have h7 : 0 ≤ σ 6 7 ∧ σ 6 7 ≤ 20 := by rw [e7]; exact b3
  have b7 : 0 ≤ cBeg σ 6 7 ∧ cBeg σ 6 7 ≤ 20 := by rw [cBeg_ne (by decide)]; exact h7
  obtain ⟨tn1, tn2⟩ := tn_ok g5
  have eS := agr_isS g1.1 x
  have eW := agr_Who g1.1 x
  have e1 := g1.1.1 1 (by decide)
  have hok : (okK σ x k f w s ∧ cTN σ) ↔ okC σ x k f w s := by
    unfold okK okC
    rw [eS, tn1]
  have h20 : σ 6 7 < 20 ↔ ¬ σ 324 3 = 20 := by
    rw [e7]
    have := b3.2
    grind
  have hF : okF σ x k ↔ (fWho (σ 324) x < 0 ∧ (k = 1 ∨ σ 324 1 ≤ x / 4)) := by
    unfold okF
    rw [eW, e1]
    have hc := fWho_c (σ 324) x b3
    have : fWho (σ 324) x = -2 ↔ fWho (σ 324) x < 0 := by
      rcases hc with q | q
      · rw [q]; decide
      · grind
    rw [this]
  have gB : GR B (cBeg σ) := GR_fre h (fun q q1 _ => cBeg_ne (by omega)) (by rw [cBeg_ne (by decide)]; exact g8.2.2)
  have up : ∀ τ, GR B τ → GR (B + 99) τ := by
    intro τ ⟨i1, i2, i3, i4, i5, i6, i7, i8, i9⟩
    exact ⟨i1, GD_mono i2 (by omega), ⟨i3.1, fun u hu => GD_mono (i3.2.1 u hu) (by omega), i3.2.2⟩, SL_same (by omega) i4 (fun q _ _ => rfl) rfl rfl, i5, i6, i7, i8, i9⟩
  have hCo : ∀ q, 323 ≤ q → cCom σ x k f w s q = σ q := by
    intro q hq
    have u7 : 0 ≤ cGu0 σ x k f w s 6 7 ∧ (okF σ x k → cGu0 σ x k f w s 6 7 ≤ 20) := by
      rw [cGu0_ne h7 (by decide) (by decide) (by decide)]; exact ⟨h7.1, fun _ => h7.2⟩
    unfold cCom
    have a1 : ∀ j, gup (cAdd (cAdm (cGu0 σ x k f w s) 6 58) 0 (σ 6 7) x) 2 1 0 q j = cAdm (cGu0 σ x k f w s) 6 58 q j := fun j => by rw [gup_ne (by omega), cAdd_far (by omega) (by omega)]
    funext j
    rw [a1]
    have l : (cGu0 σ x k f w s 6 7).toNatClampNeg ≤ 20 := by rw [cGu0_ne h7 (by decide) (by decide) (by decide)]; exact (c20 h7).2
    unfold cAdm
    rw [gup_ne (by omega), cCnt_off (by omega)]
    show (if q = 6 + 2 + (cGu0 σ x k f w s 6 7).toNatClampNeg ∧ j < 10 then _ else _) = _
    rw [if_neg (by omega)]
    unfold cGu0
    rw [cGue_ne (by omega) (by omega), cZr_ne (by omega), cRem_far (Or.inr hq) b7, cBeg_ne (by omega)]
  have hi : ∀ q, 323 ≤ q → clC σ x k f w s q = σ q := by
    intro q hq
    unfold clC
    split
    · split
      · exact hCo q hq
      · exact cBeg_ne (by omega)
    · rfl
  have eg : ∀ τ : gS, (∀ q, 323 ≤ q → τ q = σ q) → (gCom τ x k f w s ↔ gCom σ x k f w s) := by
    intro τ ht
    unfold gCom okC
    rw [ht 324 (by decide), ht 330 (by decide), ht 323 (by decide)]
  refine ⟨hi, ?_, ?_⟩
  · unfold aCom
    by_cases q : okC σ x k f w s
    · rw [if_pos q, if_pos (hok.mpr q)]
      by_cases q2 : σ 324 3 = 20
      · rw [if_pos q2, if_neg (fun z => h20.mp z q2)]
      · rw [if_neg q2, if_pos (h20.mpr q2)]
        by_cases q3 : okF σ x k
        · rw [if_pos q3, if_pos (hF.mp q3), e7]
        · rw [if_neg q3, if_neg (fun z => q3 (hF.mpr z))]
    · rw [if_neg q, if_neg (fun z => q (hok.mp z))]
  · unfold hCom
    by_cases hg : gCom σ x k f w s
    · have hK := hok.mpr hg.1.1
      have hFF := hF.mpr hg.2
      have h27 := h20.mpr hg.1.2
      rw [if_pos ((eg _ hi).mpr hg)]
      unfold clC
      rw [if_pos hK.1, if_pos ⟨hK.2, h27, hFF⟩, hCo 324 (by decide), hCo 330 (by decide), hCo 323 (by decide)]
      have h20' : σ 324 3 < 20 := by rw [← e7]; exact h27
      have hx := isS_of g2.2.2.2 hg.1.1.1.1.1.1.1
      have hk : k = 0 ∨ k = 1 := by
        have := hg.1.1.1.1.1.1.2
        have a1 := this.1
        have a2 := this.2
        grind
      have sN := SV_com (w := w) (s := s) g1 h20' hx hk hg.1.1.1.1.1.2 (tn2 hK.2)
      have gN := GD_com (x := x) (k := k) (f := f) (s := s) (nm := fTn (σ 330) (σ 323 8)) g2 b3 g7.1.2 h20' hg.1.1.1.1.2 (isS_lt g2.2.2.2 hg.1.1.1.1.1.1.1)
      obtain ⟨N, hN⟩ : ∃ N, nCom (σ 324) x k f w s (fTn (σ 330) (σ 323 8)) = N := ⟨_, rfl⟩
      rw [hN] at sN gN ⊢
      have zN : zR N := by
        rw [← hN]
        unfold nCom radd
        have e3n : nM (σ 324) < 20 := by
          have := (nM_of b3).1
          rw [this] at h20'
          exact (iN_lt (m := 20) (by omega) (by decide)).mp h20'
        refine zR_te (zR_rup (zR_rup (zR_rup (zR_rup (zR_rup ?_ (by omega)) (by omega)) (by omega)) (by omega)) (by decide)) ?_
        · intro j hj
          rw [fNew_ne (by omega)]
          exact g8.1 j hj
        · rw [rup_ne (by omega), rup_ne (by omega), rup_ne (by omega), rup_ne (by omega), rup_ne (by omega), fNew_ne (by omega)]
          exact g7.1.2
      have u7 : 0 ≤ cGu0 σ x k f w s 6 7 ∧ cGu0 σ x k f w s 6 7 < 20 := by rw [cGu0_ne h7 (by decide) (by decide) (by decide)]; exact ⟨h7.1, h27⟩
      have cq : ∀ q, (32 ≤ q ∧ ¬ q = 58) ∨ q = 0 → cCom σ x k f w s q = cRem (cBeg σ) q := by
        intro q hq
        unfold cCom
        funext j
        rw [gup_ne (by omega), cAdd_far (by omega) (by omega), cAdm_far u7 (by omega)]
        unfold cGu0
        rw [cGue_ne (by omega) (by omega), cZr_ne (by omega)]
      have t : ∀ q, ¬ q = 323 → ¬ q = 324 → ¬ q = 327 → grow (grow (hKe (cCom σ x k f w s)) 323 (rup (hKe (cCom σ x k f w s) 323) 8 0)) 324 N q = cCom σ x k f w s q := fun q q1 q2 q3 => by rw [grow_ne q2, grow_ne q1, hKe_ne q1 q3]
      have e323 : grow (grow (hKe (cCom σ x k f w s)) 323 (rup (hKe (cCom σ x k f w s) 323) 8 0)) 324 N 323 = rup (rup (σ 323) 6 (fKu (σ 323 6))) 8 0 := by
        rw [grow_ne (by decide), grow_at]
        unfold hKe
        rw [grow_at, hCo 323 (by decide)]
      have bq : ∀ q, ¬ q = 1 → cBeg σ q = σ q := fun q hq => cBeg_ne hq
      refine GR_op (σ := cBeg σ) (N := N) gB (by omega) (SV_blk sN (fun q q1 q2 => t q (by omega) (by omega) (by omega))) gN zN (grow_at _ _ _) (fun q q1 q2 => ?_) (fun q q1 q2 => ?_) ?_ ?_ ?_ ?_ ?_ ?_ ?_ (Or.inl ?_) ?_ ?_
      · rw [t q (by omega) (by omega) (by omega)]; exact cq q (by omega)
      · rw [t q (by omega) (by omega) (by omega), cq q (by omega), cRem_far (Or.inl q2) b7]
      · rw [t 0 (by decide) (by decide) (by decide), cq 0 (by omega), cRem_far (Or.inl (by decide)) b7]
      · rw [grow_ne (by decide), grow_ne (by decide)]
        unfold hKe
        rw [grow_ne (by decide), grow_at, hCo 324 (by decide), hCo 327 (by decide), hCo 323 (by decide), bq 324 (by decide), bq 327 (by decide), bq 323 (by decide)]
      · rw [e323, rup_ne (by decide), rup_at, bq 323 (by decide)]
      · rw [e323, rup_ne (by decide), rup_ne (by decide), bq 323 (by decide)]
      · rw [t 328 (by decide) (by decide) (by decide), hCo 328 (by decide), bq 328 (by decide)]
      · rw [t 329 (by decide) (by decide) (by decide), hCo 329 (by decide), bq 329 (by decide)]
      · rw [t 325 (by decide) (by decide) (by decide), hCo 325 (by decide), bq 325 (by decide)]
      · rw [t 326 (by decide) (by decide) (by decide), hCo 326 (by decide), bq 326 (by decide)]
      · have z2 : grow (grow (hKe (cCom σ x k f w s)) 323 (rup (hKe (cCom σ x k f w s) 323) 8 0)) 324 N 2 1 = 0 := by
          rw [t 2 (by decide) (by decide) (by decide)]
          exact gup_at _ _ _
        unfold TP
        rw [z2, e323, rup_at]
        exact ⟨by decide, rfl, fun i hi => absurd hi (Nat.not_lt_zero _)⟩
      · show 0 ≤ _ ∧ _
        rw [e323, rup_at]
        decide
    · rw [if_neg (fun q => hg ((eg _ hi).mp q))]
      apply up
      unfold clC
      split
      · split
        · rename_i q1 q2
          exact absurd ⟨⟨hok.mp ⟨q1, q2.1⟩, h20.mp q2.2.1⟩, hF.mp q2.2.2⟩ hg
        · exact gB
      · exact h
-- text 74
/-! RELATION: append, truncate -/
/-- the tapes alone change -/
theorem GR_tap {B : Nat} {σ τ : gS} (h : GR B σ) (hq : ∀ q, ¬ q = 2 → ¬ q = 3 → ¬ q = 323 → ¬ q = 330 → τ q = σ q) (h323 : ∀ j, ¬ j = 8 → τ 323 j = σ 323 j) (hT : TP τ) : GR B τ := by
  obtain ⟨g1, g2, g3, g4, g5, g6, g7, g8, g9⟩ := h
  have e := fun q (h1 : ¬ q = 2) (h2 : ¬ q = 3) (h3 : ¬ q = 323) (h4 : ¬ q = 330) => hq q h1 h2 h3 h4
  have e324 := e 324 (by decide) (by decide) (by decide) (by decide)
  refine ⟨?_, by rw [e324]; exact g2, ?_, SL_same (Nat.le_refl _) g4 (fun q q1 q2 => e q (by omega) (by omega) (by omega) (by omega)) (e 328 (by decide) (by decide) (by decide) (by decide)) (e 329 (by decide) (by decide) (by decide) (by decide)), hT, ?_, ?_, ?_, ?_⟩
  · rw [e324]
    exact SV_blk g1 (fun q q1 q2 => e q (by omega) (by omega) (by omega) (by omega))
  · obtain ⟨⟨p1, p2, p3⟩, p4, p5⟩ := g3
    have e113 := e 113 (by decide) (by decide) (by decide) (by decide)
    have e327 := e 327 (by decide) (by decide) (by decide) (by decide)
    have eP : ∀ u, cPl τ u = cPl σ u := fun u => by unfold cPl; rw [e113]
    have hm : ∀ u, ((σ 113 1).toNatClampNeg + u) % 8 < 8 := fun u => Nat.mod_lt _ (by decide)
    refine ⟨⟨by unfold bPa; rw [e113]; exact p1, by rw [e113, h323 6 (by decide)]; exact p2, fun u hu => ?_⟩, fun u hu => ?_, fun j hj => ?_⟩
    · rw [e113] at hu
      rw [eP, e327]
      refine SV_blk (p3 u hu) (fun q q1 q2 => ?_)
      have := hm u
      unfold cPl at q1 q2
      exact e q (by omega) (by omega) (by omega) (by omega)
    · rw [e113] at hu
      rw [e327]
      exact p4 u hu
    · rw [e _ (by omega) (by omega) (by omega) (by omega)]
      exact p5 j hj
  · rw [e 0 (by decide) (by decide) (by decide) (by decide), h323 9 (by decide)]
    exact g6
  · unfold RS
    rw [e324, h323 6 (by decide)]
    exact g7
  · unfold RZ
    rw [e324, e 325 (by decide) (by decide) (by decide) (by decide), e 326 (by decide) (by decide) (by decide) (by decide)]
    exact g8
  · unfold RT
    rw [hT.2.1]
    exact hT.1
def clA (σ : gS) (Bt : Nat → Int32) : gS := if 1000 < σ 2 1 + 20 then σ else cApp σ (σ 2 1).toNatClampNeg Bt 20
theorem GR_append {B : Nat} {σ : gS} {Bt : Nat → Int32} (h : GR B σ) : (∀ q, 323 ≤ q → clA σ Bt q = σ q) ∧ (if 1000 < σ 2 1 + 20 then -1 else σ 2 1 + 20) = (if 1000 < σ 323 8 + 20 then -1 else σ 323 8 + 20) ∧ GR B (hAp (clA σ Bt) Bt) := by
  have g5 := h.2.2.2.2.1
  obtain ⟨hL, h8, hT⟩ := g5
  obtain ⟨eL, l⟩ := l1000 hL
  obtain ⟨L, hLL⟩ : ∃ L, (σ 2 1).toNatClampNeg = L := ⟨_, rfl⟩
  have hi : ∀ q, 323 ≤ q → clA σ Bt q = σ q := by
    intro q hq
    unfold clA
    split
    · rfl
    · unfold cApp
      rw [grow_ne (by omega), grow_ne (by omega)]
  refine ⟨hi, by rw [h8], ?_⟩
  unfold hAp
  rw [hi 323 (by decide), hi 330 (by decide), h8]
  unfold clA
  by_cases hc : 1000 < σ 2 1 + 20
  · rw [if_pos hc, if_pos hc]; exact h
  · rw [if_neg hc, if_neg hc]
    rw [hLL] at eL l hT ⊢
    have l980 : L ≤ 980 := by
      rw [eL, show (20 : Int32) = iN 20 from rfl, iN_add, show (1000 : Int32) = iN 1000 from rfl, iN_lt (by omega) (by omega)] at hc
      omega
    obtain ⟨τ, hτ⟩ : ∃ τ, grow (grow (cApp σ L Bt 20) 330 (fAp (σ 330) L Bt 20)) 323 (rup (σ 323) 8 (σ 2 1 + 20)) = τ := ⟨_, rfl⟩
    rw [hτ]
    have t2 : τ 2 1 = iN (L + 20) := by
      rw [← hτ, grow_ne (by decide), grow_ne (by decide), cApp_2]
    have t3 : τ 3 = fAp (σ 3) L Bt 20 := by
      rw [← hτ, grow_ne (by decide), grow_ne (by decide)]
      unfold cApp
      rw [grow_ne (by decide), grow_at]
    have t330 : τ 330 = fAp (σ 330) L Bt 20 := by rw [← hτ, grow_ne (by decide), grow_at]
    have t323 : τ 323 = rup (σ 323) 8 (σ 2 1 + 20) := by rw [← hτ, grow_at]
    refine GR_tap h (fun q q2 q3 q4 q5 => ?_) (fun j hj => by rw [t323, rup_ne hj]) ⟨?_, ?_, fun i hi2 => ?_⟩
    · rw [← hτ, grow_ne q4, grow_ne q5]
      unfold cApp
      rw [grow_ne q2, grow_ne q3]
    · rw [t2]
      exact ⟨(iN_le (k := 0) (by decide) (by omega)).mpr (by omega), (iN_le (m := 1000) (by omega) (by decide)).mpr (by omega)⟩
    · rw [t2, t323, rup_at, eL, show (20 : Int32) = iN 20 from rfl, iN_add]
    · rw [t2, iN_nat (by omega)] at hi2
      rw [t330, t3]
      unfold fAp
      by_cases q : L ≤ i ∧ i < L + 20
      · rw [if_pos q, if_pos q]
      · rw [if_neg q, if_neg q]
        exact hT i (by omega)
def clU (σ : gS) (n : Int32) : gS := if 0 ≤ n ∧ n ≤ σ 2 1 then gup σ 2 1 (σ 2 1 - n) else σ
