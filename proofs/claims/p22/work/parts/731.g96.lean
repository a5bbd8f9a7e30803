-- text 96
/-! RELATION: a traveller is read by both, the parts that may stand -/
theorem cPs_0 {σ : gS} {c : Int32} (h : cPs σ c 1 5 = 0) : σ 1 5 = 0 ∧ ¬ c = 0 := by
  unfold cPs at h
  by_cases q : σ 1 5 = 0 ∧ ¬ c = 0
  · exact q
  · rw [if_neg q, gup_at] at h
    exact absurd h (by decide)
theorem PQ_no {T : gW} {L : Nat} {σ τ : gS} (h : PQ T L σ τ) (h0 : σ 1 5 = 0) : τ 323 15 = 0 ∧ ∃ n, PT T L n σ τ := by
  obtain ⟨hc, ⟨w, f, ht⟩ | ⟨w, f, he⟩⟩ := h
  · exact ⟨f.1, ht⟩
  · exact absurd h0 w
theorem cNu_b {σ : gS} {a b : Int32} (ha : 0 ≤ a) (h : a ≤ cNu σ ∧ cNu σ ≤ b) : ¬ σ 1 4 = 0 := by
  have k : ¬ cNu σ = -1 := fun e => by
    have := h.1
    rw [e] at this
    exact absurd (Int32.le_trans ha this) (by decide)
  rw [cNu_k k]
  decide
/-- both take a number -/
theorem PQ_int {T : gW} {L : Nat} {σ τ : gS} {a b : Int32} (h : PQ T L σ τ) (ha : 0 ≤ a) : PQ T L (cInt σ a b) (rTn τ a b) ∧ (cInt σ a b 1 5 = 0 → σ 1 5 = 0 ∧ (a ≤ cNu σ ∧ cNu σ ≤ b) ∧ rNm τ a b = cNu σ) := by
  refine ⟨PQ_pass h (fun _ n ht => (PT_ok h.1 ht ha).1) (fun _ q => cNu_b ha q), fun q => ?_⟩
  obtain ⟨q1, q2⟩ := cPs_0 q
  have q2 := Decidable.not_not.mp (fun z => q2 (bI_0.mpr z))
  obtain ⟨f, n, ht⟩ := PQ_no h q1
  obtain ⟨o1, o2⟩ := PT_ok (b := b) h.1 ht ha
  have o3 := o1.mp q2
  refine ⟨q1, q2, ?_⟩
  unfold rNm
  rw [if_pos ⟨f, o3⟩]
  exact o2 o3
/-- both take a like -/
theorem PQ_lk {T : gW} {L : Nat} {σ τ : gS} (h : PQ T L σ τ) : PQ T L (cInt (cLkH σ) 0 9) (rTn (rLk τ) 0 9) ∧ (cInt (cLkH σ) 0 9 1 5 = 0 → (-9 ≤ cLik σ ∧ cLik σ ≤ 9) ∧ rLi τ = cLik σ) := by
  have h2 : PQ T L (cLkH σ) (rLk τ) := by
    refine PQ_pass h (fun _ n ht => ?_) (fun w q => ?_)
    · obtain ⟨s1, s2, s3⟩ := PT_sg h.1 ht
      rw [s2, s3]
    · obtain ⟨f, n, ht⟩ := PQ_no h w
      intro z
      have z2 := (PT_end h.1 ht).mp z
      obtain ⟨s1, s2, s3⟩ := PT_sg h.1 ht
      rcases q with q | q
      · have := s3.mp q
        rw [z2] at this
        exact absurd this (by decide)
      · have := s2.mp q
        rw [z2] at this
        exact absurd this (by decide)
  obtain ⟨i1, i2⟩ := PQ_int (b := 9) h2 z00
  refine ⟨i1, fun q => ?_⟩
  obtain ⟨j1, j2, j3⟩ := i2 q
  obtain ⟨k1, k2⟩ := cPs_0 j1
  obtain ⟨f, n, ht⟩ := PQ_no h k1
  obtain ⟨s1, s2, s3⟩ := PT_sg h.1 ht
  unfold cLik rLi
  rw [j3]
  obtain ⟨v, hv⟩ : ∃ v, cNu (cLkH σ) = v := ⟨_, rfl⟩
  rw [hv] at j2 ⊢
  by_cases e : cB0 σ = 45
  · rw [if_pos e, if_pos (s3.mp e)]
    have := j2.1
    have := j2.2
    refine ⟨by grind, by grind⟩
  · rw [if_neg e, if_neg (fun z => e (s3.mpr z))]
    have := j2.1
    have := j2.2
    refine ⟨by grind, by grind⟩
/-- bounds of a traveller's numbers -/
noncomputable def PB (f : Nat) (x : Int32) : Prop := (f = 0 → 0 ≤ x ∧ x < 40) ∧ (f = 1 → x = 0 ∨ x = 1) ∧ (f = 2 → 0 ≤ x ∧ x ≤ 9) ∧ (f = 3 → -9 ≤ x ∧ x ≤ 9) ∧ (f = 4 → -9 ≤ x ∧ x ≤ 9) ∧ (f = 5 → 0 ≤ x ∧ x ≤ 9) ∧ (f = 6 → 0 ≤ x ∧ x ≤ 3) ∧ (f = 7 → 0 ≤ x ∧ x ≤ 99)
noncomputable def PW (n : Nat) (x : Int32) (R : gW) (σ τ : gS) : Prop := (∀ j, (j < 9 + 10 * n ∨ 9 + 10 * n + 10 ≤ j) → τ 325 j = R j) ∧ (∀ f, f < 9 → τ 325 (9 + 10 * n + f) = σ 4 (f + 1) ∧ PB f (σ 4 (f + 1))) ∧ nmR (σ 4 0) (τ 325 (9 + 10 * n + 9)) ∧ σ 4 1 = x
theorem PW_cg {n : Nat} {x : Int32} {R : gW} {σ τ σ' τ' : gS} (h : PW n x R σ τ) (h1 : σ' 4 = σ 4) (h2 : τ' 325 = τ 325) : PW n x R σ' τ' := by
  unfold PW at *
  rw [h1, h2]
  exact h
theorem PW_set {n f : Nat} {x v : Int32} {R : gW} {σ τ : gS} (h : PW n x R σ τ) (hf : 1 ≤ f) (hf2 : f < 9) (hv : PB f v) : PW n x R (gup σ 4 (f + 1) v) (gup τ 325 (9 + 10 * n + f) v) := by
  obtain ⟨h1, h2, h3, h4⟩ := h
  refine ⟨fun j hj => ?_, fun g hg => ?_, ?_, ?_⟩
  · rw [gup_ne (by omega)]
    exact h1 j hj
  · by_cases e : g = f
    · subst e
      rw [gup_at, gup_at]
      exact ⟨rfl, hv⟩
    · rw [gup_ne (by omega), gup_ne (by omega)]
      exact h2 g hg
  · rw [gup_ne (by omega), gup_ne (by omega)]
    exact h3
  · rw [gup_ne (by omega)]
    exact h4
/-- both are in the midst of a traveller -/
noncomputable def PS (T : gW) (L n : Nat) (x : Int32) (R : gW) (σ τ : gS) : Prop := PQ T L σ τ ∧ (σ 1 5 = 0 → PW n x R σ τ)
theorem PQ_4 {T : gW} {L j : Nat} {σ τ : gS} {v : Int32} (h : PQ T L σ τ) : PQ T L (gup σ 4 j v) τ := PQ_cg h (funext fun i => gup_ne (by omega)) (funext fun i => gup_ne (by omega)) (funext fun i => gup_ne (by omega)) rfl rfl
theorem PQ_25 {T : gW} {L j : Nat} {σ τ : gS} {v : Int32} (h : PQ T L σ τ) : PQ T L σ (gup τ 325 j v) := PQ_cg h rfl rfl rfl (funext fun i => gup_ne (by omega)) (funext fun i => gup_ne (by omega))
theorem PQ_kw {T : gW} {L p : Nat} {w : Int32} {σ τ : gS} (h : PQ T L σ τ) (hk : ∀ n, PT T L n σ τ → (cWd σ (jW p) ↔ rIs τ w)) : (rTh σ p ↔ rTw τ w) ∧ (rTh σ p → PQ T L (cTok σ) (rNx τ)) := by
  obtain ⟨hc, ⟨w0, ⟨f, f9⟩, n, ht⟩ | ⟨w0, f, he⟩⟩ := h
  · have k := hk n ht
    refine ⟨⟨fun z => ⟨f, k.mp z.2⟩, fun z => ⟨w0, k.mpr z.2⟩⟩, fun z => ⟨PC_nx hc, Or.inl ⟨by rw [cTok_5]; exact w0, ⟨by rw [rNx_3 (by omega)]; exact f, by rw [rNx_3 (by omega)]; exact f9⟩, _, PT_nx hc ht ?_⟩⟩⟩
    rw [← ht.2.1.2.2, z.2.1]
    decide
  · exact ⟨⟨fun z => absurd z.1 w0, fun z => absurd z.1 f⟩, fun z => absurd z.1 w0⟩
theorem PB_1 {v : Int32} (h : v = 0 ∨ v = 1) : PB 1 v := by unfold PB; simp [h]
theorem PB_2 {v : Int32} (h : 1 ≤ v ∧ v ≤ 9) : PB 2 v := by
  have : 0 ≤ v ∧ v ≤ 9 := ⟨by have := h.1; grind, h.2⟩
  unfold PB; simp [this]
theorem PB_3 {v : Int32} (h : -9 ≤ v ∧ v ≤ 9) : PB 3 v := by unfold PB; simp [h]
theorem PB_4 {v : Int32} (h : -9 ≤ v ∧ v ≤ 9) : PB 4 v := by unfold PB; simp [h]
theorem PB_5 {v : Int32} (h : 0 ≤ v ∧ v ≤ 9) : PB 5 v := by unfold PB; simp [h]
theorem PB_6 {v : Int32} (h : 0 ≤ v ∧ v ≤ 3) : PB 6 v := by unfold PB; simp [h]
theorem PB_7 {v : Int32} (h : 0 ≤ v ∧ v ≤ 99) : PB 7 v := by unfold PB; simp [h]
theorem PB_8 {v : Int32} : PB 8 v := by unfold PB; simp
theorem PS_T {T : gW} {L n : Nat} {x : Int32} {R : gW} {σ τ : gS} (h : PS T L n x R σ τ) : PS T L n x R (rT σ) (qT τ n) := by
  obtain ⟨hq, hw⟩ := h
  obtain ⟨k1, k2⟩ := PQ_kw hq (fun m ht => PT_1000004 hq.1 ht)
  unfold rT qT
  by_cases q : rTh σ 1000004
  · rw [if_pos q, if_pos (k1.mp q)]
    refine ⟨PQ_25 (PQ_4 (k2 q)), fun _ => PW_set (f := 1) (PW_cg (hw q.1) (cTok_far (by decide)) (rNx_far (by decide))) (by decide) (by decide) (PB_1 (Or.inr rfl))⟩
  · rw [if_neg q, if_neg (fun z => q (k1.mpr z))]
    exact ⟨hq, hw⟩
theorem PS_F {T : gW} {L n : Nat} {x : Int32} {R : gW} {σ τ : gS} (h : PS T L n x R σ τ) : PS T L n x R (rF σ) (qF τ n) := by
  obtain ⟨hq, hw⟩ := h
  obtain ⟨k1, k2⟩ := PQ_kw hq (fun m ht => PT_1000005 hq.1 ht)
  unfold rF qF
  by_cases q : rTh σ 1000005
  · rw [if_pos q, if_pos (k1.mp q)]
    obtain ⟨i1, i2⟩ := PQ_int (a := 1) (b := 9) (k2 q) (by decide)
    refine ⟨PQ_25 (PQ_4 i1), fun z => ?_⟩
    rw [gup_ne (by omega)] at z
    obtain ⟨j1, j2, j3⟩ := i2 z
    rw [j3]
    exact PW_set (f := 2) (PW_cg (hw q.1) (by rw [cInt_far (by decide), cTok_far (by decide)]) (by rw [rTn_far (by decide), rNx_far (by decide)])) (by decide) (by decide) (PB_2 j2)
  · rw [if_neg q, if_neg (fun z => q (k1.mpr z))]
    exact ⟨hq, hw⟩
theorem PS_S {T : gW} {L n : Nat} {x : Int32} {R : gW} {σ τ : gS} (h : PS T L n x R σ τ) : PS T L n x R (rS σ) (qS τ n) := by
  obtain ⟨hq, hw⟩ := h
  obtain ⟨k1, k2⟩ := PQ_kw hq (fun m ht => PT_1000009 hq.1 ht)
  unfold rS qS
  by_cases q : rTh σ 1000009
  · rw [if_pos q, if_pos (k1.mp q)]
    obtain ⟨i1, i2⟩ := PQ_int (a := 0) (b := 99) (k2 q) (by decide)
    refine ⟨PQ_25 (PQ_4 i1), fun z => ?_⟩
    rw [gup_ne (by omega)] at z
    obtain ⟨j1, j2, j3⟩ := i2 z
    rw [j3]
    exact PW_set (f := 7) (PW_cg (hw q.1) (by rw [cInt_far (by decide), cTok_far (by decide)]) (by rw [rTn_far (by decide), rNx_far (by decide)])) (by decide) (by decide) (PB_7 j2)
  · rw [if_neg q, if_neg (fun z => q (k1.mpr z))]
    exact ⟨hq, hw⟩
theorem PS_P {T : gW} {L n : Nat} {x : Int32} {R : gW} {σ τ : gS} (h : PS T L n x R σ τ) : PS T L n x R (rP σ) (qP τ n) := by
  obtain ⟨hq, hw⟩ := h
  obtain ⟨k1, k2⟩ := PQ_kw hq (fun m ht => PT_1000010 hq.1 ht)
  unfold rP qP
  by_cases q : rTh σ 1000010
  · rw [if_pos q, if_pos (k1.mp q)]
    obtain ⟨i1, i2⟩ := PQ_int (a := 1) (b := 99) (k2 q) (by decide)
    refine ⟨PQ_25 (PQ_4 i1), fun z => ?_⟩
    rw [gup_ne (by omega)] at z
    obtain ⟨j1, j2, j3⟩ := i2 z
    rw [j3]
    exact PW_set (f := 8) (PW_cg (hw q.1) (by rw [cInt_far (by decide), cTok_far (by decide)]) (by rw [rTn_far (by decide), rNx_far (by decide)])) (by decide) (by decide) (PB_8)
  · rw [if_neg q, if_neg (fun z => q (k1.mpr z))]
    exact ⟨hq, hw⟩
theorem PS_W {T : gW} {L n : Nat} {x : Int32} {R : gW} {σ τ : gS} (h : PS T L n x R σ τ) : PS T L n x R (rW σ) (qW τ n) := by
  obtain ⟨hq, hw⟩ := h
  obtain ⟨k1, k2⟩ := PQ_kw hq (fun m ht => PT_1000006 hq.1 ht)
  unfold rW qW
  by_cases q : rTh σ 1000006
  · rw [if_pos q, if_pos (k1.mp q)]
    obtain ⟨i1, i2⟩ := PQ_lk (k2 q)
    refine ⟨PQ_25 (PQ_4 i1), fun z => ?_⟩
    rw [gup_ne (by omega)] at z
    obtain ⟨j2, j3⟩ := i2 z
    rw [j3]
    exact PW_set (f := 3) (PW_cg (hw q.1) (by rw [cInt_far (by decide), cLkH_far (by decide), cTok_far (by decide)]) (by rw [rTn_far (by decide), rLk_far (by decide), rNx_far (by decide)])) (by decide) (by decide) (PB_3 j2)
  · rw [if_neg q, if_neg (fun z => q (k1.mpr z))]
    exact ⟨hq, hw⟩
theorem PS_Ah {T : gW} {L n : Nat} {x : Int32} {R : gW} {σ τ : gS} (h : PS T L n x R σ τ) : PS T L n x R (rAh σ) (qAh τ n) := by
  obtain ⟨hq, hw⟩ := h
  obtain ⟨k1, k2⟩ := PQ_kw hq (fun m ht => PT_1000007 hq.1 ht)
  unfold rAh qAh
  by_cases q : rTh σ 1000007
  · rw [if_pos q, if_pos (k1.mp q)]
    obtain ⟨i1, i2⟩ := PQ_lk (k2 q)
    refine ⟨PQ_25 (PQ_4 i1), fun z => ?_⟩
    rw [gup_ne (by omega)] at z
    obtain ⟨j2, j3⟩ := i2 z
    rw [j3]
    exact PW_set (f := 4) (PW_cg (hw q.1) (by rw [cInt_far (by decide), cLkH_far (by decide), cTok_far (by decide)]) (by rw [rTn_far (by decide), rLk_far (by decide), rNx_far (by decide)])) (by decide) (by decide) (PB_4 j2)
  · rw [if_neg q, if_neg (fun z => q (k1.mpr z))]
    exact ⟨hq, hw⟩
theorem PS_R {T : gW} {L n : Nat} {x : Int32} {R : gW} {σ τ : gS} (h : PS T L n x R σ τ) (hR : σ 1 5 = 0 → σ 32 4 = R 0 ∧ (2 ≤ R 0 ∧ R 0 ≤ 10)) : PS T L n x R (rR σ) (qR τ n) := by
  obtain ⟨hq, hw⟩ := h
  obtain ⟨k1, k2⟩ := PQ_kw hq (fun m ht => PT_1000008 hq.1 ht)
  unfold rR qR
  by_cases q : rTh σ 1000008
  · rw [if_pos q, if_pos (k1.mp q)]
    obtain ⟨r1, r2⟩ := hR q.1
    have w := hw q.1
    have e0 : τ 325 0 = R 0 := w.1 0 (by omega)
    obtain ⟨i1, i2⟩ := PQ_int (a := 0) (b := R 0 - 1) (k2 q) (by decide)
    unfold rR1 qR1
    rw [r1, e0]
    have p1 := PQ_25 (j := 9 + 10 * n + 5) (v := rNm (rNx τ) 0 (R 0 - 1)) (PQ_4 (j := 6) (v := cNu (cTok σ)) i1)
    obtain ⟨i3, i4⟩ := PQ_int (a := 0) (b := 3) p1 (by decide)
    refine ⟨PQ_25 (PQ_4 i3), fun z => ?_⟩
    rw [gup_ne (by omega)] at z
    obtain ⟨j1, j2, j3⟩ := i4 z
    rw [gup_ne (by omega)] at j1
    obtain ⟨l1, l2, l3⟩ := i2 j1
    rw [j3]
    rw [l3] at j3 ⊢
    have b9 : 0 ≤ cNu (cTok σ) ∧ cNu (cTok σ) ≤ 9 := ⟨l2.1, by have := l2.2; have := r2.1; have := r2.2; grind⟩
    refine PW_set (f := 6) (PW_cg (PW_set (f := 5) (PW_cg (hw q.1) (?_ : cInt (cTok σ) 0 (R 0 - 1) 4 = σ 4) (?_ : rTn (rNx τ) 0 (R 0 - 1) 325 = τ 325)) (by decide) (by decide) (PB_5 b9)) ?_ ?_) (by decide) (by decide) (PB_6 j2)
    · rw [cInt_far (by decide), cTok_far (by decide)]
    · rw [rTn_far (by decide), rNx_far (by decide)]
    · rw [cInt_far (by decide)]
    · rw [rTn_far (by decide)]
  · rw [if_neg q, if_neg (fun z => q (k1.mpr z))]
    exact ⟨hq, hw⟩
