/-! RELATION: a traveller is read by both, the parts that may stand -/
theorem cPs_0 {σ : gS} {c : Int32} (h : cPs σ c 1 5 = 0) : σ 1 5 = 0 ∧ ¬ c = 0 := by
  unfold cPs at h
  by_cases q : σ 1 5 = 0 ∧ ¬ c = 0
  · exact q
  · rw [if_neg q, gup_at] at h
    exact absurd h (by decide)
theorem PQ_no {T : gW} {L : Nat} {σ τ : gS} (h : PQ T L σ τ) (h0 : σ 1 5 = 0) : τ 323 15 = 0 ∧ ∃ n, PT T L n σ τ := by
  obtain ⟨hc, ⟨w, f, ht⟩ | ⟨w, f, he⟩⟩ := h
  · exact ⟨f.1, ht⟩
  · exact absurd h0 w
theorem cNu_b {σ : gS} {a b : Int32} (ha : 0 ≤ a) (h : a ≤ cNu σ ∧ cNu σ ≤ b) : ¬ σ 1 4 = 0 := by
  have k : ¬ cNu σ = -1 := fun e => by
    have := h.1
    rw [e] at this
    exact absurd (Int32.le_trans ha this) (by decide)
  rw [cNu_k k]
  decide
/-- bounds of a traveller's numbers -/
noncomputable def PB (f : Nat) (x : Int32) : Prop := (f = 0 → 0 ≤ x ∧ x < 40) ∧ (f = 1 → x = 0 ∨ x = 1) ∧ (f = 2 → 0 ≤ x ∧ x ≤ 9) ∧ (f = 3 → -9 ≤ x ∧ x ≤ 9) ∧ (f = 4 → -9 ≤ x ∧ x ≤ 9) ∧ (f = 5 → 0 ≤ x ∧ x ≤ 9) ∧ (f = 6 → 0 ≤ x ∧ x ≤ 3) ∧ (f = 7 → 0 ≤ x ∧ x ≤ 99)
noncomputable def PW (n : Nat) (x : Int32) (R : gW) (σ τ : gS) : Prop := (∀ j, (j < 9 + 10 * n ∨ 9 + 10 * n + 10 ≤ j) → τ 325 j = R j) ∧ (∀ f, f < 9 → τ 325 (9 + 10 * n + f) = σ 4 (f + 1) ∧ PB f (σ 4 (f + 1))) ∧ nmR (σ 4 0) (τ 325 (9 + 10 * n + 9)) ∧ σ 4 1 = x
theorem PW_cg {n : Nat} {x : Int32} {R : gW} {σ τ σ' τ' : gS} (h : PW n x R σ τ) (h1 : σ' 4 = σ 4) (h2 : τ' 325 = τ 325) : PW n x R σ' τ' := by
  unfold PW at *
  rw [h1, h2]
  exact h
theorem PW_set {n f : Nat} {x v : Int32} {R : gW} {σ τ : gS} (h : PW n x R σ τ) (hf : 1 ≤ f) (hf2 : f < 9) (hv : PB f v) : PW n x R (gup σ 4 (f + 1) v) (gup τ 325 (9 + 10 * n + f) v) := by
  obtain ⟨h1, h2, h3, h4⟩ := h
  refine ⟨fun j hj => ?_, fun g hg => ?_, ?_, ?_⟩
  · rw [gup_ne (by omega)]
    exact h1 j hj
  · by_cases e : g = f
    · subst e
      rw [gup_at, gup_at]
      exact ⟨rfl, hv⟩
    · rw [gup_ne (by omega), gup_ne (by omega)]
      exact h2 g hg
  · rw [gup_ne (by omega), gup_ne (by omega)]
    exact h3
  · rw [gup_ne (by omega)]
    exact h4
/-- both are in the midst of a traveller -/
noncomputable def PS (T : gW) (L n : Nat) (x : Int32) (R : gW) (σ τ : gS) : Prop := PQ T L σ τ ∧ (σ 1 5 = 0 → PW n x R σ τ)
theorem PQ_4 {T : gW} {L j : Nat} {σ τ : gS} {v : Int32} (h : PQ T L σ τ) : PQ T L (gup σ 4 j v) τ := PQ_cg h (funext fun i => gup_ne (by omega)) (funext fun i => gup_ne (by omega)) (funext fun i => gup_ne (by omega)) rfl rfl
theorem PQ_25 {T : gW} {L j : Nat} {σ τ : gS} {v : Int32} (h : PQ T L σ τ) : PQ T L σ (gup τ 325 j v) := PQ_cg h rfl rfl rfl (funext fun i => gup_ne (by omega)) (funext fun i => gup_ne (by omega))
theorem PQ_kw {T : gW} {L p : Nat} {w : Int32} {σ τ : gS} (h : PQ T L σ τ) (hk : ∀ n, PT T L n σ τ → (cWd σ (jW p) ↔ rIs τ w)) : (rTh σ p ↔ rTw τ w) ∧ (rTh σ p → PQ T L (cTok σ) (rNx τ)) := by
  obtain ⟨hc, ⟨w0, ⟨f, f9⟩, n, ht⟩ | ⟨w0, f, he⟩⟩ := h
  · have k := hk n ht
    refine ⟨⟨fun z => ⟨f, k.mp z.2⟩, fun z => ⟨w0, k.mpr z.2⟩⟩, fun z => ⟨PC_nx hc, Or.inl ⟨by rw [cTok_5]; exact w0, ⟨by rw [rNx_3 (by omega)]; exact f, by rw [rNx_3 (by omega)]; exact f9⟩, _, PT_nx hc ht ?_⟩⟩⟩
    rw [← ht.2.1.2.2, z.2.1]
    decide
  · exact ⟨⟨fun z => absurd z.1 w0, fun z => absurd z.1 f⟩, fun z => absurd z.1 w0⟩
theorem PB_1 {v : Int32} (h : v = 0 ∨ v = 1) : PB 1 v := by unfold PB; simp [h]
theorem PB_2 {v : Int32} (h : 1 ≤ v ∧ v ≤ 9) : PB 2 v := by
  have : 0 ≤ v ∧ v ≤ 9 := ⟨by have := h.1; grind, h.2⟩
  unfold PB; simp [this]
theorem PB_3 {v : Int32} (h : -9 ≤ v ∧ v ≤ 9) : PB 3 v := by unfold PB; simp [h]
theorem PB_4 {v : Int32} (h : -9 ≤ v ∧ v ≤ 9) : PB 4 v := by unfold PB; simp [h]
theorem PB_5 {v : Int32} (h : 0 ≤ v ∧ v ≤ 9) : PB 5 v := by unfold PB; simp [h]
theorem PB_6 {v : Int32} (h : 0 ≤ v ∧ v ≤ 3) : PB 6 v := by unfold PB; simp [h]
theorem PB_7 {v : Int32} (h : 0 ≤ v ∧ v ≤ 99) : PB 7 v := by unfold PB; simp [h]
theorem PB_8 {v : Int32} : PB 8 v := by unfold PB; simp
