/-! THE REFERENCE: the setup text is written -/
/-- what the writer leaves: at most b bytes are written, nothing else is touched -/
noncomputable def Wb (σ : gS) (b : Nat) (τ : gS) : Prop := (∀ q, ¬ q = 323 → ¬ q = 331 → τ q = σ q) ∧ (∀ j, ¬ j = 17 → τ 323 j = σ 323 j) ∧ ∃ v, v ≤ b ∧ τ 323 17 = iN v
noncomputable def Wf (σ τ : gS) : Prop := (∀ q, ¬ q = 323 → ¬ q = 331 → τ q = σ q) ∧ ∀ j, ¬ j = 17 → τ 323 j = σ 323 j
theorem Wb_f {σ τ : gS} {b : Nat} (h : Wb σ b τ) : Wf σ τ := ⟨h.1, h.2.1⟩
theorem Wb_m {σ τ : gS} {b b' : Nat} (h : Wb σ b τ) (hb : b ≤ b') : Wb σ b' τ := by
  obtain ⟨h1, h2, v, hv, e⟩ := h
  exact ⟨h1, h2, v, by omega, e⟩
