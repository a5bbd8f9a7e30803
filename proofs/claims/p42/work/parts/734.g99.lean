/-! RELATION: a setup is read by both -/
theorem PQ_wr {T : gW} {L : Nat} {σ τ ρ : gS} (h : PQ T L σ τ) (hw : ¬ σ 1 5 = 0) (hp : WP σ ρ) (h2 : ρ 2 = σ 2) (h3 : ρ 3 = σ 3) : PQ T L ρ τ := by
  obtain ⟨hc, ⟨w, f, ht⟩ | ⟨w, f, he⟩⟩ := h
  · exact absurd w hw
  · obtain ⟨z1, z2⟩ := hp hw
    refine ⟨?_, Or.inr ⟨z1, f, by rw [z2]; exact he⟩⟩
    unfold PC at *
    rw [h2, h3]
    exact hc
noncomputable def HL (T : gW) (L n : Nat) (σ τ : gS) : Prop := PQ T L σ τ ∧ (σ 1 5 = 0 → SV σ 32 (τ 325) ∧ GD (99 * n) (τ 325) ∧ nM (τ 325) = n)
theorem PQ_fw {T : gW} {L : Nat} {σ τ : gS} (h : PQ T L σ τ) (hw : ¬ σ 1 5 = 0) : ¬ τ 323 15 = 0 ∧ τ 323 9 = σ 1 2 := by
  obtain ⟨hc, ⟨w, f, ht⟩ | ⟨w, f, he⟩⟩ := h
  · exact absurd w hw
  · exact ⟨f, he⟩
theorem PQ_f9 {T : gW} {L : Nat} {σ τ : gS} (h : PQ T L σ τ) (hw : σ 1 5 = 0) : τ 323 15 = 0 ∧ τ 323 9 = -2 := by
  obtain ⟨hc, ⟨w, f, ht⟩ | ⟨w, f, he⟩⟩ := h
  · exact f
  · exact absurd hw w
/-- how a setup ends: well in both, or wrong in both at the same place -/
noncomputable def FN (σ τ : gS) : Prop := ((σ 1 4 = 0 ∧ σ 1 5 = 0) ∧ (τ 323 15 = 0 ∧ τ 323 9 = -2) ∧ SV σ 32 (τ 325) ∧ GD 1980 (τ 325)) ∨ (¬ (σ 1 4 = 0 ∧ σ 1 5 = 0) ∧ ¬ τ 323 15 = 0 ∧ τ 323 9 = σ 1 2)
theorem cLp_w : ∀ (d : Nat) (σ : gS), ¬ σ 1 5 = 0 → cLp d σ = σ
  | 0, σ, _ => rfl
  | d + 1, σ, h => by unfold cLp; rw [if_pos (Or.inr h)]
theorem cLp_0 : ∀ (d : Nat) (σ : gS), σ 1 4 = 0 → cLp d σ = σ
  | 0, σ, _ => rfl
  | d + 1, σ, h => by unfold cLp; rw [if_pos (Or.inl h)]
theorem rLp_w : ∀ (d : Nat) (σ : gS), (¬ σ 323 15 = 0 ∨ ¬ rIs σ 377669) → rLp d σ = σ
  | 0, σ, _ => rfl
  | d + 1, σ, h => by unfold rLp; rw [if_pos h]
theorem FN_w {T : gW} {L d e : Nat} {σ τ : gS} (h : PQ T L σ τ) (w : ¬ σ 1 5 = 0) : FN (cLp d σ) (hEd (rLp e τ)) := by
  obtain ⟨f1, f2⟩ := PQ_fw h w
  rw [cLp_w d σ w, rLp_w e τ (Or.inl f1)]
  unfold hEd
  rw [if_neg (fun z => f1 z.1)]
  exact Or.inr ⟨fun z => w z.2, f1, f2⟩
