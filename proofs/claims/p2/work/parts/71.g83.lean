-- text 83
/-! THE CLASS: a traveller is read, the end -/
theorem st_36 {σ : gS} {K : gK} (h : RK σ) (hK : gE 32 53 [some (.ref 1), some (.ref 32)] [] (rT σ) K) : gE 32 36 [some (.ref 1), some (.ref 32)] [] σ K := by
  unfold rT at hK
  refine c32_36 ⟨h, fun q => ?_, fun q => ?_⟩
  · have q := bI_0.mp q
    rw [if_neg q] at hK
    rw [if_neg q]
    exact hK
  · have q := rTh_y q
    rw [if_pos q] at hK
    rw [if_pos q]
    exact ⟨tv_4, hK⟩
theorem st_202 {σ : gS} {K : gK} (h : RK σ) (h7 : 0 ≤ σ 32 7 ∧ σ 32 7 < 20) (hK : K none (rZ σ)) : gE 32 202 [some (.ref 1), some (.ref 32)] [] σ K := by
  have no : ¬ (cB0 σ = 59 ∧ (σ 4 2 = 1 ∨ cR σ 32 1 ≤ σ 4 1 / 4)) → gE 32 237 [some (.ref 1), some (.ref 32)] [.ref 1] σ K := by
    intro q
    unfold rZ at hK
    rw [if_neg q] at hK
    have w : cPs σ 0 1 5 = 1 := by
      unfold cPs
      rw [if_neg (fun z => z.2 rfl), gup_at]
    refine c32_237 ⟨fun z => absurd rfl z, fun _ => c32_256 hK, fun z => ?_⟩
    rw [w] at z
    exact absurd z (by decide)
  refine c32_202 ⟨h.1.1.1, fun q => no (fun z => bI_0.mp q z.1), fun q => ⟨tv_4, tv_4, fun q2 => no (fun z => bI_0.mp q2 z.2), fun q2 => ?_⟩⟩
  have hb : cB0 σ = 59 := Decidable.not_not.mp (fun z => q (bI_0.mpr z))
  have ha : σ 4 2 = 1 ∨ cR σ 32 1 ≤ σ 4 1 / 4 := Decidable.not_not.mp (fun z => q2 (bI_0.mpr z))
  unfold rZ at hK
  rw [if_pos ⟨hb, ha⟩] at hK
  refine ⟨fun _ => h.1.1.2 (RK_sg h hb (by decide)), fun q3 => ?_, fun q3 => ⟨⟨?_, tv_4⟩, ?_⟩⟩
  · rw [if_neg q3] at hK
    exact c32_256 hK
  · rw [cPs_far (by decide)]
    exact h7
  · rw [if_pos q3] at hK
    exact c32_256 hK
