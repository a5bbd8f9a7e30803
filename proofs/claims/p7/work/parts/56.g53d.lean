set_option maxRecDepth 20000 in
theorem w29 {σ : gS} {K : gK} (h : (0 ≤ σ 2 1 ∧ σ 2 1 ≤ 1000) ∧ ((¬ ((cBeg σ) 1 2) = 0 → ((0 : Int32) = 0 ∨ (0 : Int32) = 1) ∧ K (some (.int 0)) (cBeg σ)) ∧ (((cBeg σ) 1 2) = 0 → ((¬ ((cBeg σ) 1 3) = ((cBeg σ) 2 1) → ((0 : Int32) = 0 ∨ (0 : Int32) = 1) ∧ K (some (.int 0)) (cBeg σ)) ∧ (((cBeg σ) 1 3) = ((cBeg σ) 2 1) → (RW (cBeg σ)) ∧ (((bI (cNm (cBeg σ))) = 0 → ((0 : Int32) = 0 ∨ (0 : Int32) = 1) ∧ K (some (.int 0)) (cBeg σ)) ∧ (¬ (bI (cNm (cBeg σ))) = 0 → ((1 : Int32) = 0 ∨ (1 : Int32) = 1) ∧ K (some (.int 1)) (cBeg σ)))))))) : gE 29 0 [some (.ref 1)] [] σ K :=
  gw_run (cy := 29) (cuts := []) (inl := []) (pf := gpdk) gpdk_ok 400 (by decide) h
theorem s29 {σ : gS} {K : gK} (hc : 0 ≤ σ 2 1 ∧ σ 2 1 ≤ 1000) (hK : K (some (.int (bI (cTN σ)))) (cBeg σ)) : gE 29 0 [some (.ref 1)] [] σ K := by
  obtain ⟨hr, hE⟩ := cBeg_RW hc
  have yes : cTN σ → ((1 : Int32) = 0 ∨ (1 : Int32) = 1) ∧ K (some (.int 1)) (cBeg σ) := fun h => ⟨Or.inr rfl, by rw [bI_y h] at hK; exact hK⟩
  have no : ¬ cTN σ → ((0 : Int32) = 0 ∨ (0 : Int32) = 1) ∧ K (some (.int 0)) (cBeg σ) := fun h => ⟨Or.inl rfl, by rw [bI_n h] at hK; exact hK⟩
  refine w29 ⟨hc, ?_⟩
  exact ⟨fun h => no (fun q => h q.1), fun h => ⟨fun h2 => no (fun q => h2 q.2.1), fun h2 => ⟨hr, fun h3 => no (fun q => bI_0.mp h3 q.2.2), fun h3 => yes ⟨h, h2, Decidable.not_not.mp (fun q => h3 (bI_0.mpr q))⟩⟩⟩⟩
noncomputable def f29 : gD := fun Lv σ => match Lv with
  | [some (.ref q0)] => cond (Nat.beq q0 1) (some (some (0 ≤ σ 2 1 ∧ σ 2 1 ≤ 1000), some (.int (bI (cTN σ))), cBeg σ)) none
  | _ => none
theorem ok29 : gFok 29 f29 := by
  intro Lv σ q h hc K hK
  unfold f29 at h
  split at h
  · rename_i q0
    obtain ⟨hb, h⟩ := c_no h
    have hb0 := hb
    have e0 := b_eq hb0
    subst e0
    cases h
    exact s29 (hc _ rfl) hK
  · cases h
