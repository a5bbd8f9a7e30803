set_option maxRecDepth 20000 in
theorem w90_32 {σ : gS} {K : gK} {t x : Int32} (h : (0 ≤ σ 32 7 ∧ σ 32 7 ≤ 20) ∧ ((¬ (bI (fWho (cR σ 32) x = -2)) = 0 → (0 ≤ t ∧ t < 20) ∧ ((¬ (bI (fMay (cR σ 32) t.toNatClampNeg x)) = 0 → (((0 ≤ t ∧ t < 20) ∧ t.toNatClampNeg < nM (cR σ 32)) ∧ (0 ≤ x ∧ x < 40) ∧ TC σ 32) ∧ (((0 ≤ t ∧ t < 20) ∧ t.toNatClampNeg < nM (cR σ 32)) ∧ TC σ 32) ∧ ((¬ (fJoy (cR σ 32) t.toNatClampNeg x) < (fJo (cR σ 32) t.toNatClampNeg) → K (some (.int 0)) σ) ∧ ((fJoy (cR σ 32) t.toNatClampNeg x) < (fJo (cR σ 32) t.toNatClampNeg) → K (some (.int 6)) σ))) ∧ ((bI (fMay (cR σ 32) t.toNatClampNeg x)) = 0 → K (some (.int 1)) σ))) ∧ ((bI (fWho (cR σ 32) x = -2)) = 0 → K (some (.int 5)) σ))) : gE 90 0 [some (.ref 32), some (.int t), some (.int x)] [] σ K :=
  gw_run (cy := 90) (cuts := []) (inl := []) (pf := gpck) gpck_ok 400 (by decide) h
theorem s90_32 {σ : gS} {K : gK} {t x : Int32} (hc : isN σ 32 t ∧ (0 ≤ x ∧ x < 40) ∧ TC σ 32) (hK : K (some (.int (fWhyM (cR σ 32) t.toNatClampNeg x))) σ) : gE 90 0 [some (.ref 32), some (.int t), some (.int x)] [] σ K := by
  obtain ⟨ht, hx, hT⟩ := hc
  have h3 := hT.1
  have h7 : 0 ≤ σ 32 7 ∧ σ 32 7 ≤ 20 := by rw [← cR_3 σ 32]; exact h3
  have hw := fWho_c (cR σ 32) x h3
  unfold fWhyM at hK
  refine w90_32 ?_
  simp only [bI_0]
  grind
noncomputable def f90 : gD := fun Lv σ => match Lv with
  | [some (.ref p), some (.int t), some (.int x)] => cond (Nat.beq p 6 || Nat.beq p 32) (some (some (isN σ p t ∧ (0 ≤ x ∧ x < 40) ∧ TC σ p), some (.int (fWhyM (cR σ p) t.toNatClampNeg x)), σ)) none
  | _ => none
theorem ok90 : gFok 90 f90 := by
  intro Lv σ q h hc K hK
  unfold f90 at h
  split at h
  · rename_i p t x
    obtain ⟨hb, h⟩ := c_no h
    have hb0 := hb
    rcases s_or hb0 with hb0 | hb0
    · have e := b_eq hb0
      subst e
      cases h
      exact s90_6 (hc _ rfl) hK
    · have e := b_eq hb0
      subst e
      cases h
      exact s90_32 (hc _ rfl) hK
  · cases h
