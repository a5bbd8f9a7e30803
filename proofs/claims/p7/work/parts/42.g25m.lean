noncomputable def f88 : gD := fun Lv σ => match Lv with
  | [some (.ref p), some (.int a), some (.int b), some (.int x), none, none, none, none] => cond (Nat.beq p 6 || Nat.beq p 32) (some (some (isN σ p a ∧ isN σ p b ∧ TC σ p), some (.int (fWhy (cR σ p) a.toNatClampNeg b.toNatClampNeg x)), σ)) none
  | _ => none
theorem ok88 : gFok 88 f88 := by
  intro Lv σ q h hc K hK
  unfold f88 at h
  split at h
  · rename_i p a b x
    obtain ⟨hb, h⟩ := c_no h
    have hb0 := hb
    rcases s_or hb0 with hb0 | hb0
    · have e := b_eq hb0
      subst e
      cases h
      exact s88_6 (hc _ rfl) hK
    · have e := b_eq hb0
      subst e
      cases h
      exact s88_32 (hc _ rfl) hK
  · cases h
set_option maxRecDepth 20000 in
theorem w90_6 {σ : gS} {K : gK} {t x : Int32} (h : (0 ≤ σ 6 7 ∧ σ 6 7 ≤ 20) ∧ ((¬ (bI (fWho (cR σ 6) x = -2)) = 0 → (0 ≤ t ∧ t < 20) ∧ ((¬ (bI (fMay (cR σ 6) t.toNatClampNeg x)) = 0 → (((0 ≤ t ∧ t < 20) ∧ t.toNatClampNeg < nM (cR σ 6)) ∧ (0 ≤ x ∧ x < 40) ∧ TC σ 6) ∧ (((0 ≤ t ∧ t < 20) ∧ t.toNatClampNeg < nM (cR σ 6)) ∧ TC σ 6) ∧ ((¬ (fJoy (cR σ 6) t.toNatClampNeg x) < (fJo (cR σ 6) t.toNatClampNeg) → K (some (.int 0)) σ) ∧ ((fJoy (cR σ 6) t.toNatClampNeg x) < (fJo (cR σ 6) t.toNatClampNeg) → K (some (.int 6)) σ))) ∧ ((bI (fMay (cR σ 6) t.toNatClampNeg x)) = 0 → K (some (.int 1)) σ))) ∧ ((bI (fWho (cR σ 6) x = -2)) = 0 → K (some (.int 5)) σ))) : gE 90 0 [some (.ref 6), some (.int t), some (.int x)] [] σ K :=
  gw_run (cy := 90) (cuts := []) (inl := []) (pf := gpck) gpck_ok 400 (by decide) h
theorem s90_6 {σ : gS} {K : gK} {t x : Int32} (hc : isN σ 6 t ∧ (0 ≤ x ∧ x < 40) ∧ TC σ 6) (hK : K (some (.int (fWhyM (cR σ 6) t.toNatClampNeg x))) σ) : gE 90 0 [some (.ref 6), some (.int t), some (.int x)] [] σ K := by
  obtain ⟨ht, hx, hT⟩ := hc
  have h3 := hT.1
  have h7 : 0 ≤ σ 6 7 ∧ σ 6 7 ≤ 20 := by rw [← cR_3 σ 6]; exact h3
  have hw := fWho_c (cR σ 6) x h3
  unfold fWhyM at hK
  refine w90_6 ?_
  simp only [bI_0]
  grind
