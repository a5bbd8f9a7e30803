set_option maxRecDepth 20000 in
theorem w30 {σ : gS} {K : gK} (h : (0 ≤ σ 2 1 ∧ σ 2 1 ≤ 1000) ∧ (RW (cBeg σ) ∧ (0 ≤ (cBeg σ) 1 3 ∧ (cBeg σ) 1 3 ≤ 1001)) ∧ K (some (.int (cPk ((cBeg σ) 3) ((cBeg σ) 2 1).toNatClampNeg ((cBeg σ) 1 2).toNatClampNeg (min (((cBeg σ) 1 3).toNatClampNeg - ((cBeg σ) 1 2).toNatClampNeg) 5)))) (cBeg σ)) : gE 30 0 [some (.ref 1)] [] σ K :=
  gw_run (cy := 30) (cuts := []) (inl := []) (pf := gpdk) gpdk_ok 400 (by decide) h
theorem s30 {σ : gS} {K : gK} (hc : 0 ≤ σ 2 1 ∧ σ 2 1 ≤ 1000) (hK : K (some (.int (cNam σ))) (cBeg σ)) : gE 30 0 [some (.ref 1)] [] σ K := by
  exact w30 ⟨hc, cBeg_RW hc, hK⟩
noncomputable def f30 : gD := fun Lv σ => match Lv with
  | [some (.ref q0)] => cond (Nat.beq q0 1) (some (some (0 ≤ σ 2 1 ∧ σ 2 1 ≤ 1000), some (.int (cNam σ)), cBeg σ)) none
  | _ => none
theorem ok30 : gFok 30 f30 := by
  intro Lv σ q h hc K hK
  unfold f30 at h
  split at h
  · rename_i q0
    obtain ⟨hb, h⟩ := c_no h
    have hb0 := hb
    have e0 := b_eq hb0
    subst e0
    cases h
    exact s30 (hc _ rfl) hK
  · cases h
