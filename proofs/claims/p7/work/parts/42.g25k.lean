set_option maxRecDepth 20000 in
theorem w87_32 {σ : gS} {K : gK} {a b : Int32} (h : ((0 ≤ a ∧ a < 20) ∧ (0 ≤ b ∧ b < 20)) ∧ (TC (cExS σ 32 a.toNatClampNeg b.toNatClampNeg) 32) ∧ ((0 ≤ a ∧ a < 20) ∧ (0 ≤ b ∧ b < 20)) ∧ K (some (.int (fJa (cR (cExS σ 32 a.toNatClampNeg b.toNatClampNeg) 32)))) (cExS (cExS σ 32 a.toNatClampNeg b.toNatClampNeg) 32 a.toNatClampNeg b.toNatClampNeg)) : gE 87 0 [some (.ref 32), some (.int a), some (.int b), none] [] σ K :=
  gw_run (cy := 87) (cuts := []) (inl := []) (pf := gpck) gpck_ok 400 (by decide) h
theorem s87_32 {σ : gS} {K : gK} {a b : Int32} (hc : isN σ 32 a ∧ isN σ 32 b ∧ TC σ 32) (hK : K (some (.int (fJa (rsw (cR σ 32) a.toNatClampNeg b.toNatClampNeg)))) σ) : gE 87 0 [some (.ref 32), some (.int a), some (.int b), none] [] σ K := by
  obtain ⟨ha, hb, hT⟩ := hc
  obtain ⟨r1, t1, f1⟩ := cExS_ok hT ha.2 hb.2
  refine w87_32 ⟨⟨ha.1, hb.1⟩, t1, ⟨ha.1, hb.1⟩, ?_⟩
  rw [cExS_bk hT ha.2 hb.2, r1]
  exact hK
noncomputable def f87 : gD := fun Lv σ => match Lv with
  | [some (.ref p), some (.int a), some (.int b), none] => cond (Nat.beq p 6 || Nat.beq p 32) (some (some (isN σ p a ∧ isN σ p b ∧ TC σ p), some (.int (fJa (rsw (cR σ p) a.toNatClampNeg b.toNatClampNeg))), σ)) none
  | _ => none
theorem ok87 : gFok 87 f87 := by
  intro Lv σ q h hc K hK
  unfold f87 at h
  split at h
  · rename_i p a b
    obtain ⟨hb, h⟩ := c_no h
    have hb0 := hb
    rcases s_or hb0 with hb0 | hb0
    · have e := b_eq hb0
      subst e
      cases h
      exact s87_6 (hc _ rfl) hK
    · have e := b_eq hb0
      subst e
      cases h
      exact s87_32 (hc _ rfl) hK
  · cases h
set_option maxRecDepth 20000 in
theorem w88_6 {σ : gS} {K : gK} {a b x : Int32} (h : (0 ≤ b ∧ b < 20) ∧ gTv (6 + 2 + b.toNatClampNeg) ∧ (0 ≤ a ∧ a < 20) ∧ (((bI (fMay (cR σ 6) a.toNatClampNeg (σ (6 + 2 + b.toNatClampNeg) 1))) = 0 → K (some (.int 1)) σ) ∧ (¬ (bI (fMay (cR σ 6) a.toNatClampNeg (σ (6 + 2 + b.toNatClampNeg) 1))) = 0 → (0 ≤ a ∧ a < 20) ∧ gTv (6 + 2 + a.toNatClampNeg) ∧ (0 ≤ b ∧ b < 20) ∧ ((¬ (bI (fMay (cR σ 6) b.toNatClampNeg (σ (6 + 2 + a.toNatClampNeg) 1))) = 0 → (0 ≤ a ∧ a < 20) ∧ gTv (6 + 2 + a.toNatClampNeg) ∧ ((¬ (σ (6 + 2 + a.toNatClampNeg) 8) < x → (((0 ≤ a ∧ a < 20) ∧ a.toNatClampNeg < nM (cR σ 6)) ∧ TC σ 6) ∧ (((0 ≤ b ∧ b < 20) ∧ b.toNatClampNeg < nM (cR σ 6)) ∧ TC σ 6) ∧ ((0 ≤ a ∧ a < 20) ∧ (0 ≤ b ∧ b < 20)) ∧ (((0 ≤ a ∧ a < 20) ∧ a.toNatClampNeg < nM (cR (cExS σ 6 a.toNatClampNeg b.toNatClampNeg) 6)) ∧ TC (cExS σ 6 a.toNatClampNeg b.toNatClampNeg) 6) ∧ (((0 ≤ b ∧ b < 20) ∧ b.toNatClampNeg < nM (cR (cExS σ 6 a.toNatClampNeg b.toNatClampNeg) 6)) ∧ TC (cExS σ 6 a.toNatClampNeg b.toNatClampNeg) 6) ∧ ((0 ≤ a ∧ a < 20) ∧ (0 ≤ b ∧ b < 20)) ∧ ((¬ ((fJo (cR (cExS σ 6 a.toNatClampNeg b.toNatClampNeg) 6) a.toNatClampNeg) - (fJo (cR σ 6) a.toNatClampNeg)) < x → ((¬ ((fJo (cR (cExS σ 6 a.toNatClampNeg b.toNatClampNeg) 6) b.toNatClampNeg) - (fJo (cR σ 6) b.toNatClampNeg)) < (-x) → K (some (.int 0)) (cExS (cExS σ 6 a.toNatClampNeg b.toNatClampNeg) 6 a.toNatClampNeg b.toNatClampNeg)) ∧ (((fJo (cR (cExS σ 6 a.toNatClampNeg b.toNatClampNeg) 6) b.toNatClampNeg) - (fJo (cR σ 6) b.toNatClampNeg)) < (-x) → K (some (.int 4)) (cExS (cExS σ 6 a.toNatClampNeg b.toNatClampNeg) 6 a.toNatClampNeg b.toNatClampNeg)))) ∧ (((fJo (cR (cExS σ 6 a.toNatClampNeg b.toNatClampNeg) 6) a.toNatClampNeg) - (fJo (cR σ 6) a.toNatClampNeg)) < x → K (some (.int 3)) (cExS (cExS σ 6 a.toNatClampNeg b.toNatClampNeg) 6 a.toNatClampNeg b.toNatClampNeg)))) ∧ ((σ (6 + 2 + a.toNatClampNeg) 8) < x → K (some (.int 2)) σ))) ∧ ((bI (fMay (cR σ 6) b.toNatClampNeg (σ (6 + 2 + a.toNatClampNeg) 1))) = 0 → K (some (.int 1)) σ))))) : gE 88 0 [some (.ref 6), some (.int a), some (.int b), some (.int x), none, none, none, none] [] σ K :=
  gw_run (cy := 88) (cuts := []) (inl := []) (pf := gpck) gpck_ok 400 (by decide) h
