theorem ok85 : gFok 85 f85 := by
  intro Lv σ q h hc K hK
  unfold f85 at h
  split at h
  · rename_i p a b c
    obtain ⟨hb, h⟩ := c_no h
    have hb0 := hb
    rcases s_or hb0 with hb0 | hb0
    · have e := b_eq hb0
      subst e
      cases h
      exact s85_6 (hc _ rfl) hK
    · have e := b_eq hb0
      subst e
      cases h
      exact s85_32 (hc _ rfl) hK
  · cases h
noncomputable def gpck_l : List (Nat × gD) := (84, f84) :: (85, f85) :: gpcj_l
noncomputable def gpck : gP := gpl0 gpck_l
theorem gpck_ok : gPok gpck := gpl0_cons ok84 (gpl0_cons ok85 (gpcj_ok))
set_option maxRecDepth 20000 in
theorem w86_6 {σ : gS} {K : gK} {a b : Int32} (h : (((0 ≤ a ∧ a < 20) ∧ a.toNatClampNeg < nM (cR σ 6)) ∧ TC σ 6) ∧ ((0 ≤ a ∧ a < 20) ∧ (0 ≤ b ∧ b < 20)) ∧ (((0 ≤ a ∧ a < 20) ∧ a.toNatClampNeg < nM (cR (cExS σ 6 a.toNatClampNeg b.toNatClampNeg) 6)) ∧ TC (cExS σ 6 a.toNatClampNeg b.toNatClampNeg) 6) ∧ ((0 ≤ a ∧ a < 20) ∧ (0 ≤ b ∧ b < 20)) ∧ K (some (.int ((fJo (cR (cExS σ 6 a.toNatClampNeg b.toNatClampNeg) 6) a.toNatClampNeg) - (fJo (cR σ 6) a.toNatClampNeg)))) (cExS (cExS σ 6 a.toNatClampNeg b.toNatClampNeg) 6 a.toNatClampNeg b.toNatClampNeg)) : gE 86 0 [some (.ref 6), some (.int a), some (.int b), none, none] [] σ K :=
  gw_run (cy := 86) (cuts := []) (inl := []) (pf := gpck) gpck_ok 400 (by decide) h
theorem s86_6 {σ : gS} {K : gK} {a b : Int32} (hc : isN σ 6 a ∧ isN σ 6 b ∧ TC σ 6) (hK : K (some (.int (fRise (cR σ 6) a.toNatClampNeg b.toNatClampNeg a.toNatClampNeg))) σ) : gE 86 0 [some (.ref 6), some (.int a), some (.int b), none, none] [] σ K := by
  obtain ⟨ha, hb, hT⟩ := hc
  obtain ⟨r1, t1, f1⟩ := cExS_ok hT ha.2 hb.2
  refine w86_6 ⟨⟨ha, hT⟩, ⟨ha.1, hb.1⟩, ⟨⟨ha.1, by rw [r1, nM_rsw]; exact ha.2⟩, t1⟩, ⟨ha.1, hb.1⟩, ?_⟩
  rw [cExS_bk hT ha.2 hb.2, r1]
  exact hK
set_option maxRecDepth 20000 in
theorem w86_32 {σ : gS} {K : gK} {a b : Int32} (h : (((0 ≤ a ∧ a < 20) ∧ a.toNatClampNeg < nM (cR σ 32)) ∧ TC σ 32) ∧ ((0 ≤ a ∧ a < 20) ∧ (0 ≤ b ∧ b < 20)) ∧ (((0 ≤ a ∧ a < 20) ∧ a.toNatClampNeg < nM (cR (cExS σ 32 a.toNatClampNeg b.toNatClampNeg) 32)) ∧ TC (cExS σ 32 a.toNatClampNeg b.toNatClampNeg) 32) ∧ ((0 ≤ a ∧ a < 20) ∧ (0 ≤ b ∧ b < 20)) ∧ K (some (.int ((fJo (cR (cExS σ 32 a.toNatClampNeg b.toNatClampNeg) 32) a.toNatClampNeg) - (fJo (cR σ 32) a.toNatClampNeg)))) (cExS (cExS σ 32 a.toNatClampNeg b.toNatClampNeg) 32 a.toNatClampNeg b.toNatClampNeg)) : gE 86 0 [some (.ref 32), some (.int a), some (.int b), none, none] [] σ K :=
  gw_run (cy := 86) (cuts := []) (inl := []) (pf := gpck) gpck_ok 400 (by decide) h
