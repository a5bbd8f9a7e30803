theorem s86_32 {σ : gS} {K : gK} {a b : Int32} (hc : isN σ 32 a ∧ isN σ 32 b ∧ TC σ 32) (hK : K (some (.int (fRise (cR σ 32) a.toNatClampNeg b.toNatClampNeg a.toNatClampNeg))) σ) : gE 86 0 [some (.ref 32), some (.int a), some (.int b), none, none] [] σ K := by
  obtain ⟨ha, hb, hT⟩ := hc
  obtain ⟨r1, t1, f1⟩ := cExS_ok hT ha.2 hb.2
  refine w86_32 ⟨⟨ha, hT⟩, ⟨ha.1, hb.1⟩, ⟨⟨ha.1, by rw [r1, nM_rsw]; exact ha.2⟩, t1⟩, ⟨ha.1, hb.1⟩, ?_⟩
  rw [cExS_bk hT ha.2 hb.2, r1]
  exact hK
noncomputable def f86 : gD := fun Lv σ => match Lv with
  | [some (.ref p), some (.int a), some (.int b), none, none] => cond (Nat.beq p 6 || Nat.beq p 32) (some (some (isN σ p a ∧ isN σ p b ∧ TC σ p), some (.int (fRise (cR σ p) a.toNatClampNeg b.toNatClampNeg a.toNatClampNeg)), σ)) none
  | _ => none
theorem ok86 : gFok 86 f86 := by
  intro Lv σ q h hc K hK
  unfold f86 at h
  split at h
  · rename_i p a b
    obtain ⟨hb, h⟩ := c_no h
    have hb0 := hb
    rcases s_or hb0 with hb0 | hb0
    · have e := b_eq hb0
      subst e
      cases h
      exact s86_6 (hc _ rfl) hK
    · have e := b_eq hb0
      subst e
      cases h
      exact s86_32 (hc _ rfl) hK
  · cases h
set_option maxRecDepth 20000 in
theorem w87_6 {σ : gS} {K : gK} {a b : Int32} (h : ((0 ≤ a ∧ a < 20) ∧ (0 ≤ b ∧ b < 20)) ∧ (TC (cExS σ 6 a.toNatClampNeg b.toNatClampNeg) 6) ∧ ((0 ≤ a ∧ a < 20) ∧ (0 ≤ b ∧ b < 20)) ∧ K (some (.int (fJa (cR (cExS σ 6 a.toNatClampNeg b.toNatClampNeg) 6)))) (cExS (cExS σ 6 a.toNatClampNeg b.toNatClampNeg) 6 a.toNatClampNeg b.toNatClampNeg)) : gE 87 0 [some (.ref 6), some (.int a), some (.int b), none] [] σ K :=
  gw_run (cy := 87) (cuts := []) (inl := []) (pf := gpck) gpck_ok 400 (by decide) h
theorem s87_6 {σ : gS} {K : gK} {a b : Int32} (hc : isN σ 6 a ∧ isN σ 6 b ∧ TC σ 6) (hK : K (some (.int (fJa (rsw (cR σ 6) a.toNatClampNeg b.toNatClampNeg)))) σ) : gE 87 0 [some (.ref 6), some (.int a), some (.int b), none] [] σ K := by
  obtain ⟨ha, hb, hT⟩ := hc
  obtain ⟨r1, t1, f1⟩ := cExS_ok hT ha.2 hb.2
  refine w87_6 ⟨⟨ha.1, hb.1⟩, t1, ⟨ha.1, hb.1⟩, ?_⟩
  rw [cExS_bk hT ha.2 hb.2, r1]
  exact hK
