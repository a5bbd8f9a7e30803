theorem ok84 : gFok 84 f84 := by
  intro Lv σ q h hc K hK
  unfold f84 at h
  split at h
  · rename_i p a b
    obtain ⟨hb, h⟩ := c_no h
    have hb0 := hb
    rcases s_or hb0 with hb0 | hb0
    · have e := b_eq hb0
      subst e
      cases h
      exact s84_6 (hc _ rfl) hK
    · have e := b_eq hb0
      subst e
      cases h
      exact s84_32 (hc _ rfl) hK
  · cases h
set_option maxRecDepth 20000 in
theorem w85_6 {σ : gS} {K : gK} {a b c : Int32} (h : (0 ≤ a ∧ a < 20) ∧ gTv (6 + 2 + a.toNatClampNeg) ∧ (0 ≤ b ∧ b < 20) ∧ gTv (6 + 2 + b.toNatClampNeg) ∧ (0 ≤ a ∧ a < 20) ∧ (0 ≤ c ∧ c < 20) ∧ gTv (6 + 2 + c.toNatClampNeg) ∧ (0 ≤ b ∧ b < 20) ∧ (0 ≤ c ∧ c < 20) ∧ K none (cSit (cSit (cSit σ 6 a.toNatClampNeg (σ (6 + 2 + b.toNatClampNeg) 1)) 6 b.toNatClampNeg ((cSit σ 6 a.toNatClampNeg (σ (6 + 2 + b.toNatClampNeg) 1)) (6 + 2 + c.toNatClampNeg) 1)) 6 c.toNatClampNeg (σ (6 + 2 + a.toNatClampNeg) 1))) : gE 85 0 [some (.ref 6), some (.int a), some (.int b), some (.int c), none] [] σ K :=
  gw_run (cy := 85) (cuts := []) (inl := []) (pf := gpcj) gpcj_ok 400 (by decide) h
theorem s85_6 {σ : gS} {K : gK} {a b c : Int32} (hc : (0 ≤ a ∧ a < 20) ∧ (0 ≤ b ∧ b < 20) ∧ (0 ≤ c ∧ c < 20)) (hK : K none (cPas σ 6 a.toNatClampNeg b.toNatClampNeg c.toNatClampNeg)) : gE 85 0 [some (.ref 6), some (.int a), some (.int b), some (.int c), none] [] σ K := by
  obtain ⟨ha, hb, hcc⟩ := hc
  exact w85_6 ⟨ha, tv_6 _ (n20 ha), hb, tv_6 _ (n20 hb), ha, hcc, tv_6 _ (n20 hcc), hb, hcc, hK⟩
set_option maxRecDepth 20000 in
theorem w85_32 {σ : gS} {K : gK} {a b c : Int32} (h : (0 ≤ a ∧ a < 20) ∧ gTv (32 + 2 + a.toNatClampNeg) ∧ (0 ≤ b ∧ b < 20) ∧ gTv (32 + 2 + b.toNatClampNeg) ∧ (0 ≤ a ∧ a < 20) ∧ (0 ≤ c ∧ c < 20) ∧ gTv (32 + 2 + c.toNatClampNeg) ∧ (0 ≤ b ∧ b < 20) ∧ (0 ≤ c ∧ c < 20) ∧ K none (cSit (cSit (cSit σ 32 a.toNatClampNeg (σ (32 + 2 + b.toNatClampNeg) 1)) 32 b.toNatClampNeg ((cSit σ 32 a.toNatClampNeg (σ (32 + 2 + b.toNatClampNeg) 1)) (32 + 2 + c.toNatClampNeg) 1)) 32 c.toNatClampNeg (σ (32 + 2 + a.toNatClampNeg) 1))) : gE 85 0 [some (.ref 32), some (.int a), some (.int b), some (.int c), none] [] σ K :=
  gw_run (cy := 85) (cuts := []) (inl := []) (pf := gpcj) gpcj_ok 400 (by decide) h
theorem s85_32 {σ : gS} {K : gK} {a b c : Int32} (hc : (0 ≤ a ∧ a < 20) ∧ (0 ≤ b ∧ b < 20) ∧ (0 ≤ c ∧ c < 20)) (hK : K none (cPas σ 32 a.toNatClampNeg b.toNatClampNeg c.toNatClampNeg)) : gE 85 0 [some (.ref 32), some (.int a), some (.int b), some (.int c), none] [] σ K := by
  obtain ⟨ha, hb, hcc⟩ := hc
  exact w85_32 ⟨ha, tv_32 _ (n20 ha), hb, tv_32 _ (n20 hb), ha, hcc, tv_32 _ (n20 hcc), hb, hcc, hK⟩
noncomputable def f85 : gD := fun Lv σ => match Lv with
  | [some (.ref p), some (.int a), some (.int b), some (.int c), none] => cond (Nat.beq p 6 || Nat.beq p 32) (some (some ((0 ≤ a ∧ a < 20) ∧ (0 ≤ b ∧ b < 20) ∧ (0 ≤ c ∧ c < 20)), none, cPas σ p a.toNatClampNeg b.toNatClampNeg c.toNatClampNeg)) none
  | _ => none
