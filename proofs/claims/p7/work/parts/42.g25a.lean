noncomputable def gpci_l : List (Nat × gD) := (61, f61) :: gpch_l
noncomputable def gpci : gP := gpl0 gpci_l
theorem gpci_ok : gPok gpci := gpl0_cons ok61 (gpch_ok)
set_option maxRecDepth 20000 in
theorem w83_6 {σ : gS} {K : gK} {t x : Int32} (h : (0 ≤ t ∧ t < 20) ∧ (gTv (6 + 2 + t.toNatClampNeg)) ∧ gTv (6 + 2 + t.toNatClampNeg) ∧ (gTv (6 + 2 + t.toNatClampNeg)) ∧ K none (cCnt (gup (cCnt σ 6 (6 + 2 + t.toNatClampNeg) ((-1) : Int32)) (6 + 2 + t.toNatClampNeg) 1 x) 6 (6 + 2 + t.toNatClampNeg) (1 : Int32))) : gE 83 0 [some (.ref 6), some (.int t), some (.int x), none] [] σ K :=
  gw_run (cy := 83) (cuts := []) (inl := []) (pf := gpci) gpci_ok 400 (by decide) h
theorem s83_6 {σ : gS} {K : gK} {t x : Int32} (hc : 0 ≤ t ∧ t < 20) (hK : K none (cSit σ 6 t.toNatClampNeg x)) : gE 83 0 [some (.ref 6), some (.int t), some (.int x), none] [] σ K := by
  have tv := tv_6 _ (n20 hc)
  exact w83_6 ⟨hc, tv, tv, tv, hK⟩
set_option maxRecDepth 20000 in
theorem w83_32 {σ : gS} {K : gK} {t x : Int32} (h : (0 ≤ t ∧ t < 20) ∧ (gTv (32 + 2 + t.toNatClampNeg)) ∧ gTv (32 + 2 + t.toNatClampNeg) ∧ (gTv (32 + 2 + t.toNatClampNeg)) ∧ K none (cCnt (gup (cCnt σ 32 (32 + 2 + t.toNatClampNeg) ((-1) : Int32)) (32 + 2 + t.toNatClampNeg) 1 x) 32 (32 + 2 + t.toNatClampNeg) (1 : Int32))) : gE 83 0 [some (.ref 32), some (.int t), some (.int x), none] [] σ K :=
  gw_run (cy := 83) (cuts := []) (inl := []) (pf := gpci) gpci_ok 400 (by decide) h
theorem s83_32 {σ : gS} {K : gK} {t x : Int32} (hc : 0 ≤ t ∧ t < 20) (hK : K none (cSit σ 32 t.toNatClampNeg x)) : gE 83 0 [some (.ref 32), some (.int t), some (.int x), none] [] σ K := by
  have tv := tv_32 _ (n20 hc)
  exact w83_32 ⟨hc, tv, tv, tv, hK⟩
noncomputable def f83 : gD := fun Lv σ => match Lv with
  | [some (.ref p), some (.int t), some (.int x), none] => cond (Nat.beq p 6 || Nat.beq p 32) (some (some (0 ≤ t ∧ t < 20), none, cSit σ p t.toNatClampNeg x)) none
  | _ => none
theorem ok83 : gFok 83 f83 := by
  intro Lv σ q h hc K hK
  unfold f83 at h
  split at h
  · rename_i p t x
    obtain ⟨hb, h⟩ := c_no h
    have hb0 := hb
    rcases s_or hb0 with hb0 | hb0
    · have e := b_eq hb0
      subst e
      cases h
      exact s83_6 (hc _ rfl) hK
    · have e := b_eq hb0
      subst e
      cases h
      exact s83_32 (hc _ rfl) hK
  · cases h
