theorem s88_6 {σ : gS} {K : gK} {a b x : Int32} (hc : isN σ 6 a ∧ isN σ 6 b ∧ TC σ 6) (hK : K (some (.int (fWhy (cR σ 6) a.toNatClampNeg b.toNatClampNeg x))) σ) : gE 88 0 [some (.ref 6), some (.int a), some (.int b), some (.int x), none, none, none, none] [] σ K := by
  obtain ⟨ha, hb, hT⟩ := hc
  obtain ⟨r1, t1, f1⟩ := cExS_ok hT ha.2 hb.2
  have tva := tv_6 _ (n20 ha.1)
  have tvb := tv_6 _ (n20 hb.1)
  have ea := cR_f (σ := σ) (p := 6) (t := a.toNatClampNeg) (f := 0) (n20 ha.1) (by decide)
  have eb := cR_f (σ := σ) (p := 6) (t := b.toNatClampNeg) (f := 0) (n20 hb.1) (by decide)
  have e7 := cR_f (σ := σ) (p := 6) (t := a.toNatClampNeg) (f := 7) (n20 ha.1) (by decide)
  have na := ha.1
  have nb := hb.1
  have c1 : isN (cExS σ 6 a.toNatClampNeg b.toNatClampNeg) 6 a := ⟨ha.1, by rw [r1, nM_rsw]; exact ha.2⟩
  have c2 : isN (cExS σ 6 a.toNatClampNeg b.toNatClampNeg) 6 b := ⟨hb.1, by rw [r1, nM_rsw]; exact hb.2⟩
  unfold fWhy fRise at hK
  rw [ea, eb, e7, ← r1] at hK
  refine w88_6 ?_
  rw [cExS_bk hT ha.2 hb.2]
  simp only [bI_0]
  grind
set_option maxRecDepth 20000 in
theorem w88_32 {σ : gS} {K : gK} {a b x : Int32} (h : (0 ≤ b ∧ b < 20) ∧ gTv (32 + 2 + b.toNatClampNeg) ∧ (0 ≤ a ∧ a < 20) ∧ (((bI (fMay (cR σ 32) a.toNatClampNeg (σ (32 + 2 + b.toNatClampNeg) 1))) = 0 → K (some (.int 1)) σ) ∧ (¬ (bI (fMay (cR σ 32) a.toNatClampNeg (σ (32 + 2 + b.toNatClampNeg) 1))) = 0 → (0 ≤ a ∧ a < 20) ∧ gTv (32 + 2 + a.toNatClampNeg) ∧ (0 ≤ b ∧ b < 20) ∧ ((¬ (bI (fMay (cR σ 32) b.toNatClampNeg (σ (32 + 2 + a.toNatClampNeg) 1))) = 0 → (0 ≤ a ∧ a < 20) ∧ gTv (32 + 2 + a.toNatClampNeg) ∧ ((¬ (σ (32 + 2 + a.toNatClampNeg) 8) < x → (((0 ≤ a ∧ a < 20) ∧ a.toNatClampNeg < nM (cR σ 32)) ∧ TC σ 32) ∧ (((0 ≤ b ∧ b < 20) ∧ b.toNatClampNeg < nM (cR σ 32)) ∧ TC σ 32) ∧ ((0 ≤ a ∧ a < 20) ∧ (0 ≤ b ∧ b < 20)) ∧ (((0 ≤ a ∧ a < 20) ∧ a.toNatClampNeg < nM (cR (cExS σ 32 a.toNatClampNeg b.toNatClampNeg) 32)) ∧ TC (cExS σ 32 a.toNatClampNeg b.toNatClampNeg) 32) ∧ (((0 ≤ b ∧ b < 20) ∧ b.toNatClampNeg < nM (cR (cExS σ 32 a.toNatClampNeg b.toNatClampNeg) 32)) ∧ TC (cExS σ 32 a.toNatClampNeg b.toNatClampNeg) 32) ∧ ((0 ≤ a ∧ a < 20) ∧ (0 ≤ b ∧ b < 20)) ∧ ((¬ ((fJo (cR (cExS σ 32 a.toNatClampNeg b.toNatClampNeg) 32) a.toNatClampNeg) - (fJo (cR σ 32) a.toNatClampNeg)) < x → ((¬ ((fJo (cR (cExS σ 32 a.toNatClampNeg b.toNatClampNeg) 32) b.toNatClampNeg) - (fJo (cR σ 32) b.toNatClampNeg)) < (-x) → K (some (.int 0)) (cExS (cExS σ 32 a.toNatClampNeg b.toNatClampNeg) 32 a.toNatClampNeg b.toNatClampNeg)) ∧ (((fJo (cR (cExS σ 32 a.toNatClampNeg b.toNatClampNeg) 32) b.toNatClampNeg) - (fJo (cR σ 32) b.toNatClampNeg)) < (-x) → K (some (.int 4)) (cExS (cExS σ 32 a.toNatClampNeg b.toNatClampNeg) 32 a.toNatClampNeg b.toNatClampNeg)))) ∧ (((fJo (cR (cExS σ 32 a.toNatClampNeg b.toNatClampNeg) 32) a.toNatClampNeg) - (fJo (cR σ 32) a.toNatClampNeg)) < x → K (some (.int 3)) (cExS (cExS σ 32 a.toNatClampNeg b.toNatClampNeg) 32 a.toNatClampNeg b.toNatClampNeg)))) ∧ ((σ (32 + 2 + a.toNatClampNeg) 8) < x → K (some (.int 2)) σ))) ∧ ((bI (fMay (cR σ 32) b.toNatClampNeg (σ (32 + 2 + a.toNatClampNeg) 1))) = 0 → K (some (.int 1)) σ))))) : gE 88 0 [some (.ref 32), some (.int a), some (.int b), some (.int x), none, none, none, none] [] σ K :=
  gw_run (cy := 88) (cuts := []) (inl := []) (pf := gpck) gpck_ok 400 (by decide) h
theorem s88_32 {σ : gS} {K : gK} {a b x : Int32} (hc : isN σ 32 a ∧ isN σ 32 b ∧ TC σ 32) (hK : K (some (.int (fWhy (cR σ 32) a.toNatClampNeg b.toNatClampNeg x))) σ) : gE 88 0 [some (.ref 32), some (.int a), some (.int b), some (.int x), none, none, none, none] [] σ K := by
  obtain ⟨ha, hb, hT⟩ := hc
  obtain ⟨r1, t1, f1⟩ := cExS_ok hT ha.2 hb.2
  have tva := tv_32 _ (n20 ha.1)
  have tvb := tv_32 _ (n20 hb.1)
  have ea := cR_f (σ := σ) (p := 32) (t := a.toNatClampNeg) (f := 0) (n20 ha.1) (by decide)
  have eb := cR_f (σ := σ) (p := 32) (t := b.toNatClampNeg) (f := 0) (n20 hb.1) (by decide)
  have e7 := cR_f (σ := σ) (p := 32) (t := a.toNatClampNeg) (f := 7) (n20 ha.1) (by decide)
  have na := ha.1
  have nb := hb.1
  have c1 : isN (cExS σ 32 a.toNatClampNeg b.toNatClampNeg) 32 a := ⟨ha.1, by rw [r1, nM_rsw]; exact ha.2⟩
  have c2 : isN (cExS σ 32 a.toNatClampNeg b.toNatClampNeg) 32 b := ⟨hb.1, by rw [r1, nM_rsw]; exact hb.2⟩
  unfold fWhy fRise at hK
  rw [ea, eb, e7, ← r1] at hK
  refine w88_32 ?_
  rw [cExS_bk hT ha.2 hb.2]
  simp only [bI_0]
  grind
