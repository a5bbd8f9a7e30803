set_option maxRecDepth 20000 in
theorem w93_6 {σ : gS} {K : gK} {a b c : Int32} (h : (((0 ≤ a ∧ a < 20) ∧ a.toNatClampNeg < nM (cR σ 6)) ∧ TC σ 6) ∧ (((0 ≤ b ∧ b < 20) ∧ b.toNatClampNeg < nM (cR σ 6)) ∧ TC σ 6) ∧ (((0 ≤ c ∧ c < 20) ∧ c.toNatClampNeg < nM (cR σ 6)) ∧ TC σ 6) ∧ ((0 ≤ a ∧ a < 20) ∧ (0 ≤ b ∧ b < 20) ∧ (0 ≤ c ∧ c < 20)) ∧ (((0 ≤ a ∧ a < 20) ∧ a.toNatClampNeg < nM (cR (cPas σ 6 a.toNatClampNeg b.toNatClampNeg c.toNatClampNeg) 6)) ∧ TC (cPas σ 6 a.toNatClampNeg b.toNatClampNeg c.toNatClampNeg) 6) ∧ (((0 ≤ b ∧ b < 20) ∧ b.toNatClampNeg < nM (cR (cPas σ 6 a.toNatClampNeg b.toNatClampNeg c.toNatClampNeg) 6)) ∧ TC (cPas σ 6 a.toNatClampNeg b.toNatClampNeg c.toNatClampNeg) 6) ∧ (((0 ≤ c ∧ c < 20) ∧ c.toNatClampNeg < nM (cR (cPas σ 6 a.toNatClampNeg b.toNatClampNeg c.toNatClampNeg) 6)) ∧ TC (cPas σ 6 a.toNatClampNeg b.toNatClampNeg c.toNatClampNeg) 6) ∧ ((0 ≤ c ∧ c < 20) ∧ (0 ≤ b ∧ b < 20) ∧ (0 ≤ a ∧ a < 20)) ∧ K (some (.int ((((fJo (cR (cPas σ 6 a.toNatClampNeg b.toNatClampNeg c.toNatClampNeg) 6) a.toNatClampNeg) + (fJo (cR (cPas σ 6 a.toNatClampNeg b.toNatClampNeg c.toNatClampNeg) 6) b.toNatClampNeg)) + (fJo (cR (cPas σ 6 a.toNatClampNeg b.toNatClampNeg c.toNatClampNeg) 6) c.toNatClampNeg)) - (((fJo (cR σ 6) a.toNatClampNeg) + (fJo (cR σ 6) b.toNatClampNeg)) + (fJo (cR σ 6) c.toNatClampNeg))))) (cPas (cPas σ 6 a.toNatClampNeg b.toNatClampNeg c.toNatClampNeg) 6 c.toNatClampNeg b.toNatClampNeg a.toNatClampNeg)) : gE 93 0 [some (.ref 6), some (.int a), some (.int b), some (.int c), none, none] [] σ K :=
  gw_run (cy := 93) (cuts := []) (inl := []) (pf := gpck) gpck_ok 400 (by decide) h
theorem s93_6 {σ : gS} {K : gK} {a b c : Int32} (hc : (isN σ 6 a ∧ isN σ 6 b ∧ isN σ 6 c) ∧ (a.toNatClampNeg ≠ b.toNatClampNeg ∧ b.toNatClampNeg ≠ c.toNatClampNeg ∧ a.toNatClampNeg ≠ c.toNatClampNeg) ∧ TC σ 6) (hK : K (some (.int (fROR (cR σ 6) a.toNatClampNeg b.toNatClampNeg c.toNatClampNeg))) σ) : gE 93 0 [some (.ref 6), some (.int a), some (.int b), some (.int c), none, none] [] σ K := by
  obtain ⟨⟨ha, hb, hcc⟩, hd, hT⟩ := hc
  obtain ⟨r1, t1, f1⟩ := cPas_ok hT ha.2 hb.2 hcc.2 hd
  have c1 : isN (cPas σ 6 a.toNatClampNeg b.toNatClampNeg c.toNatClampNeg) 6 a := ⟨ha.1, by rw [r1, nM_rtu hd]; exact ha.2⟩
  have c2 : isN (cPas σ 6 a.toNatClampNeg b.toNatClampNeg c.toNatClampNeg) 6 b := ⟨hb.1, by rw [r1, nM_rtu hd]; exact hb.2⟩
  have c3 : isN (cPas σ 6 a.toNatClampNeg b.toNatClampNeg c.toNatClampNeg) 6 c := ⟨hcc.1, by rw [r1, nM_rtu hd]; exact hcc.2⟩
  refine w93_6 ⟨⟨ha, hT⟩, ⟨hb, hT⟩, ⟨hcc, hT⟩, ⟨ha.1, hb.1, hcc.1⟩, ⟨c1, t1⟩, ⟨c2, t1⟩, ⟨c3, t1⟩, ⟨hcc.1, hb.1, ha.1⟩, ?_⟩
  rw [cPas_bk hT ha.2 hb.2 hcc.2 hd, r1]
  have e : fROR (cR σ 6) a.toNatClampNeg b.toNatClampNeg c.toNatClampNeg = fJo (rtu (cR σ 6) a.toNatClampNeg b.toNatClampNeg c.toNatClampNeg) a.toNatClampNeg + fJo (rtu (cR σ 6) a.toNatClampNeg b.toNatClampNeg c.toNatClampNeg) b.toNatClampNeg + fJo (rtu (cR σ 6) a.toNatClampNeg b.toNatClampNeg c.toNatClampNeg) c.toNatClampNeg - (fJo (cR σ 6) a.toNatClampNeg + fJo (cR σ 6) b.toNatClampNeg + fJo (cR σ 6) c.toNatClampNeg) := by
    unfold fROR fRR
    grind
  rw [e] at hK
  exact hK
set_option maxRecDepth 20000 in
theorem w93_32 {σ : gS} {K : gK} {a b c : Int32} (h : (((0 ≤ a ∧ a < 20) ∧ a.toNatClampNeg < nM (cR σ 32)) ∧ TC σ 32) ∧ (((0 ≤ b ∧ b < 20) ∧ b.toNatClampNeg < nM (cR σ 32)) ∧ TC σ 32) ∧ (((0 ≤ c ∧ c < 20) ∧ c.toNatClampNeg < nM (cR σ 32)) ∧ TC σ 32) ∧ ((0 ≤ a ∧ a < 20) ∧ (0 ≤ b ∧ b < 20) ∧ (0 ≤ c ∧ c < 20)) ∧ (((0 ≤ a ∧ a < 20) ∧ a.toNatClampNeg < nM (cR (cPas σ 32 a.toNatClampNeg b.toNatClampNeg c.toNatClampNeg) 32)) ∧ TC (cPas σ 32 a.toNatClampNeg b.toNatClampNeg c.toNatClampNeg) 32) ∧ (((0 ≤ b ∧ b < 20) ∧ b.toNatClampNeg < nM (cR (cPas σ 32 a.toNatClampNeg b.toNatClampNeg c.toNatClampNeg) 32)) ∧ TC (cPas σ 32 a.toNatClampNeg b.toNatClampNeg c.toNatClampNeg) 32) ∧ (((0 ≤ c ∧ c < 20) ∧ c.toNatClampNeg < nM (cR (cPas σ 32 a.toNatClampNeg b.toNatClampNeg c.toNatClampNeg) 32)) ∧ TC (cPas σ 32 a.toNatClampNeg b.toNatClampNeg c.toNatClampNeg) 32) ∧ ((0 ≤ c ∧ c < 20) ∧ (0 ≤ b ∧ b < 20) ∧ (0 ≤ a ∧ a < 20)) ∧ K (some (.int ((((fJo (cR (cPas σ 32 a.toNatClampNeg b.toNatClampNeg c.toNatClampNeg) 32) a.toNatClampNeg) + (fJo (cR (cPas σ 32 a.toNatClampNeg b.toNatClampNeg c.toNatClampNeg) 32) b.toNatClampNeg)) + (fJo (cR (cPas σ 32 a.toNatClampNeg b.toNatClampNeg c.toNatClampNeg) 32) c.toNatClampNeg)) - (((fJo (cR σ 32) a.toNatClampNeg) + (fJo (cR σ 32) b.toNatClampNeg)) + (fJo (cR σ 32) c.toNatClampNeg))))) (cPas (cPas σ 32 a.toNatClampNeg b.toNatClampNeg c.toNatClampNeg) 32 c.toNatClampNeg b.toNatClampNeg a.toNatClampNeg)) : gE 93 0 [some (.ref 32), some (.int a), some (.int b), some (.int c), none, none] [] σ K :=
  gw_run (cy := 93) (cuts := []) (inl := []) (pf := gpck) gpck_ok 400 (by decide) h
theorem s93_32 {σ : gS} {K : gK} {a b c : Int32} (hc : (isN σ 32 a ∧ isN σ 32 b ∧ isN σ 32 c) ∧ (a.toNatClampNeg ≠ b.toNatClampNeg ∧ b.toNatClampNeg ≠ c.toNatClampNeg ∧ a.toNatClampNeg ≠ c.toNatClampNeg) ∧ TC σ 32) (hK : K (some (.int (fROR (cR σ 32) a.toNatClampNeg b.toNatClampNeg c.toNatClampNeg))) σ) : gE 93 0 [some (.ref 32), some (.int a), some (.int b), some (.int c), none, none] [] σ K := by
  obtain ⟨⟨ha, hb, hcc⟩, hd, hT⟩ := hc
  obtain ⟨r1, t1, f1⟩ := cPas_ok hT ha.2 hb.2 hcc.2 hd
  have c1 : isN (cPas σ 32 a.toNatClampNeg b.toNatClampNeg c.toNatClampNeg) 32 a := ⟨ha.1, by rw [r1, nM_rtu hd]; exact ha.2⟩
  have c2 : isN (cPas σ 32 a.toNatClampNeg b.toNatClampNeg c.toNatClampNeg) 32 b := ⟨hb.1, by rw [r1, nM_rtu hd]; exact hb.2⟩
  have c3 : isN (cPas σ 32 a.toNatClampNeg b.toNatClampNeg c.toNatClampNeg) 32 c := ⟨hcc.1, by rw [r1, nM_rtu hd]; exact hcc.2⟩
  refine w93_32 ⟨⟨ha, hT⟩, ⟨hb, hT⟩, ⟨hcc, hT⟩, ⟨ha.1, hb.1, hcc.1⟩, ⟨c1, t1⟩, ⟨c2, t1⟩, ⟨c3, t1⟩, ⟨hcc.1, hb.1, ha.1⟩, ?_⟩
  rw [cPas_bk hT ha.2 hb.2 hcc.2 hd, r1]
  have e : fROR (cR σ 32) a.toNatClampNeg b.toNatClampNeg c.toNatClampNeg = fJo (rtu (cR σ 32) a.toNatClampNeg b.toNatClampNeg c.toNatClampNeg) a.toNatClampNeg + fJo (rtu (cR σ 32) a.toNatClampNeg b.toNatClampNeg c.toNatClampNeg) b.toNatClampNeg + fJo (rtu (cR σ 32) a.toNatClampNeg b.toNatClampNeg c.toNatClampNeg) c.toNatClampNeg - (fJo (cR σ 32) a.toNatClampNeg + fJo (cR σ 32) b.toNatClampNeg + fJo (cR σ 32) c.toNatClampNeg) := by
    unfold fROR fRR
    grind
  rw [e] at hK
  exact hK
