theorem tv_58 : gTv 58 := by unfold gTv; decide +kernel
theorem cAdm_far {σ : gS} {p w q : Nat} (h7 : 0 ≤ σ p 7 ∧ σ p 7 < 20) (h : q < p ∨ p + 24 ≤ q) : cAdm σ p w q = σ q := by
  have l := n20 h7
  funext j
  unfold cAdm
  rw [gup_ne (by omega), cCnt_off (by omega)]
  show (if q = p + 2 + (σ p 7).toNatClampNeg ∧ j < 10 then _ else _) = _
  rw [if_neg (by omega)]
abbrev okK (σ : gS) (x k f w s : Int32) : Prop := (((isS (cR σ 6) x ∧ (0 ≤ k ∧ k ≤ 1)) ∧ (0 ≤ f ∧ f ≤ 9)) ∧ (0 ≤ w ∧ w ≤ 99)) ∧ (1 ≤ s ∧ s ≤ 99)
abbrev okF (σ : gS) (x k : Int32) : Prop := fWho (cR σ 6) x = -2 ∧ (k = 1 ∨ cR σ 6 1 ≤ x / 4)
set_option maxRecDepth 20000 in
theorem w112 {σ : gS} {K : gK} {x k f w s : Int32} (h : (((bI (isS (cR σ 6) x)) = 0 → K (some (.int (-1))) σ) ∧ (¬ (bI (isS (cR σ 6) x)) = 0 → (((bI ((0 : Int32) ≤ k ∧ k ≤ (1 : Int32))) = 0 → K (some (.int (-1))) σ) ∧ (¬ (bI ((0 : Int32) ≤ k ∧ k ≤ (1 : Int32))) = 0 → (((bI ((0 : Int32) ≤ f ∧ f ≤ (9 : Int32))) = 0 → K (some (.int (-1))) σ) ∧ (¬ (bI ((0 : Int32) ≤ f ∧ f ≤ (9 : Int32))) = 0 → (((bI ((0 : Int32) ≤ w ∧ w ≤ (99 : Int32))) = 0 → K (some (.int (-1))) σ) ∧ (¬ (bI ((0 : Int32) ≤ w ∧ w ≤ (99 : Int32))) = 0 → (((bI ((1 : Int32) ≤ s ∧ s ≤ (99 : Int32))) = 0 → K (some (.int (-1))) σ) ∧ (¬ (bI ((1 : Int32) ≤ s ∧ s ≤ (99 : Int32))) = 0 → (0 ≤ σ 2 1 ∧ σ 2 1 ≤ 1000) ∧ ((¬ (bI (cTN σ)) = 0 → ((((cBeg σ) 6 7) < 20 → (0 ≤ (cBeg σ) 6 7 ∧ (cBeg σ) 6 7 ≤ 20) ∧ (((bI (fWho (cR (cBeg σ) 6) x = -2)) = 0 → K (some (.int (-4))) (cBeg σ)) ∧ (¬ (bI (fWho (cR (cBeg σ) 6) x = -2)) = 0 → ((¬ (bI (k = 1 ∨ cR (cBeg σ) 6 1 ≤ x / 4)) = 0 → gE 112 105 [some (.ref 0), some (.int x), some (.int k), some (.int f), some (.int w), some (.int s), none] [] (cBeg σ) K) ∧ ((bI (k = 1 ∨ cR (cBeg σ) 6 1 ≤ x / 4)) = 0 → K (some (.int (-4))) (cBeg σ)))))) ∧ (¬ ((cBeg σ) 6 7) < 20 → K (some (.int (-3))) (cBeg σ)))) ∧ ((bI (cTN σ)) = 0 → K (some (.int (-1))) (cBeg σ)))))))))))))) : gE 112 0 [some (.ref 0), some (.int x), some (.int k), some (.int f), some (.int w), some (.int s), none] [] σ K :=
  gw_run (cy := 112) (cuts := [105, 123, 188]) (inl := []) (pf := gpdl) gpdl_ok 400 (by decide) h
set_option maxRecDepth 20000 in
theorem c112_105 {σ : gS} {K : gK} {l1 l2 l3 l4 l5 : Int32} (h : (bPa σ ∧ (0 ≤ σ 6 7 ∧ σ 6 7 ≤ 20)) ∧ gTv 58 ∧ (gTv 58) ∧ gE 112 123 [some (.ref 0), some (.int l1), some (.int l2), some (.int l3), some (.int l4), some (.int l5), none] [] (cZr (cRem σ) 58) K) : gE 112 105 [some (.ref 0), some (.int l1), some (.int l2), some (.int l3), some (.int l4), some (.int l5), none] [] σ K :=
  gw_run (cy := 112) (cuts := [105, 123, 188]) (inl := []) (pf := gpdl) gpdl_ok 400 (by decide) h
set_option maxRecDepth 20000 in
theorem c112_123 {σ : gS} {K : gK} {l1 l2 l3 l4 l5 : Int32} (h : (0 ≤ σ 2 1 ∧ σ 2 1 ≤ 1000) ∧ gTv 58 ∧ gTv 58 ∧ gTv 58 ∧ gTv 58 ∧ gTv 58 ∧ gTv 58 ∧ gE 112 188 [some (.ref 0), some (.int l1), some (.int l2), some (.int l3), some (.int l4), some (.int l5), some (.int ((gup (gup (gup (gup (gup (gup (cBeg σ) 58 0 (cNam σ)) 58 1 l1) 58 2 l2) 58 3 l3) 58 8 l4) 58 9 l5) 6 7))] [] (gup (gup (gup (gup (gup (gup (cBeg σ) 58 0 (cNam σ)) 58 1 l1) 58 2 l2) 58 3 l3) 58 8 l4) 58 9 l5) K) : gE 112 123 [some (.ref 0), some (.int l1), some (.int l2), some (.int l3), some (.int l4), some (.int l5), none] [] σ K :=
  gw_run (cy := 112) (cuts := [105, 123, 188]) (inl := []) (pf := gpdl) gpdl_ok 400 (by decide) h
set_option maxRecDepth 20000 in
theorem c112_188 {σ : gS} {K : gK} {l1 l2 l3 l4 l5 l6 : Int32} (h : ((0 ≤ σ 6 7 ∧ σ 6 7 < 20) ∧ gTv 58) ∧ (bLg (cAdm σ 6 58) 30) ∧ K (some (.int l6)) (gup (cAdd (cAdm σ 6 58) (0 : Int32) l6 l1) 2 1 0)) : gE 112 188 [some (.ref 0), some (.int l1), some (.int l2), some (.int l3), some (.int l4), some (.int l5), some (.int l6)] [] σ K :=
  gw_run (cy := 112) (cuts := [105, 123, 188]) (inl := []) (pf := gpdl) gpdl_ok 400 (by decide) h
