/-! THE CLASS: its calls -/
theorem cRem_far {σ : gS} {q : Nat} (h : q < 113 ∨ 323 ≤ q) (h7 : 0 ≤ σ 6 7 ∧ σ 6 7 ≤ 20) : cRem σ q = σ q := by
  have n7 := (c20 h7).2
  have hm : ((σ 113 1).toNatClampNeg + (σ 113 2).toNatClampNeg) % 8 < 8 := Nat.mod_lt _ (by decide)
  funext j
  unfold cRem cPl
  split
  · rw [gup_ne (by omega), cCo_far (by omega) n7]
  · rw [gup_ne (by omega), cCo_far (by omega) n7]
/-- the class's main train is sound -/
abbrev SC (σ : gS) : Prop := TC σ 6 ∧ bPa σ ∧ bLg σ 30 ∧ (2 ≤ cR σ 6 0 ∧ cR σ 6 0 ≤ 10)
theorem SC_7 {σ : gS} (h : SC σ) : 0 ≤ σ 6 7 ∧ σ 6 7 ≤ 20 := by rw [← cR_3 σ 6]; exact h.1.1
theorem isN_of {σ : gS} {t : Int32} (h3 : 0 ≤ cR σ 6 3 ∧ cR σ 6 3 ≤ 20) (h : isT (cR σ 6) t) : isN σ 6 t := by
  have ht := isT_of h3 h
  refine ⟨ht, ?_⟩
  obtain ⟨e, l⟩ := t20 ht
  have h2 : t < cR σ 6 3 := by have := h.2; have := h3.1; have := h3.2; grind
  rw [e] at h2
  exact (nM_lt h3 (by omega)).mp h2
theorem isS_of {R : gW} {x : Int32} (h0 : 2 ≤ R 0 ∧ R 0 ≤ 10) (h : isS R x) : 0 ≤ x ∧ x < 40 := by
  obtain ⟨h1, h2⟩ := h
  refine ⟨h1, ?_⟩
  have := h0.1
  have := h0.2
  grind
theorem SC_rem {σ : gS} (h : SC σ) : cR (cRem σ) 6 = cR σ 6 ∧ TC (cRem σ) 6 ∧ bLg (cRem σ) 30 := by
  have h7 := SC_7 h
  have f : ∀ q, q < 113 → cRem σ q = σ q := fun q hq => cRem_far (Or.inl hq) h7
  have e : cR (cRem σ) 6 = cR σ 6 := cR_blk (fun q q1 q2 => f q (by omega))
  obtain ⟨⟨t1, t2, t3⟩, -, hl, -⟩ := h
  refine ⟨e, ⟨by rw [e]; exact t1, by rw [e]; exact t2, ?_⟩, ?_⟩
  · intro a ha g hg
    rw [f _ (by decide), e]
    exact t3 a ha g hg
  · unfold bLg
    rw [f _ (by decide)]
    exact hl
theorem rsw_cm (R : gW) (a b : Nat) : rsw R a b = rsw R b a := by
  funext j
  rw [rsw_eq, rsw_eq]
  grind
theorem fWhy_c {R : gW} {a b : Nat} {x : Int32} : fWhy R a b x = 0 ∨ 0 < fWhy R a b x := by
  unfold fWhy
  split
  · exact Or.inr (by decide)
  · split
    · exact Or.inr (by decide)
    · split
      · exact Or.inr (by decide)
      · split
        · exact Or.inr (by decide)
        · exact Or.inl rfl
theorem fWhyM_c {R : gW} {a : Nat} {x : Int32} : fWhyM R a x = 0 ∨ 0 < fWhyM R a x := by
  unfold fWhyM
  split
  · exact Or.inr (by decide)
  · split
    · exact Or.inr (by decide)
    · split
      · exact Or.inr (by decide)
      · exact Or.inl rfl
theorem fWhyR_c {R : gW} {a b c : Nat} : fWhyR R a b c = 0 ∨ 0 < fWhyR R a b c := by
  unfold fWhyR
  split
  · exact Or.inr (by decide)
  · split
    · exact Or.inr (by decide)
    · split
      · exact Or.inr (by decide)
      · split
        · exact Or.inr (by decide)
        · exact Or.inl rfl
set_option maxRecDepth 20000 in
theorem w115 {σ : gS} {K : gK} {a b x : Int32} (h : (((bI (isP (cR σ 6) a b)) = 0 → K (some (.int (-1))) σ) ∧ (¬ (bI (isP (cR σ 6) a b)) = 0 → ((¬ (bI ((0 : Int32) ≤ x ∧ x ≤ (9 : Int32))) = 0 → (isN σ 6 a ∧ isN σ 6 b ∧ TC σ 6) ∧ (((fWhy (cR σ 6) a.toNatClampNeg b.toNatClampNeg x) = 0 → (isN σ 6 a ∧ isN σ 6 b ∧ TC σ 6) ∧ (isN σ 6 b ∧ isN σ 6 a ∧ TC σ 6) ∧ (bPa σ ∧ (0 ≤ σ 6 7 ∧ σ 6 7 ≤ 20)) ∧ ((isN (cRem σ) 6 a ∧ isN (cRem σ) 6 b) ∧ TC (cRem σ) 6 ∧ bLg (cRem σ) 30) ∧ K (some (.int (((fRise (cR σ 6) a.toNatClampNeg b.toNatClampNeg a.toNatClampNeg) + (fRise (cR σ 6) b.toNatClampNeg a.toNatClampNeg b.toNatClampNeg)) + 100))) (cDsw (cRem σ) a.toNatClampNeg b.toNatClampNeg x)) ∧ (¬ (fWhy (cR σ 6) a.toNatClampNeg b.toNatClampNeg x) = 0 → K (some (.int (-10 - (fWhy (cR σ 6) a.toNatClampNeg b.toNatClampNeg x)))) σ))) ∧ ((bI ((0 : Int32) ≤ x ∧ x ≤ (9 : Int32))) = 0 → K (some (.int (-1))) σ))))) : gE 115 0 [some (.ref 0), some (.int a), some (.int b), some (.int x), none, none] [] σ K :=
  gw_run (cy := 115) (cuts := []) (inl := []) (pf := gpcu) gpcu_ok 400 (by decide) h
theorem s115 {σ : gS} {K : gK} {a b x : Int32} (hc : SC σ) (hK : K (some (.int (aSwa (cR σ 6) a b x))) (if gSwa (cR σ 6) a b x then cDsw (cRem σ) a.toNatClampNeg b.toNatClampNeg x else σ)) : gE 115 0 [some (.ref 0), some (.int a), some (.int b), some (.int x), none, none] [] σ K := by
  obtain ⟨eR, tR, lR⟩ := SC_rem hc
  have h7 := SC_7 hc
  obtain ⟨hT, hP, hL, h0⟩ := hc
  unfold aSwa at hK
  have hz := fWhy_c (R := cR σ 6) (a := a.toNatClampNeg) (b := b.toNatClampNeg) (x := x)
  refine w115 ?_
  simp only [bI_0]
  have no : ¬ (isP (cR σ 6) a b ∧ 0 ≤ x ∧ x ≤ 9) → K (some (.int (-1))) σ := by
    intro q
    rw [if_neg q, if_neg (fun e => q e.1)] at hK
    exact hK
  refine ⟨fun h => no (fun q => h q.1), fun h => ⟨fun h1 => ?_, fun h1 => no (fun q => h1 q.2)⟩⟩
  have h := Decidable.not_not.mp h
  have h1 := Decidable.not_not.mp h1
  have na := isN_of hT.1 h.1.1
  have nb := isN_of hT.1 h.1.2
  rw [if_pos ⟨h, h1⟩] at hK
  refine ⟨⟨na, nb, hT⟩, fun h2 => ⟨⟨na, nb, hT⟩, ⟨nb, na, hT⟩, ⟨hP, h7⟩, ⟨⟨⟨na.1, by rw [eR]; exact na.2⟩, ⟨nb.1, by rw [eR]; exact nb.2⟩⟩, tR, lR⟩, ?_⟩, fun h2 => ?_⟩
  · have n2 : ¬ 0 < fWhy (cR σ 6) a.toNatClampNeg b.toNatClampNeg x := by rw [h2]; decide
    rw [if_neg n2, if_pos (show gSwa (cR σ 6) a b x from ⟨⟨h, h1⟩, n2⟩)] at hK
    have e : fRise (cR σ 6) b.toNatClampNeg a.toNatClampNeg b.toNatClampNeg = fRise (cR σ 6) a.toNatClampNeg b.toNatClampNeg b.toNatClampNeg := by
      unfold fRise
      rw [rsw_cm]
    rw [e]
    exact hK
  · have n2 : 0 < fWhy (cR σ 6) a.toNatClampNeg b.toNatClampNeg x := hz.resolve_left h2
    rw [if_pos n2, if_neg (show ¬ gSwa (cR σ 6) a b x from fun q => q.2 n2)] at hK
    exact hK
noncomputable def f115 : gD := fun Lv σ => match Lv with
  | [some (.ref q0), some (.int a), some (.int b), some (.int x), none, none] => cond (Nat.beq q0 0) (some (some (SC σ), some (.int (aSwa (cR σ 6) a b x)), if gSwa (cR σ 6) a b x then cDsw (cRem σ) a.toNatClampNeg b.toNatClampNeg x else σ)) none
  | _ => none
theorem ok115 : gFok 115 f115 := by
  intro Lv σ q h hc K hK
  unfold f115 at h
  split at h
  · rename_i q0 a b x
    obtain ⟨hb, h⟩ := c_no h
    have hb0 := hb
    have e0 := b_eq hb0
    subst e0
    cases h
    exact s115 (hc _ rfl) hK
  · cases h
set_option maxRecDepth 20000 in
theorem w116 {σ : gS} {K : gK} {a x : Int32} (h : (((bI (isT (cR σ 6) a)) = 0 → K (some (.int (-1))) σ) ∧ (¬ (bI (isT (cR σ 6) a)) = 0 → ((¬ (bI (isS (cR σ 6) x)) = 0 → (isN σ 6 a ∧ (0 ≤ x ∧ x < 40) ∧ TC σ 6) ∧ (((fWhyM (cR σ 6) a.toNatClampNeg x) = 0 → (((0 ≤ a ∧ a < 20) ∧ a.toNatClampNeg < nM (cR σ 6)) ∧ (0 ≤ x ∧ x < 40) ∧ TC σ 6) ∧ (((0 ≤ a ∧ a < 20) ∧ a.toNatClampNeg < nM (cR σ 6)) ∧ TC σ 6) ∧ (bPa σ ∧ (0 ≤ σ 6 7 ∧ σ 6 7 ≤ 20)) ∧ (isN (cRem σ) 6 a ∧ (0 ≤ x ∧ x < 40) ∧ TC (cRem σ) 6 ∧ bLg (cRem σ) 30) ∧ K (some (.int ((fJoy (cR σ 6) a.toNatClampNeg x) - (fJo (cR σ 6) a.toNatClampNeg)))) (cDmo (cRem σ) a.toNatClampNeg x)) ∧ (¬ (fWhyM (cR σ 6) a.toNatClampNeg x) = 0 → K (some (.int (-10 - (fWhyM (cR σ 6) a.toNatClampNeg x)))) σ))) ∧ ((bI (isS (cR σ 6) x)) = 0 → K (some (.int (-1))) σ))))) : gE 116 0 [some (.ref 0), some (.int a), some (.int x), none, none] [] σ K :=
  gw_run (cy := 116) (cuts := []) (inl := []) (pf := gpcu) gpcu_ok 400 (by decide) h
theorem s116 {σ : gS} {K : gK} {a x : Int32} (hc : SC σ) (hK : K (some (.int (aMov (cR σ 6) a x))) (if gMov (cR σ 6) a x then cDmo (cRem σ) a.toNatClampNeg x else σ)) : gE 116 0 [some (.ref 0), some (.int a), some (.int x), none, none] [] σ K := by
  obtain ⟨eR, tR, lR⟩ := SC_rem hc
  have h7 := SC_7 hc
  obtain ⟨hT, hP, hL, h0⟩ := hc
  unfold aMov at hK
  have hz := fWhyM_c (R := cR σ 6) (a := a.toNatClampNeg) (x := x)
  refine w116 ?_
  simp only [bI_0]
  have no : ¬ (isT (cR σ 6) a ∧ isS (cR σ 6) x) → K (some (.int (-1))) σ := by
    intro q
    rw [if_neg q, if_neg (fun e => q e.1)] at hK
    exact hK
  refine ⟨fun h => no (fun q => h q.1), fun h => ⟨fun h1 => ?_, fun h1 => no (fun q => h1 q.2)⟩⟩
  have h := Decidable.not_not.mp h
  have h1 := Decidable.not_not.mp h1
  have na := isN_of hT.1 h
  have nx := isS_of h0 h1
  rw [if_pos ⟨h, h1⟩] at hK
  refine ⟨⟨na, nx, hT⟩, fun h2 => ⟨⟨na, nx, hT⟩, ⟨na, hT⟩, ⟨hP, h7⟩, ⟨⟨na.1, by rw [eR]; exact na.2⟩, nx, tR, lR⟩, ?_⟩, fun h2 => ?_⟩
  · have n2 : ¬ 0 < fWhyM (cR σ 6) a.toNatClampNeg x := by rw [h2]; decide
    rw [if_neg n2, if_pos (show gMov (cR σ 6) a x from ⟨⟨h, h1⟩, n2⟩)] at hK
    exact hK
  · have n2 : 0 < fWhyM (cR σ 6) a.toNatClampNeg x := hz.resolve_left h2
    rw [if_pos n2, if_neg (show ¬ gMov (cR σ 6) a x from fun q => q.2 n2)] at hK
    exact hK
noncomputable def f116 : gD := fun Lv σ => match Lv with
  | [some (.ref q0), some (.int a), some (.int x), none, none] => cond (Nat.beq q0 0) (some (some (SC σ), some (.int (aMov (cR σ 6) a x)), if gMov (cR σ 6) a x then cDmo (cRem σ) a.toNatClampNeg x else σ)) none
  | _ => none
theorem ok116 : gFok 116 f116 := by
  intro Lv σ q h hc K hK
  unfold f116 at h
  split at h
  · rename_i q0 a x
    obtain ⟨hb, h⟩ := c_no h
    have hb0 := hb
    have e0 := b_eq hb0
    subst e0
    cases h
    exact s116 (hc _ rfl) hK
  · cases h
set_option maxRecDepth 20000 in
theorem w114 {σ : gS} {K : gK} {f : Int32} (h : ((¬ (bI ((0 : Int32) ≤ f ∧ f ≤ (σ 6 4))) = 0 → ((¬ f = (σ 6 5) → (0 ≤ σ 6 7 ∧ σ 6 7 ≤ 20 ∧ bT (cR σ 6)) ∧ ((¬ 0 < (fBar (cR σ 6) f) → (bPa σ ∧ (0 ≤ σ 6 7 ∧ σ 6 7 ≤ 20)) ∧ (bLg (gup (cRem σ) 6 5 f) 30) ∧ K (some (.int (σ 6 5))) (cAdd (gup (cRem σ) 6 5 f) (7 : Int32) (0 : Int32) (σ 6 5))) ∧ (0 < (fBar (cR σ 6) f) → K (some (.int (-4))) σ))) ∧ (f = (σ 6 5) → K (some (.int (-2))) σ))) ∧ ((bI ((0 : Int32) ≤ f ∧ f ≤ (σ 6 4))) = 0 → K (some (.int (-1))) σ))) : gE 114 0 [some (.ref 0), some (.int f), none] [] σ K :=
  gw_run (cy := 114) (cuts := []) (inl := []) (pf := gpcu) gpcu_ok 400 (by decide) h
theorem s114 {σ : gS} {K : gK} {f : Int32} (hc : SC σ) (hK : K (some (.int (aFir (cR σ 6) f))) (if gFir (cR σ 6) f then cAdd (gup (cRem σ) 6 5 f) 7 0 (σ 6 5) else σ)) : gE 114 0 [some (.ref 0), some (.int f), none] [] σ K := by
  obtain ⟨eR, tR, lR⟩ := SC_rem hc
  have h7 := SC_7 hc
  obtain ⟨hT, hP, hL, h0⟩ := hc
  have hb := hT.2.1
  have hl : bLg (gup (cRem σ) 6 5 f) 30 := by
    unfold bLg
    rw [gup_ne (by omega), gup_ne (by omega)]
    exact lR
  unfold aFir gFir at hK
  rw [cR_0, cR_1] at hK
  refine w114 ?_
  simp only [bI_0]
  grind
noncomputable def f114 : gD := fun Lv σ => match Lv with
  | [some (.ref q0), some (.int f), none] => cond (Nat.beq q0 0) (some (some (SC σ), some (.int (aFir (cR σ 6) f)), if gFir (cR σ 6) f then cAdd (gup (cRem σ) 6 5 f) 7 0 (σ 6 5) else σ)) none
  | _ => none
theorem ok114 : gFok 114 f114 := by
  intro Lv σ q h hc K hK
  unfold f114 at h
  split at h
  · rename_i q0 f
    obtain ⟨hb, h⟩ := c_no h
    have hb0 := hb
    have e0 := b_eq hb0
    subst e0
    cases h
    exact s114 (hc _ rfl) hK
  · cases h
noncomputable def gpcv_l : List (Nat × gD) := (115, f115) :: (116, f116) :: (114, f114) :: gpcu_l
noncomputable def gpcv : gP := gpl0 gpcv_l
theorem gpcv_ok : gPok gpcv := gpl0_cons ok115 (gpl0_cons ok116 (gpl0_cons ok114 (gpcu_ok)))
