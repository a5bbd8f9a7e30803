-- text 35
/-! THE CLASS: its calls -/
theorem cRem_far {σ : gS} {q : Nat} (h : q < 113 ∨ 323 ≤ q) (h7 : 0 ≤ σ 6 7 ∧ σ 6 7 ≤ 20) : cRem σ q = σ q := by
  have n7 := (c20 h7).2
  have hm : ((σ 113 1).toNatClampNeg + (σ 113 2).toNatClampNeg) % 8 < 8 := Nat.mod_lt _ (by decide)
  funext j
  unfold cRem cPl
  split
  · rw [gup_ne (by omega), cCo_far (by omega) n7]
  · rw [gup_ne (by omega), cCo_far (by omega) n7]
/-- the class's main train is sound -/
abbrev SC (σ : gS) : Prop := TC σ 6 ∧ bPa σ ∧ bLg σ 30 ∧ (2 ≤ cR σ 6 0 ∧ cR σ 6 0 ≤ 10)
theorem SC_7 {σ : gS} (h : SC σ) : 0 ≤ σ 6 7 ∧ σ 6 7 ≤ 20 := by rw [← cR_3 σ 6]; exact h.1.1
theorem isN_of {σ : gS} {t : Int32} (h3 : 0 ≤ cR σ 6 3 ∧ cR σ 6 3 ≤ 20) (h : isT (cR σ 6) t) : isN σ 6 t := by
  have ht := isT_of h3 h
  refine ⟨ht, ?_⟩
  obtain ⟨e, l⟩ := t20 ht
  have h2 : t < cR σ 6 3 := by have := h.2; have := h3.1; have := h3.2; grind
  rw [e] at h2
  exact (nM_lt h3 (by omega)).mp h2
theorem isS_of {R : gW} {x : Int32} (h0 : 2 ≤ R 0 ∧ R 0 ≤ 10) (h : isS R x) : 0 ≤ x ∧ x < 40 := by
  obtain ⟨h1, h2⟩ := h
  refine ⟨h1, ?_⟩
  have := h0.1
  have := h0.2
  grind
theorem SC_rem {σ : gS} (h : SC σ) : cR (cRem σ) 6 = cR σ 6 ∧ TC (cRem σ) 6 ∧ bLg (cRem σ) 30 := by
  have h7 := SC_7 h
  have f : ∀ q, q < 113 → cRem σ q = σ q := fun q hq => cRem_far (Or.inl hq) h7
  have e : cR (cRem σ) 6 = cR σ 6 := cR_blk (fun q q1 q2 => f q (by omega))
  obtain ⟨⟨t1, t2, t3⟩, -, hl, -⟩ := h
  refine ⟨e, ⟨by rw [e]; exact t1, by rw [e]; exact t2, ?_⟩, ?_⟩
  · intro a ha g hg
    rw [f _ (by decide), e]
    exact t3 a ha g hg
  · unfold bLg
    rw [f _ (by decide)]
    exact hl
theorem rsw_cm (R : gW) (a b : Nat) : rsw R a b = rsw R b a := by
  funext j
  rw [rsw_eq, rsw_eq]
  grind
theorem fWhy_c {R : gW} {a b : Nat} {x : Int32} : fWhy R a b x = 0 ∨ 0 < fWhy R a b x := by
  unfold fWhy
  split
  · exact Or.inr (by decide)
  · split
    · exact Or.inr (by decide)
    · split
      · exact Or.inr (by decide)
      · split
        · exact Or.inr (by decide)
        · exact Or.inl rfl
theorem fWhyM_c {R : gW} {a : Nat} {x : Int32} : fWhyM R a x = 0 ∨ 0 < fWhyM R a x := by
  unfold fWhyM
  split
  · exact Or.inr (by decide)
  · split
    · exact Or.inr (by decide)
    · split
      · exact Or.inr (by decide)
      · exact Or.inl rfl
theorem fWhyR_c {R : gW} {a b c : Nat} : fWhyR R a b c = 0 ∨ 0 < fWhyR R a b c := by
  unfold fWhyR
  split
  · exact Or.inr (by decide)
  · split
    · exact Or.inr (by decide)
    · split
      · exact Or.inr (by decide)
      · split
        · exact Or.inr (by decide)
        · exact Or.inl rfl
set_option maxRecDepth 20000 in
theorem w115 {σ : gS} {K : gK} {a b x : Int32} (h : (((bI (isP (cR σ 6) a b)) = 0 → K (some (.int (-1))) σ) ∧ (¬ (bI (isP (cR σ 6) a b)) = 0 → ((¬ (bI ((0 : Int32) ≤ x ∧ x ≤ (9 : Int32))) = 0 → (isN σ 6 a ∧ isN σ 6 b ∧ TC σ 6) ∧ (((fWhy (cR σ 6) a.toNatClampNeg b.toNatClampNeg x) = 0 → (isN σ 6 a ∧ isN σ 6 b ∧ TC σ 6) ∧ (isN σ 6 b ∧ isN σ 6 a ∧ TC σ 6) ∧ (bPa σ ∧ (0 ≤ σ 6 7 ∧ σ 6 7 ≤ 20)) ∧ ((isN (cRem σ) 6 a ∧ isN (cRem σ) 6 b) ∧ TC (cRem σ) 6 ∧ bLg (cRem σ) 30) ∧ K (some (.int (((fRise (cR σ 6) a.toNatClampNeg b.toNatClampNeg a.toNatClampNeg) + (fRise (cR σ 6) b.toNatClampNeg a.toNatClampNeg b.toNatClampNeg)) + 100))) (cDsw (cRem σ) a.toNatClampNeg b.toNatClampNeg x)) ∧ (¬ (fWhy (cR σ 6) a.toNatClampNeg b.toNatClampNeg x) = 0 → K (some (.int (-10 - (fWhy (cR σ 6) a.toNatClampNeg b.toNatClampNeg x)))) σ))) ∧ ((bI ((0 : Int32) ≤ x ∧ x ≤ (9 : Int32))) = 0 → K (some (.int (-1))) σ))))) : gE 115 0 [some (.ref 0), some (.int a), some (.int b), some (.int x), none, none] [] σ K :=
  gw_run (cy := 115) (cuts := []) (inl := []) (pf := gpcu) gpcu_ok 400 (by decide) h
theorem s115 {σ : gS} {K : gK} {a b x : Int32} (hc : SC σ) (hK : K (some (.int (aSwa (cR σ 6) a b x))) (if gSwa (cR σ 6) a b x then cDsw (cRem σ) a.toNatClampNeg b.toNatClampNeg x else σ)) : gE 115 0 [some (.ref 0), some (.int a), some (.int b), some (.int x), none, none] [] σ K := by
  obtain ⟨eR, tR, lR⟩ := SC_rem hc
  have h7 := SC_7 hc
  obtain ⟨hT, hP, hL, h0⟩ := hc
  unfold aSwa at hK
  have hz := fWhy_c (R := cR σ 6) (a := a.toNatClampNeg) (b := b.toNatClampNeg) (x := x)
  refine w115 ?_
  simp only [bI_0]
  have no : ¬ (isP (cR σ 6) a b ∧ 0 ≤ x ∧ x ≤ 9) → K (some (.int (-1))) σ := by
    intro q
    rw [if_neg q, if_neg (fun e => q e.1)] at hK
    exact hK
  refine ⟨fun h => no (fun q => h q.1), fun h => ⟨fun h1 => ?_, fun h1 => no (fun q => h1 q.2)⟩⟩
  have h := Decidable.not_not.mp h
  have h1 := Decidable.not_not.mp h1
  have na := isN_of hT.1 h.1.1
  have nb := isN_of hT.1 h.1.2
  rw [if_pos ⟨h, h1⟩] at hK
  refine ⟨⟨na, nb, hT⟩, fun h2 => ⟨⟨na, nb, hT⟩, ⟨nb, na, hT⟩, ⟨hP, h7⟩, ⟨⟨⟨na.1, by rw [eR]; exact na.2⟩, ⟨nb.1, by rw [eR]; exact nb.2⟩⟩, tR, lR⟩, ?_⟩, fun h2 => ?_⟩
  · have n2 : ¬ 0 < fWhy (cR σ 6) a.toNatClampNeg b.toNatClampNeg x := by rw [h2]; decide
    rw [if_neg n2, if_pos (show gSwa (cR σ 6) a b x from ⟨⟨h, h1⟩, n2⟩)] at hK
    have e : fRise (cR σ 6) b.toNatClampNeg a.toNatClampNeg b.toNatClampNeg = fRise (cR σ 6) a.toNatClampNeg b.toNatClampNeg b.toNatClampNeg := by
      unfold fRise
      rw [rsw_cm]
    rw [e]
    exact hK
  · have n2 : 0 < fWhy (cR σ 6) a.toNatClampNeg b.toNatClampNeg x := hz.resolve_left h2
    rw [if_pos n2, if_neg (show ¬ gSwa (cR σ 6) a b x from fun q => q.2 n2)] at hK
    exact hK
noncomputable def f115 : gD := fun Lv σ => match Lv with
  | [some (.ref q0), some (.int a), some (.int b), some (.int x), none, none] => cond (Nat.beq q0 0) (some (some (SC σ), some (.int (aSwa (cR σ 6) a b x)), if gSwa (cR σ 6) a b x then cDsw (cRem σ) a.toNatClampNeg b.toNatClampNeg x else σ)) none
  | _ => none
theorem ok115 : gFok 115 f115 := by
  intro Lv σ q h hc K hK
  unfold f115 at h
  split at h
  · rename_i q0 a b x
    obtain ⟨hb, h⟩ := c_no h
    have hb0 := hb
    have e0 := b_eq hb0
    subst e0
    cases h
    exact s115 (hc _ rfl) hK
  · cases h
set_option maxRecDepth 20000 in
theorem w116 {σ : gS} {K : gK} {a x : Int32} (h : (((bI (isT (cR σ 6) a)) = 0 → K (some (.int (-1))) σ) ∧ (¬ (bI (isT (cR σ 6) a)) = 0 → ((¬ (bI (isS (cR σ 6) x)) = 0 → (isN σ 6 a ∧ (0 ≤ x ∧ x < 40) ∧ TC σ 6) ∧ (((fWhyM (cR σ 6) a.toNatClampNeg x) = 0 → (((0 ≤ a ∧ a < 20) ∧ a.toNatClampNeg < nM (cR σ 6)) ∧ (0 ≤ x ∧ x < 40) ∧ TC σ 6) ∧ (((0 ≤ a ∧ a < 20) ∧ a.toNatClampNeg < nM (cR σ 6)) ∧ TC σ 6) ∧ (bPa σ ∧ (0 ≤ σ 6 7 ∧ σ 6 7 ≤ 20)) ∧ (isN (cRem σ) 6 a ∧ (0 ≤ x ∧ x < 40) ∧ TC (cRem σ) 6 ∧ bLg (cRem σ) 30) ∧ K (some (.int ((fJoy (cR σ 6) a.toNatClampNeg x) - (fJo (cR σ 6) a.toNatClampNeg)))) (cDmo (cRem σ) a.toNatClampNeg x)) ∧ (¬ (fWhyM (cR σ 6) a.toNatClampNeg x) = 0 → K (some (.int (-10 - (fWhyM (cR σ 6) a.toNatClampNeg x)))) σ))) ∧ ((bI (isS (cR σ 6) x)) = 0 → K (some (.int (-1))) σ))))) : gE 116 0 [some (.ref 0), some (.int a), some (.int x), none, none] [] σ K :=
  gw_run (cy := 116) (cuts := []) (inl := []) (pf := gpcu) gpcu_ok 400 (by decide) h
theorem s116 {σ : gS} {K : gK} {a x : Int32} (hc : SC σ) (hK : K (some (.int (aMov (cR σ 6) a x))) (if gMov (cR σ 6) a x then cDmo (cRem σ) a.toNatClampNeg x else σ)) : gE 116 0 [some (.ref 0), some (.int a), some (.int x), none, none] [] σ K := by
  obtain ⟨eR, tR, lR⟩ := SC_rem hc
  have h7 := SC_7 hc
  obtain ⟨hT, hP, hL, h0⟩ := hc
  unfold aMov at hK
  have hz := fWhyM_c (R := cR σ 6) (a := a.toNatClampNeg) (x := x)
  refine w116 ?_
  simp only [bI_0]
  have no : ¬ (isT (cR σ 6) a ∧ isS (cR σ 6) x) → K (some (.int (-1))) σ := by
    intro q
    rw [if_neg q, if_neg (fun e => q e.1)] at hK
    exact hK
  refine ⟨fun h => no (fun q => h q.1), fun h => ⟨fun h1 => ?_, fun h1 => no (fun q => h1 q.2)⟩⟩
  have h := Decidable.not_not.mp h
  have h1 := Decidable.not_not.mp h1
  have na := isN_of hT.1 h
  have nx := isS_of h0 h1
  rw [if_pos ⟨h, h1⟩] at hK
  refine ⟨⟨na, nx, hT⟩, fun h2 => ⟨⟨na, nx, hT⟩, ⟨na, hT⟩, ⟨hP, h7⟩, ⟨⟨na.1, by rw [eR]; exact na.2⟩, nx, tR, lR⟩, ?_⟩, fun h2 => ?_⟩
  · have n2 : ¬ 0 < fWhyM (cR σ 6) a.toNatClampNeg x := by rw [h2]; decide
    rw [if_neg n2, if_pos (show gMov (cR σ 6) a x from ⟨⟨h, h1⟩, n2⟩)] at hK
    exact hK
  · have n2 : 0 < fWhyM (cR σ 6) a.toNatClampNeg x := hz.resolve_left h2
    rw [if_pos n2, if_neg (show ¬ gMov (cR σ 6) a x from fun q => q.2 n2)] at hK
    exact hK
noncomputable def f116 : gD := fun Lv σ => match Lv with
  | [some (.ref q0), some (.int a), some (.int x), none, none] => cond (Nat.beq q0 0) (some (some (SC σ), some (.int (aMov (cR σ 6) a x)), if gMov (cR σ 6) a x then cDmo (cRem σ) a.toNatClampNeg x else σ)) none
  | _ => none
theorem ok116 : gFok 116 f116 := by
  intro Lv σ q h hc K hK
  unfold f116 at h
  split at h
  · rename_i q0 a x
    obtain ⟨hb, h⟩ := c_no h
    have hb0 := hb
    have e0 := b_eq hb0
    subst e0
    cases h
    exact s116 (hc _ rfl) hK
  · cases h
set_option maxRecDepth 20000 in
theorem w114 {σ : gS} {K : gK} {f : Int32} (h : ((¬ (bI ((0 : Int32) ≤ f ∧ f ≤ (σ 6 4))) = 0 → ((¬ f = (σ 6 5) → (0 ≤ σ 6 7 ∧ σ 6 7 ≤ 20 ∧ bT (cR σ 6)) ∧ ((¬ 0 < (fBar (cR σ 6) f) → (bPa σ ∧ (0 ≤ σ 6 7 ∧ σ 6 7 ≤ 20)) ∧ (bLg (gup (cRem σ) 6 5 f) 30) ∧ K (some (.int (σ 6 5))) (cAdd (gup (cRem σ) 6 5 f) (7 : Int32) (0 : Int32) (σ 6 5))) ∧ (0 < (fBar (cR σ 6) f) → K (some (.int (-4))) σ))) ∧ (f = (σ 6 5) → K (some (.int (-2))) σ))) ∧ ((bI ((0 : Int32) ≤ f ∧ f ≤ (σ 6 4))) = 0 → K (some (.int (-1))) σ))) : gE 114 0 [some (.ref 0), some (.int f), none] [] σ K :=
  gw_run (cy := 114) (cuts := []) (inl := []) (pf := gpcu) gpcu_ok 400 (by decide) h
theorem s114 {σ : gS} {K : gK} {f : Int32} (hc : SC σ) (hK : K (some (.int (aFir (cR σ 6) f))) (if gFir (cR σ 6) f then cAdd (gup (cRem σ) 6 5 f) 7 0 (σ 6 5) else σ)) : gE 114 0 [some (.ref 0), some (.int f), none] [] σ K := by
  obtain ⟨eR, tR, lR⟩ := SC_rem hc
  have h7 := SC_7 hc
  obtain ⟨hT, hP, hL, h0⟩ := hc
  have hb := hT.2.1
  have hl : bLg (gup (cRem σ) 6 5 f) 30 := by
    unfold bLg
    rw [gup_ne (by omega), gup_ne (by omega)]
    exact lR
  unfold aFir gFir at hK
  rw [cR_0, cR_1] at hK
  refine w114 ?_
  simp only [bI_0]
  grind
noncomputable def f114 : gD := fun Lv σ => match Lv with
  | [some (.ref q0), some (.int f), none] => cond (Nat.beq q0 0) (some (some (SC σ), some (.int (aFir (cR σ 6) f)), if gFir (cR σ 6) f then cAdd (gup (cRem σ) 6 5 f) 7 0 (σ 6 5) else σ)) none
  | _ => none
theorem ok114 : gFok 114 f114 := by
  intro Lv σ q h hc K hK
  unfold f114 at h
  split at h
  · rename_i q0 f
    obtain ⟨hb, h⟩ := c_no h
    have hb0 := hb
    have e0 := b_eq hb0
    subst e0
    cases h
    exact s114 (hc _ rfl) hK
  · cases h
noncomputable def gpcv_l : List (Nat × gD) := (115, f115) :: (116, f116) :: (114, f114) :: gpcu_l
noncomputable def gpcv : gP := gpl0 gpcv_l
theorem gpcv_ok : gPok gpcv := gpl0_cons ok115 (gpl0_cons ok116 (gpl0_cons ok114 (gpcu_ok)))
-- text 36
/-! THE CLASS: its calls, ring, set -/
/-- bounds of what a joy is made of -/
abbrev bF (R : gW) : Prop := ∀ t, t < nM R → ((-9 ≤ fld R t 3 ∧ fld R t 3 ≤ 9) ∧ (-9 ≤ fld R t 4 ∧ fld R t 4 ≤ 9) ∧ (0 ≤ fld R t 5 ∧ fld R t 5 ≤ 9) ∧ (0 ≤ fld R t 6 ∧ fld R t 6 ≤ 3))
theorem i4 {x : Int32} (h : 0 ≤ x ∧ x < 40) : 0 ≤ x / 4 ∧ x / 4 ≤ 9 := by
  obtain ⟨e, l⟩ := iN_of h.1
  have l2 : x.toNatClampNeg < 40 := by
    have h2 := h.2
    rw [e] at h2
    exact (iN_lt (m := 40) l (by decide)).mp h2
  rw [e, show (4 : Int32) = iN 4 from rfl, iN_div (by omega) (by decide)]
  exact ⟨(iN_le (k := 0) (by decide) (by omega)).mpr (by omega), (iN_le (m := 9) (by omega) (by decide)).mpr (by omega)⟩
theorem kin_b {R : gW} (h : 0 ≤ R 3 ∧ R 3 ≤ 20) (t : Nat) (b : Int32) : 0 ≤ kin R t b ∧ kin R t b ≤ 20 := by
  have hn := (nM_of h).2
  have hc := cnt_le (kinP R t b) (nM R)
  unfold kin
  exact ⟨(iN_le (k := 0) (by decide) (by omega)).mpr (by omega), (iN_le (m := 20) (by omega) (by decide)).mpr (by omega)⟩
theorem joy_ar {k w a r p y : Int32} {A B : Prop} [Decidable A] [Decidable B] (k1 : 0 ≤ k) (k2 : k ≤ 20) (w1 : -9 ≤ w) (w2 : w ≤ 9) (a1 : -9 ≤ a) (a2 : a ≤ 9) (r1 : 0 ≤ r) (r2 : r ≤ 9) (p1 : 0 ≤ p) (p2 : p ≤ 3) (x1 : 0 ≤ y) (x2 : y ≤ 9) : -100 ≤ 4 * k + (if A then w else 0) + (if B then a else 0) - p * (if y - r < 0 then -(y - r) else y - r) ∧ 4 * k + (if A then w else 0) + (if B then a else 0) - p * (if y - r < 0 then -(y - r) else y - r) ≤ 100 := by
  have hp : p = 0 ∨ p = 1 ∨ p = 2 ∨ p = 3 := by grind
  obtain ⟨d, hd, d1, d2⟩ : ∃ d, (if y - r < 0 then -(y - r) else y - r) = d ∧ 0 ≤ d ∧ d ≤ 9 := by
    refine ⟨_, rfl, ?_, ?_⟩ <;> grind
  obtain ⟨u, hu, u1, u2⟩ : ∃ u, (if A then w else 0) = u ∧ -9 ≤ u ∧ u ≤ 9 := by
    refine ⟨_, rfl, ?_, ?_⟩ <;> grind
  obtain ⟨v, hv, v1, v2⟩ : ∃ v, (if B then a else 0) = v ∧ -9 ≤ v ∧ v ≤ 9 := by
    refine ⟨_, rfl, ?_, ?_⟩ <;> grind
  rw [hd, hu, hv]
  rcases hp with h | h | h | h <;> rw [h] <;> grind
theorem fJoy_b {R : gW} {t : Nat} {x : Int32} (h : 0 ≤ R 3 ∧ R 3 ≤ 20) (hb : bF R) (ht : t < nM R) (hx : 0 ≤ x ∧ x < 40) : -100 ≤ fJoy R t x ∧ fJoy R t x ≤ 100 := by
  have q := hb t ht
  have k := kin_b h t (x / 8)
  have y := i4 hx
  exact joy_ar k.1 k.2 q.1.1 q.1.2 q.2.1.1 q.2.1.2 q.2.2.1.1 q.2.2.1.2 q.2.2.2.1 q.2.2.2.2 y.1 y.2
theorem fJo_b {R : gW} {t : Nat} (h : 0 ≤ R 3 ∧ R 3 ≤ 20) (hT : bT R) (hb : bF R) (ht : t < nM R) : -100 ≤ fJo R t ∧ fJo R t ≤ 100 := fJoy_b h hb ht (hT t ht).2.1
theorem lt_sub {a b : Int32} (ha : -100 ≤ a ∧ a ≤ 100) (hb : -100 ≤ b ∧ b ≤ 100) : a < b ↔ a - b < 0 := by grind
theorem bF_rtu {R : gW} {a b c : Nat} (hd : a ≠ b ∧ b ≠ c ∧ a ≠ c) (h : bF R) : bF (rtu R a b c) := by
  intro t ht
  rw [nM_rtu hd] at ht
  rw [fld_rtu hd _ _ (by decide), fld_rtu hd _ _ (by decide), fld_rtu hd _ _ (by decide), fld_rtu hd _ _ (by decide), if_neg (by decide), if_neg (by decide), if_neg (by decide), if_neg (by decide)]
  exact h t ht
theorem bF_rsw {R : gW} {a b : Nat} (h : bF R) : bF (rsw R a b) := by
  intro t ht
  rw [nM_rsw] at ht
  rw [fld_rsw _ _ _ _ _ (by decide), fld_rsw _ _ _ _ _ (by decide), fld_rsw _ _ _ _ _ (by decide), fld_rsw _ _ _ _ _ (by decide), if_neg (by decide), if_neg (by decide), if_neg (by decide), if_neg (by decide)]
  exact h t ht
set_option maxRecDepth 20000 in
theorem w92 {σ : gS} {K : gK} {a b c : Int32} (h : (0 ≤ b ∧ b < 20) ∧ gTv (6 + 2 + b.toNatClampNeg) ∧ (0 ≤ a ∧ a < 20) ∧ (((bI (fMay (cR σ 6) a.toNatClampNeg (σ (6 + 2 + b.toNatClampNeg) 1))) = 0 → K (some (.int 1)) σ) ∧ (¬ (bI (fMay (cR σ 6) a.toNatClampNeg (σ (6 + 2 + b.toNatClampNeg) 1))) = 0 → (0 ≤ c ∧ c < 20) ∧ gTv (6 + 2 + c.toNatClampNeg) ∧ (0 ≤ b ∧ b < 20) ∧ (((bI (fMay (cR σ 6) b.toNatClampNeg (σ (6 + 2 + c.toNatClampNeg) 1))) = 0 → K (some (.int 1)) σ) ∧ (¬ (bI (fMay (cR σ 6) b.toNatClampNeg (σ (6 + 2 + c.toNatClampNeg) 1))) = 0 → (0 ≤ a ∧ a < 20) ∧ gTv (6 + 2 + a.toNatClampNeg) ∧ (0 ≤ c ∧ c < 20) ∧ ((¬ (bI (fMay (cR σ 6) c.toNatClampNeg (σ (6 + 2 + a.toNatClampNeg) 1))) = 0 → gE 92 50 [some (.ref 6), some (.int a), some (.int b), some (.int c), none, none, none, none] [] σ K) ∧ ((bI (fMay (cR σ 6) c.toNatClampNeg (σ (6 + 2 + a.toNatClampNeg) 1))) = 0 → K (some (.int 1)) σ))))))) : gE 92 0 [some (.ref 6), some (.int a), some (.int b), some (.int c), none, none, none, none] [] σ K :=
  gw_run (cy := 92) (cuts := [50, 78, 113]) (inl := []) (pf := gpcv) gpcv_ok 400 (by decide) h
set_option maxRecDepth 20000 in
theorem c92_50 {σ : gS} {K : gK} {l1 l2 l3 : Int32} (h : (((0 ≤ l1 ∧ l1 < 20) ∧ l1.toNatClampNeg < nM (cR σ 6)) ∧ TC σ 6) ∧ (((0 ≤ l2 ∧ l2 < 20) ∧ l2.toNatClampNeg < nM (cR σ 6)) ∧ TC σ 6) ∧ (((0 ≤ l3 ∧ l3 < 20) ∧ l3.toNatClampNeg < nM (cR σ 6)) ∧ TC σ 6) ∧ ((0 ≤ l1 ∧ l1 < 20) ∧ (0 ≤ l2 ∧ l2 < 20) ∧ (0 ≤ l3 ∧ l3 < 20)) ∧ gE 92 78 [some (.ref 6), some (.int l1), some (.int l2), some (.int l3), some (.int (fJo (cR σ 6) l1.toNatClampNeg)), some (.int (fJo (cR σ 6) l2.toNatClampNeg)), some (.int (fJo (cR σ 6) l3.toNatClampNeg)), none] [] (cPas σ 6 l1.toNatClampNeg l2.toNatClampNeg l3.toNatClampNeg) K) : gE 92 50 [some (.ref 6), some (.int l1), some (.int l2), some (.int l3), none, none, none, none] [] σ K :=
  gw_run (cy := 92) (cuts := [50, 78, 113]) (inl := []) (pf := gpcv) gpcv_ok 400 (by decide) h
set_option maxRecDepth 20000 in
theorem c92_78 {σ : gS} {K : gK} {l1 l2 l3 l4 l5 l6 : Int32} (h : (((0 ≤ l1 ∧ l1 < 20) ∧ l1.toNatClampNeg < nM (cR σ 6)) ∧ TC σ 6) ∧ (((fJo (cR σ 6) l1.toNatClampNeg) < l4 → gE 92 113 [some (.ref 6), some (.int l1), some (.int l2), some (.int l3), some (.int l4), some (.int l5), some (.int l6), none] [.int 1] σ K) ∧ (¬ (fJo (cR σ 6) l1.toNatClampNeg) < l4 → (((0 ≤ l2 ∧ l2 < 20) ∧ l2.toNatClampNeg < nM (cR σ 6)) ∧ TC σ 6) ∧ (((fJo (cR σ 6) l2.toNatClampNeg) < l5 → gE 92 113 [some (.ref 6), some (.int l1), some (.int l2), some (.int l3), some (.int l4), some (.int l5), some (.int l6), none] [.int 1] σ K) ∧ (¬ (fJo (cR σ 6) l2.toNatClampNeg) < l5 → (((0 ≤ l3 ∧ l3 < 20) ∧ l3.toNatClampNeg < nM (cR σ 6)) ∧ TC σ 6) ∧ ((¬ (fJo (cR σ 6) l3.toNatClampNeg) < l6 → gE 92 113 [some (.ref 6), some (.int l1), some (.int l2), some (.int l3), some (.int l4), some (.int l5), some (.int l6), none] [.int 0] σ K) ∧ ((fJo (cR σ 6) l3.toNatClampNeg) < l6 → gE 92 113 [some (.ref 6), some (.int l1), some (.int l2), some (.int l3), some (.int l4), some (.int l5), some (.int l6), none] [.int 1] σ K))))))) : gE 92 78 [some (.ref 6), some (.int l1), some (.int l2), some (.int l3), some (.int l4), some (.int l5), some (.int l6), none] [] σ K :=
  gw_run (cy := 92) (cuts := [50, 78, 113]) (inl := []) (pf := gpcv) gpcv_ok 400 (by decide) h
set_option maxRecDepth 20000 in
theorem c92_113 {σ : gS} {K : gK} {l1 l2 l3 l4 l5 l6 k0 : Int32} (h : ((0 ≤ l3 ∧ l3 < 20) ∧ (0 ≤ l2 ∧ l2 < 20) ∧ (0 ≤ l1 ∧ l1 < 20)) ∧ ((k0 = 0 → K (some (.int 0)) (cPas σ 6 l3.toNatClampNeg l2.toNatClampNeg l1.toNatClampNeg)) ∧ (¬ k0 = 0 → K (some (.int 6)) (cPas σ 6 l3.toNatClampNeg l2.toNatClampNeg l1.toNatClampNeg)))) : gE 92 113 [some (.ref 6), some (.int l1), some (.int l2), some (.int l3), some (.int l4), some (.int l5), some (.int l6), none] [.int k0] σ K :=
  gw_run (cy := 92) (cuts := [50, 78, 113]) (inl := []) (pf := gpcv) gpcv_ok 400 (by decide) h
theorem s92 {σ : gS} {K : gK} {a b c : Int32} (hc : (isN σ 6 a ∧ isN σ 6 b ∧ isN σ 6 c) ∧ (a.toNatClampNeg ≠ b.toNatClampNeg ∧ b.toNatClampNeg ≠ c.toNatClampNeg ∧ a.toNatClampNeg ≠ c.toNatClampNeg) ∧ TC σ 6 ∧ bF (cR σ 6)) (hK : K (some (.int (fWhyR (cR σ 6) a.toNatClampNeg b.toNatClampNeg c.toNatClampNeg))) σ) : gE 92 0 [some (.ref 6), some (.int a), some (.int b), some (.int c), none, none, none, none] [] σ K := by
  obtain ⟨⟨ha, hb, hcc⟩, hd, hT, hF⟩ := hc
  obtain ⟨r1, t1, f1⟩ := cPas_ok hT ha.2 hb.2 hcc.2 hd
  obtain ⟨τ, hτ⟩ : ∃ τ, cPas σ 6 a.toNatClampNeg b.toNatClampNeg c.toNatClampNeg = τ := ⟨_, rfl⟩
  have hbk := cPas_bk hT ha.2 hb.2 hcc.2 hd
  rw [hτ] at r1 t1 hbk
  have c1 : isN τ 6 a := ⟨ha.1, by rw [r1, nM_rtu hd]; exact ha.2⟩
  have c2 : isN τ 6 b := ⟨hb.1, by rw [r1, nM_rtu hd]; exact hb.2⟩
  have c3 : isN τ 6 c := ⟨hcc.1, by rw [r1, nM_rtu hd]; exact hcc.2⟩
  have tva := tv_6 _ (n20 ha.1)
  have tvb := tv_6 _ (n20 hb.1)
  have tvc := tv_6 _ (n20 hcc.1)
  have ea := cR_f (σ := σ) (p := 6) (t := a.toNatClampNeg) (f := 0) (n20 ha.1) (by decide)
  have eb := cR_f (σ := σ) (p := 6) (t := b.toNatClampNeg) (f := 0) (n20 hb.1) (by decide)
  have ec := cR_f (σ := σ) (p := 6) (t := c.toNatClampNeg) (f := 0) (n20 hcc.1) (by decide)
  have hF2 : bF (cR τ 6) := by rw [r1]; exact bF_rtu hd hF
  have ba := lt_sub (fJo_b t1.1 t1.2.1 hF2 c1.2) (fJo_b hT.1 hT.2.1 hF ha.2)
  have bb := lt_sub (fJo_b t1.1 t1.2.1 hF2 c2.2) (fJo_b hT.1 hT.2.1 hF hb.2)
  have bc := lt_sub (fJo_b t1.1 t1.2.1 hF2 c3.2) (fJo_b hT.1 hT.2.1 hF hcc.2)
  have e3 : fWhyR (cR σ 6) a.toNatClampNeg b.toNatClampNeg c.toNatClampNeg = if ¬ fMay (cR σ 6) a.toNatClampNeg (σ (6 + 2 + b.toNatClampNeg) 1) ∨ ¬ fMay (cR σ 6) b.toNatClampNeg (σ (6 + 2 + c.toNatClampNeg) 1) ∨ ¬ fMay (cR σ 6) c.toNatClampNeg (σ (6 + 2 + a.toNatClampNeg) 1) then 1 else if fJo (cR τ 6) a.toNatClampNeg - fJo (cR σ 6) a.toNatClampNeg < 0 then 6 else if fJo (cR τ 6) b.toNatClampNeg - fJo (cR σ 6) b.toNatClampNeg < 0 then 6 else if fJo (cR τ 6) c.toNatClampNeg - fJo (cR σ 6) c.toNatClampNeg < 0 then 6 else 0 := by
    unfold fWhyR fRR
    rw [ea, eb, ec, r1]
  rw [e3] at hK
  have na := ha.1
  have nb := hb.1
  have nc := hcc.1
  have back : ∀ k0 l4 l5 l6 : Int32, (k0 = 0 → K (some (.int 0)) σ) → (¬ k0 = 0 → K (some (.int 6)) σ) → gE 92 113 [some (.ref 6), some (.int a), some (.int b), some (.int c), some (.int l4), some (.int l5), some (.int l6), none] [.int k0] τ K := by
    intro k0 l4 l5 l6 q1 q2
    refine c92_113 ⟨⟨nc, nb, na⟩, ?_⟩
    rw [hbk]
    exact ⟨q1, q2⟩
  have main : (fMay (cR σ 6) a.toNatClampNeg (σ (6 + 2 + b.toNatClampNeg) 1) ∧ fMay (cR σ 6) b.toNatClampNeg (σ (6 + 2 + c.toNatClampNeg) 1) ∧ fMay (cR σ 6) c.toNatClampNeg (σ (6 + 2 + a.toNatClampNeg) 1)) → gE 92 50 [some (.ref 6), some (.int a), some (.int b), some (.int c), none, none, none, none] [] σ K := by
    intro q
    rw [if_neg (by intro e; rcases e with e | e | e; exact e q.1; exact e q.2.1; exact e q.2.2)] at hK
    refine c92_50 ⟨⟨ha, hT⟩, ⟨hb, hT⟩, ⟨hcc, hT⟩, ⟨na, nb, nc⟩, ?_⟩
    rw [hτ]
    refine c92_78 ⟨⟨c1, t1⟩, fun h => back _ _ _ _ (fun e => absurd e (by decide)) (fun _ => ?_), fun h => ⟨⟨c2, t1⟩, fun h2 => back _ _ _ _ (fun e => absurd e (by decide)) (fun _ => ?_), fun h2 => ⟨⟨c3, t1⟩, fun h3 => back _ _ _ _ (fun _ => ?_) (fun e => absurd rfl e), fun h3 => back _ _ _ _ (fun e => absurd e (by decide)) (fun _ => ?_)⟩⟩⟩
    · rw [if_pos (ba.mp h)] at hK; exact hK
    · rw [if_neg (fun e => h (ba.mpr e)), if_pos (bb.mp h2)] at hK; exact hK
    · rw [if_neg (fun e => h (ba.mpr e)), if_neg (fun e => h2 (bb.mpr e)), if_neg (fun e => h3 (bc.mpr e))] at hK; exact hK
    · rw [if_neg (fun e => h (ba.mpr e)), if_neg (fun e => h2 (bb.mpr e)), if_pos (bc.mp h3)] at hK; exact hK
  refine w92 ?_
  simp only [bI_0]
  grind
noncomputable def f92 : gD := fun Lv σ => match Lv with
  | [some (.ref q0), some (.int a), some (.int b), some (.int c), none, none, none, none] => cond (Nat.beq q0 6) (some (some ((isN σ 6 a ∧ isN σ 6 b ∧ isN σ 6 c) ∧ (a.toNatClampNeg ≠ b.toNatClampNeg ∧ b.toNatClampNeg ≠ c.toNatClampNeg ∧ a.toNatClampNeg ≠ c.toNatClampNeg) ∧ TC σ 6 ∧ bF (cR σ 6)), some (.int (fWhyR (cR σ 6) a.toNatClampNeg b.toNatClampNeg c.toNatClampNeg)), σ)) none
  | _ => none
theorem ok92 : gFok 92 f92 := by
  intro Lv σ q h hc K hK
  unfold f92 at h
  split at h
  · rename_i q0 a b c
    obtain ⟨hb, h⟩ := c_no h
    have hb0 := hb
    have e0 := b_eq hb0
    subst e0
    cases h
    exact s92 (hc _ rfl) hK
  · cases h
set_option maxRecDepth 20000 in
theorem w54 {σ : gS} {K : gK} {w n : Int32} (h : ((0 : Int) + 5 = 4 + 1 ∧ ((w = 0 → ((bI (((-9) : Int32) ≤ n ∧ n ≤ (9 : Int32))) = 0 ∨ (bI (((-9) : Int32) ≤ n ∧ n ≤ (9 : Int32))) = 1) ∧ K (some (.int (bI (((-9) : Int32) ≤ n ∧ n ≤ (9 : Int32))))) σ) ∧ (¬ w = 0 → ((w = 1 → ((bI (((-9) : Int32) ≤ n ∧ n ≤ (9 : Int32))) = 0 ∨ (bI (((-9) : Int32) ≤ n ∧ n ≤ (9 : Int32))) = 1) ∧ K (some (.int (bI (((-9) : Int32) ≤ n ∧ n ≤ (9 : Int32))))) σ) ∧ (¬ w = 1 → ((w = 2 → ((bI ((0 : Int32) ≤ n ∧ n ≤ ((σ 6 4) - 1))) = 0 ∨ (bI ((0 : Int32) ≤ n ∧ n ≤ ((σ 6 4) - 1))) = 1) ∧ K (some (.int (bI ((0 : Int32) ≤ n ∧ n ≤ ((σ 6 4) - 1))))) σ) ∧ (¬ w = 2 → ((w = 3 → ((bI ((0 : Int32) ≤ n ∧ n ≤ (3 : Int32))) = 0 ∨ (bI ((0 : Int32) ≤ n ∧ n ≤ (3 : Int32))) = 1) ∧ K (some (.int (bI ((0 : Int32) ≤ n ∧ n ≤ (3 : Int32))))) σ) ∧ (¬ w = 3 → ((w = 4 → ((bI ((0 : Int32) ≤ n ∧ n ≤ (1 : Int32))) = 0 ∨ (bI ((0 : Int32) ≤ n ∧ n ≤ (1 : Int32))) = 1) ∧ K (some (.int (bI ((0 : Int32) ≤ n ∧ n ≤ (1 : Int32))))) σ) ∧ (¬ w = 4 → ((0 : Int32) = 0 ∨ (0 : Int32) = 1) ∧ K (some (.int 0)) σ)))))))))))) : gE 54 0 [some (.ref 6), some (.int w), some (.int n)] [] σ K :=
  gw_run (cy := 54) (cuts := []) (inl := []) (pf := gpcv) gpcv_ok 400 (by decide) h
theorem s54 {σ : gS} {K : gK} {w n : Int32} (hK : K (some (.int (bI (inR (cR σ 6) w n)))) σ) : gE 54 0 [some (.ref 6), some (.int w), some (.int n)] [] σ K := by
  have h01 : ∀ (p : Prop) [Decidable p], bI p = 0 ∨ bI p = 1 := fun p _ => bI_01
  have key : ∀ (p : Prop) [Decidable p], (p ↔ inR (cR σ 6) w n) → K (some (.int (bI p))) σ := by
    intro p _ h
    have e : bI p = bI (inR (cR σ 6) w n) := by
      by_cases q : p
      · rw [bI_t q, bI_t (h.mp q)]
      · rw [bI_f q, bI_f (fun e => q (h.mpr e))]
    rw [e]; exact hK
  have e4 := cR_0 σ 6
  refine w54 ⟨by decide, fun h => ⟨h01 _, key _ ?_⟩, fun h0 => ⟨fun h => ⟨h01 _, key _ ?_⟩, fun h1 => ⟨fun h => ⟨h01 _, key _ ?_⟩, fun h2 => ⟨fun h => ⟨h01 _, key _ ?_⟩, fun h3 => ⟨fun h => ⟨h01 _, key _ ?_⟩, fun h4 => ⟨by decide, ?_⟩⟩⟩⟩⟩⟩
  · subst h; exact ⟨fun q => Or.inl ⟨Or.inl rfl, q⟩, fun q => by rcases q with q | q | q | q <;> first | exact q.2 | exact absurd q.1 (by decide)⟩
  · subst h; exact ⟨fun q => Or.inl ⟨Or.inr rfl, q⟩, fun q => by rcases q with q | q | q | q <;> first | exact q.2 | exact absurd q.1 (by decide)⟩
  · subst h; rw [← e4]; exact ⟨fun q => Or.inr (Or.inl ⟨rfl, q⟩), fun q => by rcases q with q | q | q | q <;> first | exact absurd q.1 (by decide) | exact q.2⟩
  · subst h; exact ⟨fun q => Or.inr (Or.inr (Or.inl ⟨rfl, q⟩)), fun q => by rcases q with q | q | q | q <;> first | exact absurd q.1 (by decide) | exact q.2⟩
  · subst h; exact ⟨fun q => Or.inr (Or.inr (Or.inr ⟨rfl, q⟩)), fun q => by rcases q with q | q | q | q <;> first | exact absurd q.1 (by decide) | exact q.2⟩
  · have e : bI (inR (cR σ 6) w n) = 0 := bI_f (fun q => by rcases q with q | q | q | q <;> first | exact h4 q.1 | exact h3 q.1 | exact h2 q.1 | exact q.1.elim h0 h1)
    rw [e] at hK; exact hK
noncomputable def f54 : gD := fun Lv σ => match Lv with
  | [some (.ref q0), some (.int w), some (.int n)] => cond (Nat.beq q0 6) (some (none, some (.int (bI (inR (cR σ 6) w n))), σ)) none
  | _ => none
theorem ok54 : gFok 54 f54 := by
  intro Lv σ q h hc K hK
  unfold f54 at h
  split at h
  · rename_i q0 w n
    obtain ⟨hb, h⟩ := c_no h
    have hb0 := hb
    have e0 := b_eq hb0
    subst e0
    cases h
    exact s54 hK
  · cases h
set_option maxRecDepth 20000 in
theorem w104 {σ : gS} {K : gK} {w : Int32} {a : Nat} (h : ((0 : Int) + 4 = 3 + 1 ∧ ((w = 0 → gTv a ∧ K (some (.int (σ a 4))) σ) ∧ (¬ w = 0 → ((w = 1 → gTv a ∧ K (some (.int (σ a 5))) σ) ∧ (¬ w = 1 → ((w = 2 → gTv a ∧ K (some (.int (σ a 6))) σ) ∧ (¬ w = 2 → ((w = 3 → gTv a ∧ K (some (.int (σ a 7))) σ) ∧ (¬ w = 3 → gTv a ∧ K (some (.int (σ a 2))) σ)))))))))) : gE 104 0 [some (.ref a), some (.int w)] [] σ K :=
  gw_run (cy := 104) (cuts := []) (inl := []) (pf := gpcv) gpcv_ok 400 (by decide) h
theorem s104 {σ : gS} {K : gK} {a : Nat} {w : Int32} (hc : gTv a ∧ (w = 0 ∨ w = 1 ∨ w = 2 ∨ w = 3 ∨ w = 4)) (hK : K (some (.int (σ a (fof w + 1)))) σ) : gE 104 0 [some (.ref a), some (.int w)] [] σ K := by
  obtain ⟨ha, hw⟩ := hc
  refine w104 ?_
  rcases hw with rfl | rfl | rfl | rfl | rfl <;> simp (decide := true) <;> exact ⟨ha, hK⟩
noncomputable def f104 : gD := fun Lv σ => match Lv with
  | [some (.ref a), some (.int w)] => some (some (gTv a ∧ (w = 0 ∨ w = 1 ∨ w = 2 ∨ w = 3 ∨ w = 4)), some (.int (σ a (fof w + 1))), σ)
  | _ => none
theorem ok104 : gFok 104 f104 := by
  intro Lv σ q h hc K hK
  unfold f104 at h
  split at h
  · rename_i a w
    cases h
    exact s104 (hc _ rfl) hK
  · cases h
set_option maxRecDepth 20000 in
theorem w105 {σ : gS} {K : gK} {w v : Int32} {a : Nat} (h : ((0 : Int) + 4 = 3 + 1 ∧ ((w = 0 → gTv a ∧ K none (gup σ a 4 v)) ∧ (¬ w = 0 → ((w = 1 → gTv a ∧ K none (gup σ a 5 v)) ∧ (¬ w = 1 → ((w = 2 → gTv a ∧ K none (gup σ a 6 v)) ∧ (¬ w = 2 → ((w = 3 → gTv a ∧ K none (gup σ a 7 v)) ∧ (¬ w = 3 → gTv a ∧ K none (gup σ a 2 v))))))))))) : gE 105 0 [some (.ref a), some (.int w), some (.int v)] [] σ K :=
  gw_run (cy := 105) (cuts := []) (inl := []) (pf := gpcv) gpcv_ok 400 (by decide) h
theorem s105 {σ : gS} {K : gK} {a : Nat} {w v : Int32} (hc : gTv a ∧ (w = 0 ∨ w = 1 ∨ w = 2 ∨ w = 3 ∨ w = 4)) (hK : K none (gup σ a (fof w + 1) v)) : gE 105 0 [some (.ref a), some (.int w), some (.int v)] [] σ K := by
  obtain ⟨ha, hw⟩ := hc
  refine w105 ?_
  rcases hw with rfl | rfl | rfl | rfl | rfl <;> simp (decide := true) <;> exact ⟨ha, hK⟩
noncomputable def f105 : gD := fun Lv σ => match Lv with
  | [some (.ref a), some (.int w), some (.int v)] => some (some (gTv a ∧ (w = 0 ∨ w = 1 ∨ w = 2 ∨ w = 3 ∨ w = 4)), none, gup σ a (fof w + 1) v)
  | _ => none
theorem ok105 : gFok 105 f105 := by
  intro Lv σ q h hc K hK
  unfold f105 at h
  split at h
  · rename_i a w v
    cases h
    exact s105 (hc _ rfl) hK
  · cases h
