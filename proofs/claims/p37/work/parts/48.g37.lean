-- text 37
/-! THE CLASS: its calls, ring, set, keep, restore, undo -/
noncomputable def gpcw_l : List (Nat × gD) := (92, f92) :: (54, f54) :: (104, f104) :: (105, f105) :: gpcv_l
noncomputable def gpcw : gP := gpl0 gpcw_l
theorem gpcw_ok : gPok gpcw := gpl0_cons ok92 (gpl0_cons ok54 (gpl0_cons ok104 (gpl0_cons ok105 (gpcv_ok))))
set_option maxRecDepth 20000 in
theorem w117 {σ : gS} {K : gK} {a b c : Int32} (h : (((bI (isP (cR σ 6) a b)) = 0 → K (some (.int (-1))) σ) ∧ (¬ (bI (isP (cR σ 6) a b)) = 0 → (((bI (isP (cR σ 6) b c)) = 0 → K (some (.int (-1))) σ) ∧ (¬ (bI (isP (cR σ 6) b c)) = 0 → ((¬ a = c → ((isN σ 6 a ∧ isN σ 6 b ∧ isN σ 6 c) ∧ (a.toNatClampNeg ≠ b.toNatClampNeg ∧ b.toNatClampNeg ≠ c.toNatClampNeg ∧ a.toNatClampNeg ≠ c.toNatClampNeg) ∧ TC σ 6 ∧ bF (cR σ 6)) ∧ (((fWhyR (cR σ 6) a.toNatClampNeg b.toNatClampNeg c.toNatClampNeg) = 0 → ((isN σ 6 a ∧ isN σ 6 b ∧ isN σ 6 c) ∧ (a.toNatClampNeg ≠ b.toNatClampNeg ∧ b.toNatClampNeg ≠ c.toNatClampNeg ∧ a.toNatClampNeg ≠ c.toNatClampNeg) ∧ TC σ 6) ∧ (bPa σ ∧ (0 ≤ σ 6 7 ∧ σ 6 7 ≤ 20)) ∧ ((isN (cRem σ) 6 a ∧ isN (cRem σ) 6 b ∧ isN (cRem σ) 6 c) ∧ (a.toNatClampNeg ≠ b.toNatClampNeg ∧ b.toNatClampNeg ≠ c.toNatClampNeg ∧ a.toNatClampNeg ≠ c.toNatClampNeg) ∧ TC (cRem σ) 6 ∧ bLg (cRem σ) 30) ∧ K (some (.int (fROR (cR σ 6) a.toNatClampNeg b.toNatClampNeg c.toNatClampNeg))) (cDri (cRem σ) a.toNatClampNeg b.toNatClampNeg c.toNatClampNeg)) ∧ (¬ (fWhyR (cR σ 6) a.toNatClampNeg b.toNatClampNeg c.toNatClampNeg) = 0 → K (some (.int (-10 - (fWhyR (cR σ 6) a.toNatClampNeg b.toNatClampNeg c.toNatClampNeg)))) σ))) ∧ (a = c → K (some (.int (-1))) σ))))))) : gE 117 0 [some (.ref 0), some (.int a), some (.int b), some (.int c), none, none] [] σ K :=
  gw_run (cy := 117) (cuts := []) (inl := []) (pf := gpcw) gpcw_ok 400 (by decide) h
theorem s117 {σ : gS} {K : gK} {a b c : Int32} (hc : SC σ ∧ bF (cR σ 6)) (hK : K (some (.int (aRin (cR σ 6) a b c))) (if gRin (cR σ 6) a b c then cDri (cRem σ) a.toNatClampNeg b.toNatClampNeg c.toNatClampNeg else σ)) : gE 117 0 [some (.ref 0), some (.int a), some (.int b), some (.int c), none, none] [] σ K := by
  obtain ⟨hc, hF⟩ := hc
  obtain ⟨eR, tR, lR⟩ := SC_rem hc
  have h7 := SC_7 hc
  obtain ⟨hT, hP, hL, h0⟩ := hc
  unfold aRin at hK
  have hz := fWhyR_c (R := cR σ 6) (a := a.toNatClampNeg) (b := b.toNatClampNeg) (c := c.toNatClampNeg)
  refine w117 ?_
  simp only [bI_0]
  have no : ¬ isR3 (cR σ 6) a b c → K (some (.int (-1))) σ := by
    intro q
    rw [if_neg q, if_neg (fun e => q e.1)] at hK
    exact hK
  refine ⟨fun h => no (fun q => h q.1.1), fun h => ⟨fun h1 => no (fun q => h1 q.1.2), fun h1 => ⟨fun h2 => ?_, fun h2 => no (fun q => q.2 h2)⟩⟩⟩
  have h := Decidable.not_not.mp h
  have h1 := Decidable.not_not.mp h1
  have na := isN_of hT.1 h.1.1
  have nb := isN_of hT.1 h.1.2
  have nc := isN_of hT.1 h1.1.2
  have hd : a.toNatClampNeg ≠ b.toNatClampNeg ∧ b.toNatClampNeg ≠ c.toNatClampNeg ∧ a.toNatClampNeg ≠ c.toNatClampNeg := ⟨nn_ne na.1 nb.1 h.2, nn_ne nb.1 nc.1 h1.2, nn_ne na.1 nc.1 h2⟩
  have h3 : isR3 (cR σ 6) a b c := ⟨⟨h, h1⟩, h2⟩
  rw [if_pos h3] at hK
  refine ⟨⟨⟨na, nb, nc⟩, hd, hT, hF⟩, fun h4 => ⟨⟨⟨na, nb, nc⟩, hd, hT⟩, ⟨hP, h7⟩, ⟨⟨⟨na.1, by rw [eR]; exact na.2⟩, ⟨nb.1, by rw [eR]; exact nb.2⟩, ⟨nc.1, by rw [eR]; exact nc.2⟩⟩, hd, tR, lR⟩, ?_⟩, fun h4 => ?_⟩
  · have n2 : ¬ 0 < fWhyR (cR σ 6) a.toNatClampNeg b.toNatClampNeg c.toNatClampNeg := by rw [h4]; decide
    rw [if_neg n2, if_pos (show gRin (cR σ 6) a b c from ⟨h3, n2⟩)] at hK
    exact hK
  · have n2 : 0 < fWhyR (cR σ 6) a.toNatClampNeg b.toNatClampNeg c.toNatClampNeg := hz.resolve_left h4
    rw [if_pos n2, if_neg (show ¬ gRin (cR σ 6) a b c from fun q => q.2 n2)] at hK
    exact hK
noncomputable def f117 : gD := fun Lv σ => match Lv with
  | [some (.ref q0), some (.int a), some (.int b), some (.int c), none, none] => cond (Nat.beq q0 0) (some (some (SC σ ∧ bF (cR σ 6)), some (.int (aRin (cR σ 6) a b c)), if gRin (cR σ 6) a b c then cDri (cRem σ) a.toNatClampNeg b.toNatClampNeg c.toNatClampNeg else σ)) none
  | _ => none
theorem ok117 : gFok 117 f117 := by
  intro Lv σ q h hc K hK
  unfold f117 at h
  split at h
  · rename_i q0 a b c
    obtain ⟨hb, h⟩ := c_no h
    have hb0 := hb
    have e0 := b_eq hb0
    subst e0
    cases h
    exact s117 (hc _ rfl) hK
  · cases h
set_option maxRecDepth 20000 in
theorem w113 {σ : gS} {K : gK} {t w v : Int32} (h : (((bI (isT (cR σ 6) t)) = 0 → K (some (.int (-1))) σ) ∧ (¬ (bI (isT (cR σ 6) t)) = 0 → ((¬ (bI (inR (cR σ 6) w v)) = 0 → (0 ≤ t ∧ t < 20) ∧ gTv (6 + 2 + t.toNatClampNeg) ∧ (gTv (6 + 2 + t.toNatClampNeg) ∧ (w = 0 ∨ w = 1 ∨ w = 2 ∨ w = 3 ∨ w = 4)) ∧ ((¬ (σ (6 + 2 + t.toNatClampNeg) (fof w + 1)) = v → ((¬ w = 4 → (bPa σ ∧ (0 ≤ σ 6 7 ∧ σ 6 7 ≤ 20)) ∧ gTv (6 + 2 + t.toNatClampNeg) ∧ (gTv (6 + 2 + t.toNatClampNeg) ∧ (w = 0 ∨ w = 1 ∨ w = 2 ∨ w = 3 ∨ w = 4)) ∧ (bLg (gup (cRem σ) (6 + 2 + t.toNatClampNeg) (fof w + 1) v) 30) ∧ ((w = 0 → (((1 : Int32) = 0 → K (some (.int (σ (6 + 2 + t.toNatClampNeg) (fof w + 1)))) (cAdd (gup (cRem σ) (6 + 2 + t.toNatClampNeg) (fof w + 1) v) (6 : Int32) ((10 * t) + w) (σ (6 + 2 + t.toNatClampNeg) (fof w + 1)))) ∧ (¬ (1 : Int32) = 0 → K (some (.int ((σ (6 + 2 + t.toNatClampNeg) (fof w + 1)) + 9))) (cAdd (gup (cRem σ) (6 + 2 + t.toNatClampNeg) (fof w + 1) v) (6 : Int32) ((10 * t) + w) (σ (6 + 2 + t.toNatClampNeg) (fof w + 1)))))) ∧ (¬ w = 0 → ((¬ w = 1 → (((0 : Int32) = 0 → K (some (.int (σ (6 + 2 + t.toNatClampNeg) (fof w + 1)))) (cAdd (gup (cRem σ) (6 + 2 + t.toNatClampNeg) (fof w + 1) v) (6 : Int32) ((10 * t) + w) (σ (6 + 2 + t.toNatClampNeg) (fof w + 1)))) ∧ (¬ (0 : Int32) = 0 → K (some (.int ((σ (6 + 2 + t.toNatClampNeg) (fof w + 1)) + 9))) (cAdd (gup (cRem σ) (6 + 2 + t.toNatClampNeg) (fof w + 1) v) (6 : Int32) ((10 * t) + w) (σ (6 + 2 + t.toNatClampNeg) (fof w + 1)))))) ∧ (w = 1 → (((1 : Int32) = 0 → K (some (.int (σ (6 + 2 + t.toNatClampNeg) (fof w + 1)))) (cAdd (gup (cRem σ) (6 + 2 + t.toNatClampNeg) (fof w + 1) v) (6 : Int32) ((10 * t) + w) (σ (6 + 2 + t.toNatClampNeg) (fof w + 1)))) ∧ (¬ (1 : Int32) = 0 → K (some (.int ((σ (6 + 2 + t.toNatClampNeg) (fof w + 1)) + 9))) (cAdd (gup (cRem σ) (6 + 2 + t.toNatClampNeg) (fof w + 1) v) (6 : Int32) ((10 * t) + w) (σ (6 + 2 + t.toNatClampNeg) (fof w + 1)))))))))) ∧ (w = 4 → gTv (6 + 2 + t.toNatClampNeg) ∧ ((¬ (bI (v = 1 ∨ cR σ 6 1 ≤ (σ (6 + 2 + t.toNatClampNeg) 1) / 4)) = 0 → (bPa σ ∧ (0 ≤ σ 6 7 ∧ σ 6 7 ≤ 20)) ∧ gTv (6 + 2 + t.toNatClampNeg) ∧ (gTv (6 + 2 + t.toNatClampNeg) ∧ (w = 0 ∨ w = 1 ∨ w = 2 ∨ w = 3 ∨ w = 4)) ∧ (bLg (gup (cRem σ) (6 + 2 + t.toNatClampNeg) (fof w + 1) v) 30) ∧ ((w = 0 → (((1 : Int32) = 0 → K (some (.int (σ (6 + 2 + t.toNatClampNeg) (fof w + 1)))) (cAdd (gup (cRem σ) (6 + 2 + t.toNatClampNeg) (fof w + 1) v) (6 : Int32) ((10 * t) + w) (σ (6 + 2 + t.toNatClampNeg) (fof w + 1)))) ∧ (¬ (1 : Int32) = 0 → K (some (.int ((σ (6 + 2 + t.toNatClampNeg) (fof w + 1)) + 9))) (cAdd (gup (cRem σ) (6 + 2 + t.toNatClampNeg) (fof w + 1) v) (6 : Int32) ((10 * t) + w) (σ (6 + 2 + t.toNatClampNeg) (fof w + 1)))))) ∧ (¬ w = 0 → ((¬ w = 1 → (((0 : Int32) = 0 → K (some (.int (σ (6 + 2 + t.toNatClampNeg) (fof w + 1)))) (cAdd (gup (cRem σ) (6 + 2 + t.toNatClampNeg) (fof w + 1) v) (6 : Int32) ((10 * t) + w) (σ (6 + 2 + t.toNatClampNeg) (fof w + 1)))) ∧ (¬ (0 : Int32) = 0 → K (some (.int ((σ (6 + 2 + t.toNatClampNeg) (fof w + 1)) + 9))) (cAdd (gup (cRem σ) (6 + 2 + t.toNatClampNeg) (fof w + 1) v) (6 : Int32) ((10 * t) + w) (σ (6 + 2 + t.toNatClampNeg) (fof w + 1)))))) ∧ (w = 1 → (((1 : Int32) = 0 → K (some (.int (σ (6 + 2 + t.toNatClampNeg) (fof w + 1)))) (cAdd (gup (cRem σ) (6 + 2 + t.toNatClampNeg) (fof w + 1) v) (6 : Int32) ((10 * t) + w) (σ (6 + 2 + t.toNatClampNeg) (fof w + 1)))) ∧ (¬ (1 : Int32) = 0 → K (some (.int ((σ (6 + 2 + t.toNatClampNeg) (fof w + 1)) + 9))) (cAdd (gup (cRem σ) (6 + 2 + t.toNatClampNeg) (fof w + 1) v) (6 : Int32) ((10 * t) + w) (σ (6 + 2 + t.toNatClampNeg) (fof w + 1)))))))))) ∧ ((bI (v = 1 ∨ cR σ 6 1 ≤ (σ (6 + 2 + t.toNatClampNeg) 1) / 4)) = 0 → K (some (.int (-4))) σ))))) ∧ ((σ (6 + 2 + t.toNatClampNeg) (fof w + 1)) = v → K (some (.int (-2))) σ))) ∧ ((bI (inR (cR σ 6) w v)) = 0 → K (some (.int (-1))) σ))))) : gE 113 0 [some (.ref 0), some (.int t), some (.int w), some (.int v), none, none, none] [] σ K :=
  gw_run (cy := 113) (cuts := []) (inl := []) (pf := gpcw) gpcw_ok 400 (by decide) h
theorem s113 {σ : gS} {K : gK} {t w v : Int32} (hc : SC σ) (hK : K (some (.int (aSet (cR σ 6) t w v))) (if gSet (cR σ 6) t w v then cAdd (gup (cRem σ) (6 + 2 + t.toNatClampNeg) (fof w + 1) v) 6 (10 * t + w) (σ (6 + 2 + t.toNatClampNeg) (fof w + 1)) else σ)) : gE 113 0 [some (.ref 0), some (.int t), some (.int w), some (.int v), none, none, none] [] σ K := by
  obtain ⟨eR, tR, lR⟩ := SC_rem hc
  have h7 := SC_7 hc
  obtain ⟨hT, hP, hL, h0⟩ := hc
  unfold aSet at hK
  refine w113 ?_
  simp only [bI_0]
  have no : ¬ (isT (cR σ 6) t ∧ inR (cR σ 6) w v) → K (some (.int (-1))) σ := by
    intro q
    rw [if_neg q, if_neg (fun e => q e.1.1)] at hK
    exact hK
  refine ⟨fun h => no (fun q => h q.1), fun h => ⟨fun h1 => ?_, fun h1 => no (fun q => h1 q.2)⟩⟩
  have h := Decidable.not_not.mp h
  have h1 := Decidable.not_not.mp h1
  have nt := isN_of hT.1 h
  have lt := n20 nt.1
  have tv := tv_6 _ lt
  have fl := fof_le h1
  have hw := inR_cases h1
  have ef := cR_f (σ := σ) (p := 6) (t := t.toNatClampNeg) (f := fof w) lt (by omega)
  have e0 := cR_f (σ := σ) (p := 6) (t := t.toNatClampNeg) (f := 0) lt (by decide)
  rw [if_pos ⟨h, h1⟩] at hK
  have lg : bLg (gup (cRem σ) (6 + 2 + t.toNatClampNeg) (fof w + 1) v) 30 := by
    unfold bLg
    rw [gup_ne (by omega), gup_ne (by omega)]
    exact lR
  have d2 : (w = 0 ∨ w = 1) ↔ w < 2 := by rcases hw with e | e | e | e | e <;> subst e <;> decide
  refine ⟨nt.1, tv, ⟨tv, hw⟩, fun h2 => ?_, fun h2 => ?_⟩
  · have h2 : ¬ fld (cR σ 6) t.toNatClampNeg (fof w) = v := by rw [ef]; exact h2
    have fin : ¬ (w = 4 ∧ ¬ (v = 1 ∨ cR σ 6 1 ≤ fld (cR σ 6) t.toNatClampNeg 0 / 4)) → (bPa σ ∧ 0 ≤ σ 6 7 ∧ σ 6 7 ≤ 20) ∧ gTv (6 + 2 + t.toNatClampNeg) ∧ (gTv (6 + 2 + t.toNatClampNeg) ∧ (w = 0 ∨ w = 1 ∨ w = 2 ∨ w = 3 ∨ w = 4)) ∧ bLg (gup (cRem σ) (6 + 2 + t.toNatClampNeg) (fof w + 1) v) 30 ∧ ((w < 2 → K (some (.int (σ (6 + 2 + t.toNatClampNeg) (fof w + 1) + 9))) (cAdd (gup (cRem σ) (6 + 2 + t.toNatClampNeg) (fof w + 1) v) 6 (10 * t + w) (σ (6 + 2 + t.toNatClampNeg) (fof w + 1)))) ∧ (¬ w < 2 → K (some (.int (σ (6 + 2 + t.toNatClampNeg) (fof w + 1)))) (cAdd (gup (cRem σ) (6 + 2 + t.toNatClampNeg) (fof w + 1) v) 6 (10 * t + w) (σ (6 + 2 + t.toNatClampNeg) (fof w + 1))))) := by
      intro h4
      rw [if_neg h2, if_neg h4, if_pos (show gSet (cR σ 6) t w v from ⟨⟨⟨h, h1⟩, h2⟩, h4⟩), ef] at hK
      refine ⟨⟨hP, h7⟩, tv, ⟨tv, hw⟩, lg, fun q => ?_, fun q => ?_⟩
      · rw [if_pos q] at hK; exact hK
      · rw [if_neg q] at hK; exact hK
    have no4 : w = 4 → ¬ (v = 1 ∨ cR σ 6 1 ≤ σ (6 + 2 + t.toNatClampNeg) 1 / 4) → K (some (.int (-4))) σ := by
      intro h4 h5
      have h6 : w = 4 ∧ ¬ (v = 1 ∨ cR σ 6 1 ≤ fld (cR σ 6) t.toNatClampNeg 0 / 4) := ⟨h4, by rw [e0]; exact h5⟩
      rw [if_neg h2, if_pos h6, if_neg (show ¬ gSet (cR σ 6) t w v from fun q => q.2 h6)] at hK
      exact hK
    rw [e0] at fin
    grind
  · have h2 : fld (cR σ 6) t.toNatClampNeg (fof w) = v := by rw [ef]; exact h2
    rw [if_pos h2, if_neg (show ¬ gSet (cR σ 6) t w v from fun q => q.1.2 h2)] at hK
    exact hK
noncomputable def f113 : gD := fun Lv σ => match Lv with
  | [some (.ref q0), some (.int t), some (.int w), some (.int v), none, none, none] => cond (Nat.beq q0 0) (some (some (SC σ), some (.int (aSet (cR σ 6) t w v)), if gSet (cR σ 6) t w v then cAdd (gup (cRem σ) (6 + 2 + t.toNatClampNeg) (fof w + 1) v) 6 (10 * t + w) (σ (6 + 2 + t.toNatClampNeg) (fof w + 1)) else σ)) none
  | _ => none
theorem ok113 : gFok 113 f113 := by
  intro Lv σ q h hc K hK
  unfold f113 at h
  split at h
  · rename_i q0 t w v
    obtain ⟨hb, h⟩ := c_no h
    have hb0 := hb
    have e0 := b_eq hb0
    subst e0
    cases h
    exact s113 (hc _ rfl) hK
  · cases h
-- text 38
/-! THE CLASS: its calls, keep, restore, undo -/
theorem gpl_59 : ∀ j, j < 2 → gpl 59 j = 60 + 26 * j := by decide +kernel
theorem s01b {f : Int32} (h : 0 ≤ f ∧ f ≤ 1) : 0 ≤ f ∧ f < 2 := ⟨h.1, by have := h.2; grind⟩
set_option maxRecDepth 20000 in
theorem w120 {σ : gS} {K : gK} {f : Int32} (h : ((¬ (bI ((0 : Int32) ≤ f ∧ f ≤ (1 : Int32))) = 0 → (0 ≤ f ∧ f < 2) ∧ gE 120 17 [some (.ref 0), some (.int f)] [.ref (gpl 59 f.toNatClampNeg)] σ K) ∧ ((bI ((0 : Int32) ≤ f ∧ f ≤ (1 : Int32))) = 0 → K (some (.int (-1))) σ))) : gE 120 0 [some (.ref 0), some (.int f)] [] σ K :=
  gw_run (cy := 120) (cuts := [17]) (inl := []) (pf := gpcw) gpcw_ok 400 (by decide) h
set_option maxRecDepth 20000 in
theorem c120_60 {σ : gS} {K : gK} {f : Int32} (h : (0 ≤ σ 6 7 ∧ σ 6 7 ≤ 20) ∧ ((0 ≤ f ∧ f < 2) ∧ ((1 : Int32) = 0 ∨ (1 : Int32) = 1)) ∧ K (some (.int ((gup (cCo σ 60 6) 112 f.toNatClampNeg 1) 6 7))) (gup (cCo σ 60 6) 112 f.toNatClampNeg 1)) : gE 120 17 [some (.ref 0), some (.int f)] [.ref 60] σ K :=
  gw_run (cy := 120) (cuts := []) (inl := []) (pf := gpcw) gpcw_ok 400 (by decide) h
set_option maxRecDepth 20000 in
theorem c120_86 {σ : gS} {K : gK} {f : Int32} (h : (0 ≤ σ 6 7 ∧ σ 6 7 ≤ 20) ∧ ((0 ≤ f ∧ f < 2) ∧ ((1 : Int32) = 0 ∨ (1 : Int32) = 1)) ∧ K (some (.int ((gup (cCo σ 86 6) 112 f.toNatClampNeg 1) 6 7))) (gup (cCo σ 86 6) 112 f.toNatClampNeg 1)) : gE 120 17 [some (.ref 0), some (.int f)] [.ref 86] σ K :=
  gw_run (cy := 120) (cuts := []) (inl := []) (pf := gpcw) gpcw_ok 400 (by decide) h
theorem s120 {σ : gS} {K : gK} {f : Int32} (hc : SC σ) (hK : K (some (.int (if isSl f then σ 6 7 else -1))) (if isSl f then gup (cCo σ (60 + 26 * f.toNatClampNeg) 6) 112 f.toNatClampNeg 1 else σ)) : gE 120 0 [some (.ref 0), some (.int f)] [] σ K := by
  have h7 := SC_7 hc
  have n7 := (c20 h7).2
  refine w120 ?_
  simp only [bI_0]
  refine ⟨fun h => ?_, fun h => ?_⟩
  · have h := Decidable.not_not.mp h
    rw [if_pos h, if_pos h] at hK
    obtain ⟨e, l⟩ := s01 h
    have hb := s01b h
    obtain ⟨m, hm⟩ : ∃ m, f.toNatClampNeg = m := ⟨_, rfl⟩
    refine ⟨hb, ?_⟩
    rw [gpl_59 _ (by omega)]
    have r7 : ∀ x, gup (cCo σ (60 + 26 * f.toNatClampNeg) 6) 112 f.toNatClampNeg x 6 7 = σ 6 7 := fun x => by
      rw [gup_ne (by omega), cCo_far (by omega) n7]
    have h2 : f.toNatClampNeg = 0 ∨ f.toNatClampNeg = 1 := by omega
    rcases h2 with q | q <;> rw [q] at hK r7 ⊢
    · refine c120_60 ⟨h7, ⟨hb, by decide⟩, ?_⟩
      rw [q]
      have r7 := r7 1
      rw [show (60 + 26 * 0 : Nat) = 60 from rfl] at r7 hK
      rw [r7]
      exact hK
    · refine c120_86 ⟨h7, ⟨hb, by decide⟩, ?_⟩
      rw [q]
      have r7 := r7 1
      rw [show (60 + 26 * 1 : Nat) = 86 from rfl] at r7 hK
      rw [r7]
      exact hK
  · rw [if_neg h, if_neg h] at hK; exact hK
noncomputable def f120 : gD := fun Lv σ => match Lv with
  | [some (.ref q0), some (.int f)] => cond (Nat.beq q0 0) (some (some (SC σ), some (.int (if isSl f then σ 6 7 else -1)), if isSl f then gup (cCo σ (60 + 26 * f.toNatClampNeg) 6) 112 f.toNatClampNeg 1 else σ)) none
  | _ => none
theorem ok120 : gFok 120 f120 := by
  intro Lv σ q h hc K hK
  unfold f120 at h
  split at h
  · rename_i q0 f
    obtain ⟨hb, h⟩ := c_no h
    have hb0 := hb
    have e0 := b_eq hb0
    subst e0
    cases h
    exact s120 (hc _ rfl) hK
  · cases h
set_option maxRecDepth 20000 in
theorem w121 {σ : gS} {K : gK} {f : Int32} (h : ((¬ (bI ((0 : Int32) ≤ f ∧ f ≤ (1 : Int32))) = 0 → (0 ≤ f ∧ f < 2) ∧ ((¬ (σ 112 f.toNatClampNeg) = 0 → (bPa σ ∧ (0 ≤ σ 6 7 ∧ σ 6 7 ≤ 20)) ∧ (0 ≤ f ∧ f < 2) ∧ gE 121 44 [some (.ref 0), some (.int f)] [.ref (gpl 59 f.toNatClampNeg), .ref 6] (cRem σ) K) ∧ ((σ 112 f.toNatClampNeg) = 0 → K (some (.int (-2))) σ))) ∧ ((bI ((0 : Int32) ≤ f ∧ f ≤ (1 : Int32))) = 0 → K (some (.int (-1))) σ))) : gE 121 0 [some (.ref 0), some (.int f)] [] σ K :=
  gw_run (cy := 121) (cuts := [44]) (inl := []) (pf := gpcw) gpcw_ok 400 (by decide) h
set_option maxRecDepth 20000 in
theorem c121_60 {σ : gS} {K : gK} {f : Int32} (h : (0 ≤ σ 60 7 ∧ σ 60 7 ≤ 20) ∧ K (some (.int ((cCo σ 6 60) 6 7))) (cCo σ 6 60)) : gE 121 44 [some (.ref 0), some (.int f)] [.ref 60, .ref 6] σ K :=
  gw_run (cy := 121) (cuts := []) (inl := []) (pf := gpcw) gpcw_ok 400 (by decide) h
set_option maxRecDepth 20000 in
theorem c121_86 {σ : gS} {K : gK} {f : Int32} (h : (0 ≤ σ 86 7 ∧ σ 86 7 ≤ 20) ∧ K (some (.int ((cCo σ 6 86) 6 7))) (cCo σ 6 86)) : gE 121 44 [some (.ref 0), some (.int f)] [.ref 86, .ref 6] σ K :=
  gw_run (cy := 121) (cuts := []) (inl := []) (pf := gpcw) gpcw_ok 400 (by decide) h
theorem s121 {σ : gS} {K : gK} {f : Int32} (hc : SC σ ∧ (∀ s, s < 2 → 0 ≤ σ (60 + 26 * s) 7 ∧ σ (60 + 26 * s) 7 ≤ 20)) (hK : K (some (.int (if isSl f then (if σ 112 f.toNatClampNeg = 0 then -2 else σ (60 + 26 * f.toNatClampNeg) 7) else -1))) (if isSl f ∧ ¬ σ 112 f.toNatClampNeg = 0 then cCo (cRem σ) 6 (60 + 26 * f.toNatClampNeg) else σ)) : gE 121 0 [some (.ref 0), some (.int f)] [] σ K := by
  obtain ⟨hc, hs⟩ := hc
  have h7 := SC_7 hc
  have n7 := (c20 h7).2
  refine w121 ?_
  simp only [bI_0]
  refine ⟨fun h => ?_, fun h => ?_⟩
  · have h := Decidable.not_not.mp h
    rw [if_pos h] at hK
    obtain ⟨e, l⟩ := s01 h
    have hb := s01b h
    refine ⟨hb, fun h2 => ⟨⟨hc.2.1, h7⟩, hb, ?_⟩, fun h2 => ?_⟩
    · rw [if_neg h2, if_pos ⟨h, h2⟩] at hK
      rw [gpl_59 _ (by omega)]
      have hs := hs f.toNatClampNeg (by omega)
      have er : ∀ q, q < 113 → cRem σ q = σ q := fun q hq => cRem_far (Or.inl hq) h7
      have ns : (cRem σ (60 + 26 * f.toNatClampNeg) 7).toNatClampNeg ≤ 20 := by rw [er _ (by omega)]; exact (c20 hs).2
      have e7 : cCo (cRem σ) 6 (60 + 26 * f.toNatClampNeg) 6 7 = σ (60 + 26 * f.toNatClampNeg) 7 := by
        rw [cCo_hd (by omega) ns (by decide) (by decide), er _ (by omega)]
      have h3 : f.toNatClampNeg = 0 ∨ f.toNatClampNeg = 1 := by omega
      rcases h3 with q | q <;> rw [q] at hK e7 hs ns ⊢
      · refine c121_60 ⟨by rw [er _ (by decide)]; exact hs, ?_⟩
        rw [show (60 + 26 * 0 : Nat) = 60 from rfl] at e7 hK
        rw [e7]; exact hK
      · refine c121_86 ⟨by rw [er _ (by decide)]; exact hs, ?_⟩
        rw [show (60 + 26 * 1 : Nat) = 86 from rfl] at e7 hK
        rw [e7]; exact hK
    · rw [if_pos h2, if_neg (fun q => q.2 h2)] at hK; exact hK
  · rw [if_neg h, if_neg (fun q => h q.1)] at hK; exact hK
noncomputable def f121 : gD := fun Lv σ => match Lv with
  | [some (.ref q0), some (.int f)] => cond (Nat.beq q0 0) (some (some (SC σ ∧ (∀ s, s < 2 → 0 ≤ σ (60 + 26 * s) 7 ∧ σ (60 + 26 * s) 7 ≤ 20)), some (.int (if isSl f then (if σ 112 f.toNatClampNeg = 0 then -2 else σ (60 + 26 * f.toNatClampNeg) 7) else -1)), if isSl f ∧ ¬ σ 112 f.toNatClampNeg = 0 then cCo (cRem σ) 6 (60 + 26 * f.toNatClampNeg) else σ)) none
  | _ => none
theorem ok121 : gFok 121 f121 := by
  intro Lv σ q h hc K hK
  unfold f121 at h
  split at h
  · rename_i q0 f
    obtain ⟨hb, h⟩ := c_no h
    have hb0 := hb
    have e0 := b_eq hb0
    subst e0
    cases h
    exact s121 (hc _ rfl) hK
  · cases h
set_option maxRecDepth 20000 in
theorem w11 {σ : gS} {K : gK} (h : ((¬ 0 < (σ 113 2) → K none σ) ∧ (0 < (σ 113 2) → ((0 ≤ (gup σ 113 2 ((σ 113 2) - 1)) 113 1 + ((gup σ 113 2 ((σ 113 2) - 1)) 113 2) ∧ (gup σ 113 2 ((σ 113 2) - 1)) 113 1 + ((gup σ 113 2 ((σ 113 2) - 1)) 113 2) < 100) ∧ (0 ≤ ((gup σ 113 2 ((σ 113 2) - 1)) 113 1 + ((gup σ 113 2 ((σ 113 2) - 1)) 113 2)) - ((gup σ 113 2 ((σ 113 2) - 1)) 113 1 + ((gup σ 113 2 ((σ 113 2) - 1)) 113 2)) / 8 * 8 ∧ ((gup σ 113 2 ((σ 113 2) - 1)) 113 1 + ((gup σ 113 2 ((σ 113 2) - 1)) 113 2)) - ((gup σ 113 2 ((σ 113 2) - 1)) 113 1 + ((gup σ 113 2 ((σ 113 2) - 1)) 113 2)) / 8 * 8 < 8)) ∧ gE 11 26 [some (.ref 113), some (.ref 6)] [.ref (gpl 114 (((gup σ 113 2 ((σ 113 2) - 1)) 113 1 + ((gup σ 113 2 ((σ 113 2) - 1)) 113 2)) - ((gup σ 113 2 ((σ 113 2) - 1)) 113 1 + ((gup σ 113 2 ((σ 113 2) - 1)) 113 2)) / 8 * 8).toNatClampNeg), .ref 6] (gup σ 113 2 ((σ 113 2) - 1)) K))) : gE 11 0 [some (.ref 113), some (.ref 6)] [] σ K :=
  gw_run (cy := 11) (cuts := [26]) (inl := []) (pf := gpcw) gpcw_ok 400 (by decide) h
set_option maxRecDepth 20000 in
theorem c11_115 {σ : gS} {K : gK} (h : (0 ≤ σ 115 7 ∧ σ 115 7 ≤ 20) ∧ K none (cCo σ 6 115)) : gE 11 26 [some (.ref 113), some (.ref 6)] [.ref 115, .ref 6] σ K :=
  gw_run (cy := 11) (cuts := []) (inl := []) (pf := gpcw) gpcw_ok 400 (by decide) h
set_option maxRecDepth 20000 in
theorem c11_141 {σ : gS} {K : gK} (h : (0 ≤ σ 141 7 ∧ σ 141 7 ≤ 20) ∧ K none (cCo σ 6 141)) : gE 11 26 [some (.ref 113), some (.ref 6)] [.ref 141, .ref 6] σ K :=
  gw_run (cy := 11) (cuts := []) (inl := []) (pf := gpcw) gpcw_ok 400 (by decide) h
set_option maxRecDepth 20000 in
theorem c11_167 {σ : gS} {K : gK} (h : (0 ≤ σ 167 7 ∧ σ 167 7 ≤ 20) ∧ K none (cCo σ 6 167)) : gE 11 26 [some (.ref 113), some (.ref 6)] [.ref 167, .ref 6] σ K :=
  gw_run (cy := 11) (cuts := []) (inl := []) (pf := gpcw) gpcw_ok 400 (by decide) h
set_option maxRecDepth 20000 in
theorem c11_193 {σ : gS} {K : gK} (h : (0 ≤ σ 193 7 ∧ σ 193 7 ≤ 20) ∧ K none (cCo σ 6 193)) : gE 11 26 [some (.ref 113), some (.ref 6)] [.ref 193, .ref 6] σ K :=
  gw_run (cy := 11) (cuts := []) (inl := []) (pf := gpcw) gpcw_ok 400 (by decide) h
set_option maxRecDepth 20000 in
theorem c11_219 {σ : gS} {K : gK} (h : (0 ≤ σ 219 7 ∧ σ 219 7 ≤ 20) ∧ K none (cCo σ 6 219)) : gE 11 26 [some (.ref 113), some (.ref 6)] [.ref 219, .ref 6] σ K :=
  gw_run (cy := 11) (cuts := []) (inl := []) (pf := gpcw) gpcw_ok 400 (by decide) h
set_option maxRecDepth 20000 in
theorem c11_245 {σ : gS} {K : gK} (h : (0 ≤ σ 245 7 ∧ σ 245 7 ≤ 20) ∧ K none (cCo σ 6 245)) : gE 11 26 [some (.ref 113), some (.ref 6)] [.ref 245, .ref 6] σ K :=
  gw_run (cy := 11) (cuts := []) (inl := []) (pf := gpcw) gpcw_ok 400 (by decide) h
set_option maxRecDepth 20000 in
theorem c11_271 {σ : gS} {K : gK} (h : (0 ≤ σ 271 7 ∧ σ 271 7 ≤ 20) ∧ K none (cCo σ 6 271)) : gE 11 26 [some (.ref 113), some (.ref 6)] [.ref 271, .ref 6] σ K :=
  gw_run (cy := 11) (cuts := []) (inl := []) (pf := gpcw) gpcw_ok 400 (by decide) h
set_option maxRecDepth 20000 in
theorem c11_297 {σ : gS} {K : gK} (h : (0 ≤ σ 297 7 ∧ σ 297 7 ≤ 20) ∧ K none (cCo σ 6 297)) : gE 11 26 [some (.ref 113), some (.ref 6)] [.ref 297, .ref 6] σ K :=
  gw_run (cy := 11) (cuts := []) (inl := []) (pf := gpcw) gpcw_ok 400 (by decide) h
def cBk (σ : gS) : gS := cCo (gup σ 113 2 (σ 113 2 - 1)) 6 (cPl σ ((σ 113 2).toNatClampNeg - 1))
theorem s11 {σ : gS} {K : gK} (hc : bPa σ ∧ ¬ σ 113 2 = 0 ∧ ∀ j, j < 8 → 0 ≤ σ (115 + 26 * j) 7 ∧ σ (115 + 26 * j) 7 ≤ 20) (hK : K none (cBk σ)) : gE 11 0 [some (.ref 113), some (.ref 6)] [] σ K := by
  obtain ⟨hp, h0, hs⟩ := hc
  obtain ⟨O, C, eo, ec, lo, lc, no, nc⟩ := bPa_n hp
  have C0 : 1 ≤ C := by
    rw [ec] at h0
    have : C ≠ 0 := fun q => h0 (by rw [q]; rfl)
    omega
  unfold cBk at hK
  have eP : cPl σ ((σ 113 2).toNatClampNeg - 1) = 115 + 26 * ((O + (C - 1)) % 8) := by unfold cPl; rw [no, nc]
  have e1 : iN C - 1 = iN (C - 1) := iN_sub (d := 1) (by omega) (by omega)
  rw [eP, ec, e1] at hK
  have hm : (O + (C - 1)) % 8 < 8 := Nat.mod_lt _ (by decide)
  have em : (iN O + iN (C - 1)) - (iN O + iN (C - 1)) / 8 * 8 = iN ((O + (C - 1)) % 8) := by
    rw [iN_add]
    exact iN_mod (d := 8) (by omega) (by decide)
  refine w11 ⟨fun h => ?_, fun h => ?_⟩
  · exfalso
    apply h
    rw [ec]
    exact (iN_lt (k := 0) (by decide) (by omega)).mpr (by omega)
  · rw [ec, e1]
    have r1 : gup σ 113 2 (iN (C - 1)) 113 1 = iN O := by rw [gup_ne (by omega)]; exact eo
    rw [r1, gup_at, em]
    refine ⟨⟨?_, ?_⟩, ?_⟩
    · rw [iN_add]
      exact ⟨(iN_le (k := 0) (by decide) (by omega)).mpr (by omega), (iN_lt (m := 100) (by omega) (by decide)).mpr (by omega)⟩
    · exact ⟨(iN_le (k := 0) (by decide) (by omega)).mpr (by omega), (iN_lt (m := 8) (by omega) (by decide)).mpr hm⟩
    · rw [iN_nat (by omega), gpl_114 _ hm]
      have h7 := hs _ hm
      have h7 : 0 ≤ gup σ 113 2 (iN (C - 1)) (115 + 26 * ((O + (C - 1)) % 8)) 7 ∧ gup σ 113 2 (iN (C - 1)) (115 + 26 * ((O + (C - 1)) % 8)) 7 ≤ 20 := by rw [gup_ne (by omega)]; exact h7
      have h8 : (O + (C - 1)) % 8 = 0 ∨ (O + (C - 1)) % 8 = 1 ∨ (O + (C - 1)) % 8 = 2 ∨ (O + (C - 1)) % 8 = 3 ∨ (O + (C - 1)) % 8 = 4 ∨ (O + (C - 1)) % 8 = 5 ∨ (O + (C - 1)) % 8 = 6 ∨ (O + (C - 1)) % 8 = 7 := by omega
      rcases h8 with h | h | h | h | h | h | h | h <;> rw [h] at h7 hK ⊢
      · exact c11_115 ⟨h7, hK⟩
      · exact c11_141 ⟨h7, hK⟩
      · exact c11_167 ⟨h7, hK⟩
      · exact c11_193 ⟨h7, hK⟩
      · exact c11_219 ⟨h7, hK⟩
      · exact c11_245 ⟨h7, hK⟩
      · exact c11_271 ⟨h7, hK⟩
      · exact c11_297 ⟨h7, hK⟩
noncomputable def f11 : gD := fun Lv σ => match Lv with
  | [some (.ref q0), some (.ref q1)] => cond ((Nat.beq q0 113) && (Nat.beq q1 6)) (some (some (bPa σ ∧ ¬ σ 113 2 = 0 ∧ ∀ j, j < 8 → 0 ≤ σ (115 + 26 * j) 7 ∧ σ (115 + 26 * j) 7 ≤ 20), none, cBk σ)) none
  | _ => none
theorem ok11 : gFok 11 f11 := by
  intro Lv σ q h hc K hK
  unfold f11 at h
  split at h
  · rename_i q0 q1
    obtain ⟨hb, h⟩ := c_no h
    obtain ⟨hc1, hb1⟩ := s_and hb
    have hb0 := hc1
    have e0 := b_eq hb0
    subst e0
    have e1 := b_eq hb1
    subst e1
    cases h
    exact s11 (hc _ rfl) hK
  · cases h
noncomputable def gpcx_l : List (Nat × gD) := (11, f11) :: gpcw_l
noncomputable def gpcx : gP := gpl0 gpcx_l
theorem gpcx_ok : gPok gpcx := gpl0_cons ok11 (gpcw_ok)
set_option maxRecDepth 20000 in
theorem w122 {σ : gS} {K : gK} (h : ((¬ (σ 113 2) = 0 → (bPa σ ∧ ¬ σ 113 2 = 0 ∧ ∀ j, j < 8 → 0 ≤ σ (115 + 26 * j) 7 ∧ σ (115 + 26 * j) 7 ≤ 20) ∧ K (some (.int ((cBk σ) 113 2))) (cBk σ)) ∧ ((σ 113 2) = 0 → K (some (.int (-1))) σ))) : gE 122 0 [some (.ref 0)] [] σ K :=
  gw_run (cy := 122) (cuts := []) (inl := []) (pf := gpcx) gpcx_ok 400 (by decide) h
theorem s122 {σ : gS} {K : gK} (hc : bPa σ ∧ ∀ j, j < 8 → 0 ≤ σ (115 + 26 * j) 7 ∧ σ (115 + 26 * j) 7 ≤ 20) (hK : K (some (.int (if σ 113 2 = 0 then -1 else σ 113 2 - 1))) (if σ 113 2 = 0 then σ else cBk σ)) : gE 122 0 [some (.ref 0)] [] σ K := by
  refine w122 ⟨fun h => ?_, fun h => ?_⟩
  · rw [if_neg h, if_neg h] at hK
    refine ⟨⟨hc.1, h, hc.2⟩, ?_⟩
    obtain ⟨O, C, eo, ec, lo, lc, no, nc⟩ := bPa_n hc.1
    have hm : (O + ((σ 113 2).toNatClampNeg - 1)) % 8 < 8 := Nat.mod_lt _ (by decide)
    have e : cBk σ 113 2 = σ 113 2 - 1 := by
      unfold cBk
      have n20 : (gup σ 113 2 (σ 113 2 - 1) (cPl σ ((σ 113 2).toNatClampNeg - 1)) 7).toNatClampNeg ≤ 20 := by
        unfold cPl
        rw [no, gup_ne (by omega)]
        exact (c20 (hc.2 _ hm)).2
      rw [cCo_far (by omega) n20, gup_at]
    rw [e]; exact hK
  · rw [if_pos h, if_pos h] at hK; exact hK
noncomputable def f122 : gD := fun Lv σ => match Lv with
  | [some (.ref q0)] => cond (Nat.beq q0 0) (some (some (bPa σ ∧ ∀ j, j < 8 → 0 ≤ σ (115 + 26 * j) 7 ∧ σ (115 + 26 * j) 7 ≤ 20), some (.int (if σ 113 2 = 0 then -1 else σ 113 2 - 1)), if σ 113 2 = 0 then σ else cBk σ)) none
  | _ => none
theorem ok122 : gFok 122 f122 := by
  intro Lv σ q h hc K hK
  unfold f122 at h
  split at h
  · rename_i q0
    obtain ⟨hb, h⟩ := c_no h
    have hb0 := hb
    have e0 := b_eq hb0
    subst e0
    cases h
    exact s122 (hc _ rfl) hK
  · cases h
