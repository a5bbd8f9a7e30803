/-! THE CLASS: its calls, ring, set, keep, restore, undo -/
noncomputable def gpcw_l : List (Nat × gD) := (92, f92) :: (54, f54) :: (104, f104) :: (105, f105) :: gpcv_l
noncomputable def gpcw : gP := gpl0 gpcw_l
theorem gpcw_ok : gPok gpcw := gpl0_cons ok92 (gpl0_cons ok54 (gpl0_cons ok104 (gpl0_cons ok105 (gpcv_ok))))
set_option maxRecDepth 20000 in
theorem w117 {σ : gS} {K : gK} {a b c : Int32} (h : (((bI (isP (cR σ 6) a b)) = 0 → K (some (.int (-1))) σ) ∧ (¬ (bI (isP (cR σ 6) a b)) = 0 → (((bI (isP (cR σ 6) b c)) = 0 → K (some (.int (-1))) σ) ∧ (¬ (bI (isP (cR σ 6) b c)) = 0 → ((¬ a = c → ((isN σ 6 a ∧ isN σ 6 b ∧ isN σ 6 c) ∧ (a.toNatClampNeg ≠ b.toNatClampNeg ∧ b.toNatClampNeg ≠ c.toNatClampNeg ∧ a.toNatClampNeg ≠ c.toNatClampNeg) ∧ TC σ 6 ∧ bF (cR σ 6)) ∧ (((fWhyR (cR σ 6) a.toNatClampNeg b.toNatClampNeg c.toNatClampNeg) = 0 → ((isN σ 6 a ∧ isN σ 6 b ∧ isN σ 6 c) ∧ (a.toNatClampNeg ≠ b.toNatClampNeg ∧ b.toNatClampNeg ≠ c.toNatClampNeg ∧ a.toNatClampNeg ≠ c.toNatClampNeg) ∧ TC σ 6) ∧ (bPa σ ∧ (0 ≤ σ 6 7 ∧ σ 6 7 ≤ 20)) ∧ ((isN (cRem σ) 6 a ∧ isN (cRem σ) 6 b ∧ isN (cRem σ) 6 c) ∧ (a.toNatClampNeg ≠ b.toNatClampNeg ∧ b.toNatClampNeg ≠ c.toNatClampNeg ∧ a.toNatClampNeg ≠ c.toNatClampNeg) ∧ TC (cRem σ) 6 ∧ bLg (cRem σ) 30) ∧ K (some (.int (fROR (cR σ 6) a.toNatClampNeg b.toNatClampNeg c.toNatClampNeg))) (cDri (cRem σ) a.toNatClampNeg b.toNatClampNeg c.toNatClampNeg)) ∧ (¬ (fWhyR (cR σ 6) a.toNatClampNeg b.toNatClampNeg c.toNatClampNeg) = 0 → K (some (.int (-10 - (fWhyR (cR σ 6) a.toNatClampNeg b.toNatClampNeg c.toNatClampNeg)))) σ))) ∧ (a = c → K (some (.int (-1))) σ))))))) : gE 117 0 [some (.ref 0), some (.int a), some (.int b), some (.int c), none, none] [] σ K :=
  gw_run (cy := 117) (cuts := []) (inl := []) (pf := gpcw) gpcw_ok 400 (by decide) h
theorem s117 {σ : gS} {K : gK} {a b c : Int32} (hc : SC σ ∧ bF (cR σ 6)) (hK : K (some (.int (aRin (cR σ 6) a b c))) (if gRin (cR σ 6) a b c then cDri (cRem σ) a.toNatClampNeg b.toNatClampNeg c.toNatClampNeg else σ)) : gE 117 0 [some (.ref 0), some (.int a), some (.int b), some (.int c), none, none] [] σ K := by
  obtain ⟨hc, hF⟩ := hc
  obtain ⟨eR, tR, lR⟩ := SC_rem hc
  have h7 := SC_7 hc
  obtain ⟨hT, hP, hL, h0⟩ := hc
  unfold aRin at hK
  have hz := fWhyR_c (R := cR σ 6) (a := a.toNatClampNeg) (b := b.toNatClampNeg) (c := c.toNatClampNeg)
  refine w117 ?_
  simp only [bI_0]
  have no : ¬ isR3 (cR σ 6) a b c → K (some (.int (-1))) σ := by
    intro q
    rw [if_neg q, if_neg (fun e => q e.1)] at hK
    exact hK
  refine ⟨fun h => no (fun q => h q.1.1), fun h => ⟨fun h1 => no (fun q => h1 q.1.2), fun h1 => ⟨fun h2 => ?_, fun h2 => no (fun q => q.2 h2)⟩⟩⟩
  have h := Decidable.not_not.mp h
  have h1 := Decidable.not_not.mp h1
  have na := isN_of hT.1 h.1.1
  have nb := isN_of hT.1 h.1.2
  have nc := isN_of hT.1 h1.1.2
  have hd : a.toNatClampNeg ≠ b.toNatClampNeg ∧ b.toNatClampNeg ≠ c.toNatClampNeg ∧ a.toNatClampNeg ≠ c.toNatClampNeg := ⟨nn_ne na.1 nb.1 h.2, nn_ne nb.1 nc.1 h1.2, nn_ne na.1 nc.1 h2⟩
  have h3 : isR3 (cR σ 6) a b c := ⟨⟨h, h1⟩, h2⟩
  rw [if_pos h3] at hK
  refine ⟨⟨⟨na, nb, nc⟩, hd, hT, hF⟩, fun h4 => ⟨⟨⟨na, nb, nc⟩, hd, hT⟩, ⟨hP, h7⟩, ⟨⟨⟨na.1, by rw [eR]; exact na.2⟩, ⟨nb.1, by rw [eR]; exact nb.2⟩, ⟨nc.1, by rw [eR]; exact nc.2⟩⟩, hd, tR, lR⟩, ?_⟩, fun h4 => ?_⟩
  · have n2 : ¬ 0 < fWhyR (cR σ 6) a.toNatClampNeg b.toNatClampNeg c.toNatClampNeg := by rw [h4]; decide
    rw [if_neg n2, if_pos (show gRin (cR σ 6) a b c from ⟨h3, n2⟩)] at hK
    exact hK
  · have n2 : 0 < fWhyR (cR σ 6) a.toNatClampNeg b.toNatClampNeg c.toNatClampNeg := hz.resolve_left h4
    rw [if_pos n2, if_neg (show ¬ gRin (cR σ 6) a b c from fun q => q.2 n2)] at hK
    exact hK
noncomputable def f117 : gD := fun Lv σ => match Lv with
  | [some (.ref q0), some (.int a), some (.int b), some (.int c), none, none] => cond (Nat.beq q0 0) (some (some (SC σ ∧ bF (cR σ 6)), some (.int (aRin (cR σ 6) a b c)), if gRin (cR σ 6) a b c then cDri (cRem σ) a.toNatClampNeg b.toNatClampNeg c.toNatClampNeg else σ)) none
  | _ => none
theorem ok117 : gFok 117 f117 := by
  intro Lv σ q h hc K hK
  unfold f117 at h
  split at h
  · rename_i q0 a b c
    obtain ⟨hb, h⟩ := c_no h
    have hb0 := hb
    have e0 := b_eq hb0
    subst e0
    cases h
    exact s117 (hc _ rfl) hK
  · cases h
set_option maxRecDepth 20000 in
theorem w113 {σ : gS} {K : gK} {t w v : Int32} (h : (((bI (isT (cR σ 6) t)) = 0 → K (some (.int (-1))) σ) ∧ (¬ (bI (isT (cR σ 6) t)) = 0 → ((¬ (bI (inR (cR σ 6) w v)) = 0 → (0 ≤ t ∧ t < 20) ∧ gTv (6 + 2 + t.toNatClampNeg) ∧ (gTv (6 + 2 + t.toNatClampNeg) ∧ (w = 0 ∨ w = 1 ∨ w = 2 ∨ w = 3 ∨ w = 4)) ∧ ((¬ (σ (6 + 2 + t.toNatClampNeg) (fof w + 1)) = v → ((¬ w = 4 → (bPa σ ∧ (0 ≤ σ 6 7 ∧ σ 6 7 ≤ 20)) ∧ gTv (6 + 2 + t.toNatClampNeg) ∧ (gTv (6 + 2 + t.toNatClampNeg) ∧ (w = 0 ∨ w = 1 ∨ w = 2 ∨ w = 3 ∨ w = 4)) ∧ (bLg (gup (cRem σ) (6 + 2 + t.toNatClampNeg) (fof w + 1) v) 30) ∧ ((w = 0 → (((1 : Int32) = 0 → K (some (.int (σ (6 + 2 + t.toNatClampNeg) (fof w + 1)))) (cAdd (gup (cRem σ) (6 + 2 + t.toNatClampNeg) (fof w + 1) v) (6 : Int32) ((10 * t) + w) (σ (6 + 2 + t.toNatClampNeg) (fof w + 1)))) ∧ (¬ (1 : Int32) = 0 → K (some (.int ((σ (6 + 2 + t.toNatClampNeg) (fof w + 1)) + 9))) (cAdd (gup (cRem σ) (6 + 2 + t.toNatClampNeg) (fof w + 1) v) (6 : Int32) ((10 * t) + w) (σ (6 + 2 + t.toNatClampNeg) (fof w + 1)))))) ∧ (¬ w = 0 → ((¬ w = 1 → (((0 : Int32) = 0 → K (some (.int (σ (6 + 2 + t.toNatClampNeg) (fof w + 1)))) (cAdd (gup (cRem σ) (6 + 2 + t.toNatClampNeg) (fof w + 1) v) (6 : Int32) ((10 * t) + w) (σ (6 + 2 + t.toNatClampNeg) (fof w + 1)))) ∧ (¬ (0 : Int32) = 0 → K (some (.int ((σ (6 + 2 + t.toNatClampNeg) (fof w + 1)) + 9))) (cAdd (gup (cRem σ) (6 + 2 + t.toNatClampNeg) (fof w + 1) v) (6 : Int32) ((10 * t) + w) (σ (6 + 2 + t.toNatClampNeg) (fof w + 1)))))) ∧ (w = 1 → (((1 : Int32) = 0 → K (some (.int (σ (6 + 2 + t.toNatClampNeg) (fof w + 1)))) (cAdd (gup (cRem σ) (6 + 2 + t.toNatClampNeg) (fof w + 1) v) (6 : Int32) ((10 * t) + w) (σ (6 + 2 + t.toNatClampNeg) (fof w + 1)))) ∧ (¬ (1 : Int32) = 0 → K (some (.int ((σ (6 + 2 + t.toNatClampNeg) (fof w + 1)) + 9))) (cAdd (gup (cRem σ) (6 + 2 + t.toNatClampNeg) (fof w + 1) v) (6 : Int32) ((10 * t) + w) (σ (6 + 2 + t.toNatClampNeg) (fof w + 1)))))))))) ∧ (w = 4 → gTv (6 + 2 + t.toNatClampNeg) ∧ ((¬ (bI (v = 1 ∨ cR σ 6 1 ≤ (σ (6 + 2 + t.toNatClampNeg) 1) / 4)) = 0 → (bPa σ ∧ (0 ≤ σ 6 7 ∧ σ 6 7 ≤ 20)) ∧ gTv (6 + 2 + t.toNatClampNeg) ∧ (gTv (6 + 2 + t.toNatClampNeg) ∧ (w = 0 ∨ w = 1 ∨ w = 2 ∨ w = 3 ∨ w = 4)) ∧ (bLg (gup (cRem σ) (6 + 2 + t.toNatClampNeg) (fof w + 1) v) 30) ∧ ((w = 0 → (((1 : Int32) = 0 → K (some (.int (σ (6 + 2 + t.toNatClampNeg) (fof w + 1)))) (cAdd (gup (cRem σ) (6 + 2 + t.toNatClampNeg) (fof w + 1) v) (6 : Int32) ((10 * t) + w) (σ (6 + 2 + t.toNatClampNeg) (fof w + 1)))) ∧ (¬ (1 : Int32) = 0 → K (some (.int ((σ (6 + 2 + t.toNatClampNeg) (fof w + 1)) + 9))) (cAdd (gup (cRem σ) (6 + 2 + t.toNatClampNeg) (fof w + 1) v) (6 : Int32) ((10 * t) + w) (σ (6 + 2 + t.toNatClampNeg) (fof w + 1)))))) ∧ (¬ w = 0 → ((¬ w = 1 → (((0 : Int32) = 0 → K (some (.int (σ (6 + 2 + t.toNatClampNeg) (fof w + 1)))) (cAdd (gup (cRem σ) (6 + 2 + t.toNatClampNeg) (fof w + 1) v) (6 : Int32) ((10 * t) + w) (σ (6 + 2 + t.toNatClampNeg) (fof w + 1)))) ∧ (¬ (0 : Int32) = 0 → K (some (.int ((σ (6 + 2 + t.toNatClampNeg) (fof w + 1)) + 9))) (cAdd (gup (cRem σ) (6 + 2 + t.toNatClampNeg) (fof w + 1) v) (6 : Int32) ((10 * t) + w) (σ (6 + 2 + t.toNatClampNeg) (fof w + 1)))))) ∧ (w = 1 → (((1 : Int32) = 0 → K (some (.int (σ (6 + 2 + t.toNatClampNeg) (fof w + 1)))) (cAdd (gup (cRem σ) (6 + 2 + t.toNatClampNeg) (fof w + 1) v) (6 : Int32) ((10 * t) + w) (σ (6 + 2 + t.toNatClampNeg) (fof w + 1)))) ∧ (¬ (1 : Int32) = 0 → K (some (.int ((σ (6 + 2 + t.toNatClampNeg) (fof w + 1)) + 9))) (cAdd (gup (cRem σ) (6 + 2 + t.toNatClampNeg) (fof w + 1) v) (6 : Int32) ((10 * t) + w) (σ (6 + 2 + t.toNatClampNeg) (fof w + 1)))))))))) ∧ ((bI (v = 1 ∨ cR σ 6 1 ≤ (σ (6 + 2 + t.toNatClampNeg) 1) / 4)) = 0 → K (some (.int (-4))) σ))))) ∧ ((σ (6 + 2 + t.toNatClampNeg) (fof w + 1)) = v → K (some (.int (-2))) σ))) ∧ ((bI (inR (cR σ 6) w v)) = 0 → K (some (.int (-1))) σ))))) : gE 113 0 [some (.ref 0), some (.int t), some (.int w), some (.int v), none, none, none] [] σ K :=
  gw_run (cy := 113) (cuts := []) (inl := []) (pf := gpcw) gpcw_ok 400 (by decide) h
theorem s113 {σ : gS} {K : gK} {t w v : Int32} (hc : SC σ) (hK : K (some (.int (aSet (cR σ 6) t w v))) (if gSet (cR σ 6) t w v then cAdd (gup (cRem σ) (6 + 2 + t.toNatClampNeg) (fof w + 1) v) 6 (10 * t + w) (σ (6 + 2 + t.toNatClampNeg) (fof w + 1)) else σ)) : gE 113 0 [some (.ref 0), some (.int t), some (.int w), some (.int v), none, none, none] [] σ K := by
  obtain ⟨eR, tR, lR⟩ := SC_rem hc
  have h7 := SC_7 hc
  obtain ⟨hT, hP, hL, h0⟩ := hc
  unfold aSet at hK
  refine w113 ?_
  simp only [bI_0]
  have no : ¬ (isT (cR σ 6) t ∧ inR (cR σ 6) w v) → K (some (.int (-1))) σ := by
    intro q
    rw [if_neg q, if_neg (fun e => q e.1.1)] at hK
    exact hK
  refine ⟨fun h => no (fun q => h q.1), fun h => ⟨fun h1 => ?_, fun h1 => no (fun q => h1 q.2)⟩⟩
  have h := Decidable.not_not.mp h
  have h1 := Decidable.not_not.mp h1
  have nt := isN_of hT.1 h
  have lt := n20 nt.1
  have tv := tv_6 _ lt
  have fl := fof_le h1
  have hw := inR_cases h1
  have ef := cR_f (σ := σ) (p := 6) (t := t.toNatClampNeg) (f := fof w) lt (by omega)
  have e0 := cR_f (σ := σ) (p := 6) (t := t.toNatClampNeg) (f := 0) lt (by decide)
  rw [if_pos ⟨h, h1⟩] at hK
  have lg : bLg (gup (cRem σ) (6 + 2 + t.toNatClampNeg) (fof w + 1) v) 30 := by
    unfold bLg
    rw [gup_ne (by omega), gup_ne (by omega)]
    exact lR
  have d2 : (w = 0 ∨ w = 1) ↔ w < 2 := by rcases hw with e | e | e | e | e <;> subst e <;> decide
  refine ⟨nt.1, tv, ⟨tv, hw⟩, fun h2 => ?_, fun h2 => ?_⟩
  · have h2 : ¬ fld (cR σ 6) t.toNatClampNeg (fof w) = v := by rw [ef]; exact h2
    have fin : ¬ (w = 4 ∧ ¬ (v = 1 ∨ cR σ 6 1 ≤ fld (cR σ 6) t.toNatClampNeg 0 / 4)) → (bPa σ ∧ 0 ≤ σ 6 7 ∧ σ 6 7 ≤ 20) ∧ gTv (6 + 2 + t.toNatClampNeg) ∧ (gTv (6 + 2 + t.toNatClampNeg) ∧ (w = 0 ∨ w = 1 ∨ w = 2 ∨ w = 3 ∨ w = 4)) ∧ bLg (gup (cRem σ) (6 + 2 + t.toNatClampNeg) (fof w + 1) v) 30 ∧ ((w < 2 → K (some (.int (σ (6 + 2 + t.toNatClampNeg) (fof w + 1) + 9))) (cAdd (gup (cRem σ) (6 + 2 + t.toNatClampNeg) (fof w + 1) v) 6 (10 * t + w) (σ (6 + 2 + t.toNatClampNeg) (fof w + 1)))) ∧ (¬ w < 2 → K (some (.int (σ (6 + 2 + t.toNatClampNeg) (fof w + 1)))) (cAdd (gup (cRem σ) (6 + 2 + t.toNatClampNeg) (fof w + 1) v) 6 (10 * t + w) (σ (6 + 2 + t.toNatClampNeg) (fof w + 1))))) := by
      intro h4
      rw [if_neg h2, if_neg h4, if_pos (show gSet (cR σ 6) t w v from ⟨⟨⟨h, h1⟩, h2⟩, h4⟩), ef] at hK
      refine ⟨⟨hP, h7⟩, tv, ⟨tv, hw⟩, lg, fun q => ?_, fun q => ?_⟩
      · rw [if_pos q] at hK; exact hK
      · rw [if_neg q] at hK; exact hK
    have no4 : w = 4 → ¬ (v = 1 ∨ cR σ 6 1 ≤ σ (6 + 2 + t.toNatClampNeg) 1 / 4) → K (some (.int (-4))) σ := by
      intro h4 h5
      have h6 : w = 4 ∧ ¬ (v = 1 ∨ cR σ 6 1 ≤ fld (cR σ 6) t.toNatClampNeg 0 / 4) := ⟨h4, by rw [e0]; exact h5⟩
      rw [if_neg h2, if_pos h6, if_neg (show ¬ gSet (cR σ 6) t w v from fun q => q.2 h6)] at hK
      exact hK
    rw [e0] at fin
    grind
  · have h2 : fld (cR σ 6) t.toNatClampNeg (fof w) = v := by rw [ef]; exact h2
    rw [if_pos h2, if_neg (show ¬ gSet (cR σ 6) t w v from fun q => q.1.2 h2)] at hK
    exact hK
noncomputable def f113 : gD := fun Lv σ => match Lv with
  | [some (.ref q0), some (.int t), some (.int w), some (.int v), none, none, none] => cond (Nat.beq q0 0) (some (some (SC σ), some (.int (aSet (cR σ 6) t w v)), if gSet (cR σ 6) t w v then cAdd (gup (cRem σ) (6 + 2 + t.toNatClampNeg) (fof w + 1) v) 6 (10 * t + w) (σ (6 + 2 + t.toNatClampNeg) (fof w + 1)) else σ)) none
  | _ => none
theorem ok113 : gFok 113 f113 := by
  intro Lv σ q h hc K hK
  unfold f113 at h
  split at h
  · rename_i q0 t w v
    obtain ⟨hb, h⟩ := c_no h
    have hb0 := hb
    have e0 := b_eq hb0
    subst e0
    cases h
    exact s113 (hc _ rfl) hK
  · cases h
