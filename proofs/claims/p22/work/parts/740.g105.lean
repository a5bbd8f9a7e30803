-- text 105
/-! QUERIES: value, of, table, family, letter, log, ranked -/
noncomputable def aVl (R : gW) (m : Int32 → Int32) (lg un w : Int32) : Int32 := if w = 0 then R 0 else if w = 1 then R 1 else if w = 2 then R 2 else if w = 3 then R 3 else if w = 4 then 4 * R 0 - R 3 else if w = 5 then fJa R + 10000 else if w = 6 then fGr R else if w = 7 then fSw R else if w = 8 then R 4 else if w = 9 then R 5 else if w = 10 then R 6 else if w = 11 then R 7 else if w = 12 then R 8 else if w = 13 then (R 0 + 1) / 2 else if w = 14 then fFs m else if w = 15 then lg else if w = 16 then un else -1
noncomputable def aOf0 (R : gW) (rel : Int32) (t : Nat) (w : Int32) : Int32 := if w = 0 then fld R t 0 else if w = 1 then fld R t 1 else if w = 2 then fld R t 2 else if w = 3 then fld R t 3 + 9 else if w = 4 then fld R t 4 + 9 else if w = 5 then fld R t 5 else if w = 6 then fld R t 6 else if w = 7 then fld R t 7 else if w = 8 then fld R t 8 else if w = 9 then fJo R t + 100 else if w = 10 then rel else if w = 11 then fPl R t else -1
noncomputable def aOf (R : gW) (rel : Int32) (t w : Int32) : Int32 := if isT R t then aOf0 R rel t.toNatClampNeg w else -1
noncomputable def aTb (R : gW) (m : Int32 → Int32) (b w : Int32) : Int32 := if 0 ≤ b ∧ b ≤ (R 0 + 1) / 2 - 1 then (if w = 0 then fAc R b else if w = 1 then fAg R b else if w = 2 then fAj R b + 1000 else if w = 3 then gfA m else -1) else -1
noncomputable def aFa (R : gW) (mf ft : Int32) (f w : Int32) : Int32 := if 1 ≤ f ∧ f ≤ 9 then (if w = 0 then mf else if w = 1 then ft else if w = 2 then fJF R f + 1000 else -1) else -1
set_option maxRecDepth 20000 in
theorem w123 {σ : gS} {K : gK} {w : Int32} (h : ((0 : Int) + 17 = 16 + 1 ∧ ((w = 0 → K (some (.int (σ 6 4))) σ) ∧ (¬ w = 0 → ((w = 1 → K (some (.int (σ 6 5))) σ) ∧ (¬ w = 1 → ((w = 2 → K (some (.int (σ 6 6))) σ) ∧ (¬ w = 2 → ((w = 3 → K (some (.int (σ 6 7))) σ) ∧ (¬ w = 3 → ((w = 4 → K (some (.int ((σ 6 4 * 4) - (σ 6 7)))) σ) ∧ (¬ w = 4 → ((w = 5 → (TC σ 6) ∧ K (some (.int ((fJa (cR σ 6)) + 10000))) σ) ∧ (¬ w = 5 → ((w = 6 → (TC σ 6) ∧ K (some (.int (fGr (cR σ 6)))) σ) ∧ (¬ w = 6 → ((w = 7 → (SC σ) ∧ K (some (.int (fSw (cR σ 6)))) σ) ∧ (¬ w = 7 → ((w = 8 → K (some (.int (σ 6 8))) σ) ∧ (¬ w = 8 → ((w = 9 → K (some (.int (σ 6 9))) σ) ∧ (¬ w = 9 → ((w = 10 → K (some (.int (σ 6 10))) σ) ∧ (¬ w = 10 → ((w = 11 → K (some (.int (σ 6 11))) σ) ∧ (¬ w = 11 → ((w = 12 → K (some (.int (σ 6 12))) σ) ∧ (¬ w = 12 → ((w = 13 → K (some (.int ((σ 6 4 + 1) / 2))) σ) ∧ (¬ w = 13 → ((w = 14 → K (some (.int (fFs (cFm σ)))) σ) ∧ (¬ w = 14 → ((w = 15 → K (some (.int (σ 30 2))) σ) ∧ (¬ w = 15 → ((w = 16 → K (some (.int (σ 113 2))) σ) ∧ (¬ w = 16 → K (some (.int (-1))) σ)))))))))))))))))))))))))))))))))))) : gE 123 0 [some (.ref 0), some (.int w)] [] σ K :=
  gw_run (cy := 123) (cuts := []) (inl := []) (pf := gpeh) gpeh_ok 400 (by decide) h
theorem s123 {σ : gS} {K : gK} {w : Int32} (hc : SC σ) (hK : K (some (.int (aVl (cR σ 6) (cFm σ) (σ 30 2) (σ 113 2) w))) σ) : gE 123 0 [some (.ref 0), some (.int w)] [] σ K := by
  obtain ⟨hT, hP, hL, h0⟩ := hc
  have h7 : 0 ≤ σ 6 7 ∧ σ 6 7 ≤ 20 := SC_7 ⟨hT, hP, hL, h0⟩
  unfold aVl at hK
  refine w123 ⟨by decide, ⟨fun h0 => ?_, fun n0 => ⟨fun h1 => ?_, fun n1 => ⟨fun h2 => ?_, fun n2 => ⟨fun h3 => ?_, fun n3 => ⟨fun h4 => ?_, fun n4 => ⟨fun h5 => ⟨hT, ?_⟩, fun n5 => ⟨fun h6 => ⟨hT, ?_⟩, fun n6 => ⟨fun h7 => ⟨⟨hT, hP, hL, h0⟩, ?_⟩, fun n7 => ⟨fun h8 => ?_, fun n8 => ⟨fun h9 => ?_, fun n9 => ⟨fun h10 => ?_, fun n10 => ⟨fun h11 => ?_, fun n11 => ⟨fun h12 => ?_, fun n12 => ⟨fun h13 => ?_, fun n13 => ⟨fun h14 => ?_, fun n14 => ⟨fun h15 => ?_, fun n15 => ⟨fun h16 => ?_, fun n16 => ?_⟩⟩⟩⟩⟩⟩⟩⟩⟩⟩⟩⟩⟩⟩⟩⟩⟩⟩
  · rw [if_pos h0] at hK
    rw [cR_h (by decide)] at hK; exact hK
  · rw [if_neg n0, if_pos h1] at hK
    rw [cR_h (by decide)] at hK; exact hK
  · rw [if_neg n0, if_neg n1, if_pos h2] at hK
    rw [cR_h (by decide)] at hK; exact hK
  · rw [if_neg n0, if_neg n1, if_neg n2, if_pos h3] at hK
    rw [cR_h (by decide)] at hK; exact hK
  · rw [if_neg n0, if_neg n1, if_neg n2, if_neg n3, if_pos h4] at hK
    rw [cR_h (by decide), cR_h (by decide), Int32.mul_comm] at hK; exact hK
  · rw [if_neg n0, if_neg n1, if_neg n2, if_neg n3, if_neg n4, if_pos h5] at hK
    exact hK
  · rw [if_neg n0, if_neg n1, if_neg n2, if_neg n3, if_neg n4, if_neg n5, if_pos h6] at hK
    exact hK
  · rw [if_neg n0, if_neg n1, if_neg n2, if_neg n3, if_neg n4, if_neg n5, if_neg n6, if_pos h7] at hK
    exact hK
  · rw [if_neg n0, if_neg n1, if_neg n2, if_neg n3, if_neg n4, if_neg n5, if_neg n6, if_neg n7, if_pos h8] at hK
    rw [cR_h (by decide)] at hK; exact hK
  · rw [if_neg n0, if_neg n1, if_neg n2, if_neg n3, if_neg n4, if_neg n5, if_neg n6, if_neg n7, if_neg n8, if_pos h9] at hK
    rw [cR_h (by decide)] at hK; exact hK
  · rw [if_neg n0, if_neg n1, if_neg n2, if_neg n3, if_neg n4, if_neg n5, if_neg n6, if_neg n7, if_neg n8, if_neg n9, if_pos h10] at hK
    rw [cR_h (by decide)] at hK; exact hK
  · rw [if_neg n0, if_neg n1, if_neg n2, if_neg n3, if_neg n4, if_neg n5, if_neg n6, if_neg n7, if_neg n8, if_neg n9, if_neg n10, if_pos h11] at hK
    rw [cR_h (by decide)] at hK; exact hK
  · rw [if_neg n0, if_neg n1, if_neg n2, if_neg n3, if_neg n4, if_neg n5, if_neg n6, if_neg n7, if_neg n8, if_neg n9, if_neg n10, if_neg n11, if_pos h12] at hK
    rw [cR_h (by decide)] at hK; exact hK
  · rw [if_neg n0, if_neg n1, if_neg n2, if_neg n3, if_neg n4, if_neg n5, if_neg n6, if_neg n7, if_neg n8, if_neg n9, if_neg n10, if_neg n11, if_neg n12, if_pos h13] at hK
    rw [cR_h (by decide)] at hK; exact hK
  · rw [if_neg n0, if_neg n1, if_neg n2, if_neg n3, if_neg n4, if_neg n5, if_neg n6, if_neg n7, if_neg n8, if_neg n9, if_neg n10, if_neg n11, if_neg n12, if_neg n13, if_pos h14] at hK
    exact hK
  · rw [if_neg n0, if_neg n1, if_neg n2, if_neg n3, if_neg n4, if_neg n5, if_neg n6, if_neg n7, if_neg n8, if_neg n9, if_neg n10, if_neg n11, if_neg n12, if_neg n13, if_neg n14, if_pos h15] at hK
    exact hK
  · rw [if_neg n0, if_neg n1, if_neg n2, if_neg n3, if_neg n4, if_neg n5, if_neg n6, if_neg n7, if_neg n8, if_neg n9, if_neg n10, if_neg n11, if_neg n12, if_neg n13, if_neg n14, if_neg n15, if_pos h16] at hK
    exact hK
  · rw [if_neg n0, if_neg n1, if_neg n2, if_neg n3, if_neg n4, if_neg n5, if_neg n6, if_neg n7, if_neg n8, if_neg n9, if_neg n10, if_neg n11, if_neg n12, if_neg n13, if_neg n14, if_neg n15, if_neg n16] at hK
    exact hK
noncomputable def f123 : gD := fun Lv σ => match Lv with
  | [some (.ref q0), some (.int w)] => cond (Nat.beq q0 0) (some (some (SC σ), some (.int (aVl (cR σ 6) (cFm σ) (σ 30 2) (σ 113 2) w)), σ)) none
  | _ => none
theorem ok123 : gFok 123 f123 := by
  intro Lv σ q h hc K hK
  unfold f123 at h
  split at h
  · rename_i q0 w
    obtain ⟨hb, h⟩ := c_no h
    have hb0 := hb
    have e0 := b_eq hb0
    subst e0
    cases h
    exact s123 (hc _ rfl) hK
  · cases h
set_option maxRecDepth 20000 in
theorem w227 {σ : gS} {K : gK} {w : Int32} (h : ((0 : Int) + 17 = 16 + 1 ∧ ((w = 0 → (0 ≤ w ∧ w < 330) ∧ K (some (.int (σ 324 w.toNatClampNeg))) σ) ∧ (¬ w = 0 → ((w = 1 → (0 ≤ w ∧ w < 330) ∧ K (some (.int (σ 324 w.toNatClampNeg))) σ) ∧ (¬ w = 1 → ((w = 2 → (0 ≤ w ∧ w < 330) ∧ K (some (.int (σ 324 w.toNatClampNeg))) σ) ∧ (¬ w = 2 → ((w = 3 → (0 ≤ w ∧ w < 330) ∧ K (some (.int (σ 324 w.toNatClampNeg))) σ) ∧ (¬ w = 3 → ((w = 4 → (0 ≤ (0 : Int32) ∧ (0 : Int32) < 330) ∧ (0 ≤ (3 : Int32) ∧ (3 : Int32) < 330) ∧ K (some (.int ((4 * (σ 324 0)) - (σ 324 3)))) σ) ∧ (¬ w = 4 → ((w = 5 → (0 ≤ σ 324 3 ∧ σ 324 3 ≤ 20) ∧ K (some (.int ((fJa (σ 324)) + 10000))) σ) ∧ (¬ w = 5 → ((w = 6 → (0 ≤ σ 324 3 ∧ σ 324 3 ≤ 20) ∧ K (some (.int (fGr (σ 324)))) σ) ∧ (¬ w = 6 → ((w = 7 → (RS σ) ∧ K (some (.int (fSw (σ 324)))) σ) ∧ (¬ w = 7 → ((w = 8 → (0 ≤ ((4 + w) - 8) ∧ ((4 + w) - 8) < 330) ∧ K (some (.int (σ 324 ((4 + w) - 8).toNatClampNeg))) σ) ∧ (¬ w = 8 → ((w = 9 → (0 ≤ ((4 + w) - 8) ∧ ((4 + w) - 8) < 330) ∧ K (some (.int (σ 324 ((4 + w) - 8).toNatClampNeg))) σ) ∧ (¬ w = 9 → ((w = 10 → (0 ≤ ((4 + w) - 8) ∧ ((4 + w) - 8) < 330) ∧ K (some (.int (σ 324 ((4 + w) - 8).toNatClampNeg))) σ) ∧ (¬ w = 10 → ((w = 11 → (0 ≤ ((4 + w) - 8) ∧ ((4 + w) - 8) < 330) ∧ K (some (.int (σ 324 ((4 + w) - 8).toNatClampNeg))) σ) ∧ (¬ w = 11 → ((w = 12 → (0 ≤ ((4 + w) - 8) ∧ ((4 + w) - 8) < 330) ∧ K (some (.int (σ 324 ((4 + w) - 8).toNatClampNeg))) σ) ∧ (¬ w = 12 → ((w = 13 → K (some (.int ((σ 324 0 + 1) / 2))) σ) ∧ (¬ w = 13 → ((w = 14 → (RS σ) ∧ K (some (.int (fFs (fMF (σ 324))))) σ) ∧ (¬ w = 14 → ((w = 15 → (0 ≤ (209 : Int32) ∧ (209 : Int32) < 330) ∧ K (some (.int (σ 324 209))) σ) ∧ (¬ w = 15 → ((w = 16 → K (some (.int (σ 323 6))) σ) ∧ (¬ w = 16 → K (some (.int (-1))) σ)))))))))))))))))))))))))))))))))))) : gE 227 0 [some (.ref 323), some (.int w)] [] σ K :=
  gw_run (cy := 227) (cuts := []) (inl := []) (pf := gpeh) gpeh_ok 400 (by decide) h
theorem s227 {σ : gS} {K : gK} {w : Int32} (hc : RS σ) (hK : K (some (.int (aVl (σ 324) (fMF (σ 324)) (σ 324 209) (σ 323 6) w))) σ) : gE 227 0 [some (.ref 323), some (.int w)] [] σ K := by
  have hcc := hc
  obtain ⟨⟨h3, h9⟩, hu⟩ := hc
  unfold aVl at hK
  refine w227 ⟨by decide, ⟨fun h0 => ⟨by rw [h0]; decide, ?_⟩, fun n0 => ⟨fun h1 => ⟨by rw [h1]; decide, ?_⟩, fun n1 => ⟨fun h2 => ⟨by rw [h2]; decide, ?_⟩, fun n2 => ⟨fun h3 => ⟨by rw [h3]; decide, ?_⟩, fun n3 => ⟨fun h4 => ⟨by decide, by decide, ?_⟩, fun n4 => ⟨fun h5 => ⟨h3, ?_⟩, fun n5 => ⟨fun h6 => ⟨h3, ?_⟩, fun n6 => ⟨fun h7 => ⟨hcc, ?_⟩, fun n7 => ⟨fun h8 => ⟨by rw [h8]; decide, ?_⟩, fun n8 => ⟨fun h9 => ⟨by rw [h9]; decide, ?_⟩, fun n9 => ⟨fun h10 => ⟨by rw [h10]; decide, ?_⟩, fun n10 => ⟨fun h11 => ⟨by rw [h11]; decide, ?_⟩, fun n11 => ⟨fun h12 => ⟨by rw [h12]; decide, ?_⟩, fun n12 => ⟨fun h13 => ?_, fun n13 => ⟨fun h14 => ⟨hcc, ?_⟩, fun n14 => ⟨fun h15 => ⟨by decide, ?_⟩, fun n15 => ⟨fun h16 => ?_, fun n16 => ?_⟩⟩⟩⟩⟩⟩⟩⟩⟩⟩⟩⟩⟩⟩⟩⟩⟩⟩
  · rw [if_pos h0] at hK
    rw [h0]; exact hK
  · rw [if_neg n0, if_pos h1] at hK
    rw [h1]; exact hK
  · rw [if_neg n0, if_neg n1, if_pos h2] at hK
    rw [h2]; exact hK
  · rw [if_neg n0, if_neg n1, if_neg n2, if_pos h3] at hK
    rw [h3]; exact hK
  · rw [if_neg n0, if_neg n1, if_neg n2, if_neg n3, if_pos h4] at hK
    exact hK
  · rw [if_neg n0, if_neg n1, if_neg n2, if_neg n3, if_neg n4, if_pos h5] at hK
    exact hK
  · rw [if_neg n0, if_neg n1, if_neg n2, if_neg n3, if_neg n4, if_neg n5, if_pos h6] at hK
    exact hK
  · rw [if_neg n0, if_neg n1, if_neg n2, if_neg n3, if_neg n4, if_neg n5, if_neg n6, if_pos h7] at hK
    exact hK
  · rw [if_neg n0, if_neg n1, if_neg n2, if_neg n3, if_neg n4, if_neg n5, if_neg n6, if_neg n7, if_pos h8] at hK
    rw [h8]; exact hK
  · rw [if_neg n0, if_neg n1, if_neg n2, if_neg n3, if_neg n4, if_neg n5, if_neg n6, if_neg n7, if_neg n8, if_pos h9] at hK
    rw [h9]; exact hK
  · rw [if_neg n0, if_neg n1, if_neg n2, if_neg n3, if_neg n4, if_neg n5, if_neg n6, if_neg n7, if_neg n8, if_neg n9, if_pos h10] at hK
    rw [h10]; exact hK
  · rw [if_neg n0, if_neg n1, if_neg n2, if_neg n3, if_neg n4, if_neg n5, if_neg n6, if_neg n7, if_neg n8, if_neg n9, if_neg n10, if_pos h11] at hK
    rw [h11]; exact hK
  · rw [if_neg n0, if_neg n1, if_neg n2, if_neg n3, if_neg n4, if_neg n5, if_neg n6, if_neg n7, if_neg n8, if_neg n9, if_neg n10, if_neg n11, if_pos h12] at hK
    rw [h12]; exact hK
  · rw [if_neg n0, if_neg n1, if_neg n2, if_neg n3, if_neg n4, if_neg n5, if_neg n6, if_neg n7, if_neg n8, if_neg n9, if_neg n10, if_neg n11, if_neg n12, if_pos h13] at hK
    exact hK
  · rw [if_neg n0, if_neg n1, if_neg n2, if_neg n3, if_neg n4, if_neg n5, if_neg n6, if_neg n7, if_neg n8, if_neg n9, if_neg n10, if_neg n11, if_neg n12, if_neg n13, if_pos h14] at hK
    exact hK
  · rw [if_neg n0, if_neg n1, if_neg n2, if_neg n3, if_neg n4, if_neg n5, if_neg n6, if_neg n7, if_neg n8, if_neg n9, if_neg n10, if_neg n11, if_neg n12, if_neg n13, if_neg n14, if_pos h15] at hK
    exact hK
  · rw [if_neg n0, if_neg n1, if_neg n2, if_neg n3, if_neg n4, if_neg n5, if_neg n6, if_neg n7, if_neg n8, if_neg n9, if_neg n10, if_neg n11, if_neg n12, if_neg n13, if_neg n14, if_neg n15, if_pos h16] at hK
    exact hK
  · rw [if_neg n0, if_neg n1, if_neg n2, if_neg n3, if_neg n4, if_neg n5, if_neg n6, if_neg n7, if_neg n8, if_neg n9, if_neg n10, if_neg n11, if_neg n12, if_neg n13, if_neg n14, if_neg n15, if_neg n16] at hK
    exact hK
noncomputable def f227 : gD := fun Lv σ => match Lv with
  | [some (.ref q0), some (.int w)] => cond (Nat.beq q0 323) (some (some (RS σ), some (.int (aVl (σ 324) (fMF (σ 324)) (σ 324 209) (σ 323 6) w)), σ)) none
  | _ => none
theorem ok227 : gFok 227 f227 := by
  intro Lv σ q h hc K hK
  unfold f227 at h
  split at h
  · rename_i q0 w
    obtain ⟨hb, h⟩ := c_no h
    have hb0 := hb
    have e0 := b_eq hb0
    subst e0
    cases h
    exact s227 (hc _ rfl) hK
  · cases h
set_option maxRecDepth 20000 in
theorem w124 {σ : gS} {K : gK} {t w : Int32} (h : ((¬ (bI (isT (cR σ 6) t)) = 0 → (0 ≤ t ∧ t < 20) ∧ ((0 : Int) + 12 = 11 + 1 ∧ ((w = 0 → gTv (6 + 2 + t.toNatClampNeg) ∧ K (some (.int (σ (6 + 2 + t.toNatClampNeg) 1))) σ) ∧ (¬ w = 0 → ((w = 1 → gTv (6 + 2 + t.toNatClampNeg) ∧ K (some (.int (σ (6 + 2 + t.toNatClampNeg) 2))) σ) ∧ (¬ w = 1 → ((w = 2 → gTv (6 + 2 + t.toNatClampNeg) ∧ K (some (.int (σ (6 + 2 + t.toNatClampNeg) 3))) σ) ∧ (¬ w = 2 → ((w = 3 → gTv (6 + 2 + t.toNatClampNeg) ∧ K (some (.int ((σ (6 + 2 + t.toNatClampNeg) 4) + 9))) σ) ∧ (¬ w = 3 → ((w = 4 → gTv (6 + 2 + t.toNatClampNeg) ∧ K (some (.int ((σ (6 + 2 + t.toNatClampNeg) 5) + 9))) σ) ∧ (¬ w = 4 → ((w = 5 → gTv (6 + 2 + t.toNatClampNeg) ∧ K (some (.int (σ (6 + 2 + t.toNatClampNeg) 6))) σ) ∧ (¬ w = 5 → ((w = 6 → gTv (6 + 2 + t.toNatClampNeg) ∧ K (some (.int (σ (6 + 2 + t.toNatClampNeg) 7))) σ) ∧ (¬ w = 6 → ((w = 7 → gTv (6 + 2 + t.toNatClampNeg) ∧ K (some (.int (σ (6 + 2 + t.toNatClampNeg) 8))) σ) ∧ (¬ w = 7 → ((w = 8 → gTv (6 + 2 + t.toNatClampNeg) ∧ K (some (.int (σ (6 + 2 + t.toNatClampNeg) 9))) σ) ∧ (¬ w = 8 → ((w = 9 → (((0 ≤ t ∧ t < 20) ∧ t.toNatClampNeg < nM (cR σ 6)) ∧ TC σ 6) ∧ K (some (.int ((fJo (cR σ 6) t.toNatClampNeg) + 100))) σ) ∧ (¬ w = 9 → ((w = 10 → gTv (6 + 2 + t.toNatClampNeg) ∧ (8 : Int32) ≠ 0 ∧ (gTv (6 + 2 + t.toNatClampNeg)) ∧ K (some (.int (cRel σ 6 (6 + 2 + t.toNatClampNeg) ((σ (6 + 2 + t.toNatClampNeg) 1) / 8)))) σ) ∧ (¬ w = 10 → ((w = 11 → (SC σ ∧ isN σ 6 t) ∧ K (some (.int (fPl (cR σ 6) t.toNatClampNeg))) σ) ∧ (¬ w = 11 → K (some (.int (-1))) σ)))))))))))))))))))))))))) ∧ ((bI (isT (cR σ 6) t)) = 0 → K (some (.int (-1))) σ))) : gE 124 0 [some (.ref 0), some (.int t), some (.int w), none] [] σ K :=
  gw_run (cy := 124) (cuts := []) (inl := []) (pf := gpeh) gpeh_ok 400 (by decide) h
theorem s124 {σ : gS} {K : gK} {t w : Int32} (hc : SC σ) (hK : K (some (.int (aOf (cR σ 6) (cRel σ 6 (8 + t.toNatClampNeg) (fld (cR σ 6) t.toNatClampNeg 0 / 8)) t w))) σ) : gE 124 0 [some (.ref 0), some (.int t), some (.int w), none] [] σ K := by
  obtain ⟨hT, hP, hL, h0⟩ := hc
  have h7 : 0 ≤ σ 6 7 ∧ σ 6 7 ≤ 20 := SC_7 ⟨hT, hP, hL, h0⟩
  unfold aOf at hK
  refine w124 ⟨fun h => ?_, fun h => ?_⟩
  · have hp := isN_of hT.1 (dnn h)
    have lt := n20 hp.1
    have tv := tv_6 _ lt
    rw [if_pos (dnn h)] at hK
    unfold aOf0 at hK
    refine ⟨hp.1, by decide, ⟨fun h0 => ⟨tv, ?_⟩, fun n0 => ⟨fun h1 => ⟨tv, ?_⟩, fun n1 => ⟨fun h2 => ⟨tv, ?_⟩, fun n2 => ⟨fun h3 => ⟨tv, ?_⟩, fun n3 => ⟨fun h4 => ⟨tv, ?_⟩, fun n4 => ⟨fun h5 => ⟨tv, ?_⟩, fun n5 => ⟨fun h6 => ⟨tv, ?_⟩, fun n6 => ⟨fun h7 => ⟨tv, ?_⟩, fun n7 => ⟨fun h8 => ⟨tv, ?_⟩, fun n8 => ⟨fun h9 => ⟨⟨hp, hT⟩, ?_⟩, fun n9 => ⟨fun h10 => ⟨tv, by decide, tv, ?_⟩, fun n10 => ⟨fun h11 => ⟨⟨⟨hT, hP, hL, h0⟩, hp⟩, ?_⟩, fun n11 => ?_⟩⟩⟩⟩⟩⟩⟩⟩⟩⟩⟩⟩⟩
    · rw [if_pos h0] at hK
      rw [cR_f lt (by decide)] at hK; exact hK
    · rw [if_neg n0, if_pos h1] at hK
      rw [cR_f lt (by decide)] at hK; exact hK
    · rw [if_neg n0, if_neg n1, if_pos h2] at hK
      rw [cR_f lt (by decide)] at hK; exact hK
    · rw [if_neg n0, if_neg n1, if_neg n2, if_pos h3] at hK
      rw [cR_f lt (by decide)] at hK; exact hK
    · rw [if_neg n0, if_neg n1, if_neg n2, if_neg n3, if_pos h4] at hK
      rw [cR_f lt (by decide)] at hK; exact hK
    · rw [if_neg n0, if_neg n1, if_neg n2, if_neg n3, if_neg n4, if_pos h5] at hK
      rw [cR_f lt (by decide)] at hK; exact hK
    · rw [if_neg n0, if_neg n1, if_neg n2, if_neg n3, if_neg n4, if_neg n5, if_pos h6] at hK
      rw [cR_f lt (by decide)] at hK; exact hK
    · rw [if_neg n0, if_neg n1, if_neg n2, if_neg n3, if_neg n4, if_neg n5, if_neg n6, if_pos h7] at hK
      rw [cR_f lt (by decide)] at hK; exact hK
    · rw [if_neg n0, if_neg n1, if_neg n2, if_neg n3, if_neg n4, if_neg n5, if_neg n6, if_neg n7, if_pos h8] at hK
      rw [cR_f lt (by decide)] at hK; exact hK
    · rw [if_neg n0, if_neg n1, if_neg n2, if_neg n3, if_neg n4, if_neg n5, if_neg n6, if_neg n7, if_neg n8, if_pos h9] at hK
      exact hK
    · rw [if_neg n0, if_neg n1, if_neg n2, if_neg n3, if_neg n4, if_neg n5, if_neg n6, if_neg n7, if_neg n8, if_neg n9, if_pos h10] at hK
      rw [cR_f lt (by decide)] at hK; exact hK
    · rw [if_neg n0, if_neg n1, if_neg n2, if_neg n3, if_neg n4, if_neg n5, if_neg n6, if_neg n7, if_neg n8, if_neg n9, if_neg n10, if_pos h11] at hK
      exact hK
    · rw [if_neg n0, if_neg n1, if_neg n2, if_neg n3, if_neg n4, if_neg n5, if_neg n6, if_neg n7, if_neg n8, if_neg n9, if_neg n10, if_neg n11] at hK
      exact hK
  · rw [if_neg (bI_0.mp h)] at hK; exact hK
noncomputable def f124 : gD := fun Lv σ => match Lv with
  | [some (.ref q0), some (.int t), some (.int w), none] => cond (Nat.beq q0 0) (some (some (SC σ), some (.int (aOf (cR σ 6) (cRel σ 6 (8 + t.toNatClampNeg) (fld (cR σ 6) t.toNatClampNeg 0 / 8)) t w)), σ)) none
  | _ => none
theorem ok124 : gFok 124 f124 := by
  intro Lv σ q h hc K hK
  unfold f124 at h
  split at h
  · rename_i q0 t w
    obtain ⟨hb, h⟩ := c_no h
    have hb0 := hb
    have e0 := b_eq hb0
    subst e0
    cases h
    exact s124 (hc _ rfl) hK
  · cases h
set_option maxRecDepth 20000 in
theorem w229 {σ : gS} {K : gK} {t w : Int32} (h : ((¬ (bI (isT (σ 324) t)) = 0 → (0 ≤ (9 + 10 * t + (0 : Int32)) ∧ (9 + 10 * t + (0 : Int32)) < 330) ∧ ((0 : Int) + 12 = 11 + 1 ∧ ((w = 0 → K (some (.int (σ 324 (9 + 10 * t + (0 : Int32)).toNatClampNeg))) σ) ∧ (¬ w = 0 → ((w = 1 → (0 ≤ (9 + 10 * t + (1 : Int32)) ∧ (9 + 10 * t + (1 : Int32)) < 330) ∧ K (some (.int (σ 324 (9 + 10 * t + (1 : Int32)).toNatClampNeg))) σ) ∧ (¬ w = 1 → ((w = 2 → (0 ≤ (9 + 10 * t + (2 : Int32)) ∧ (9 + 10 * t + (2 : Int32)) < 330) ∧ K (some (.int (σ 324 (9 + 10 * t + (2 : Int32)).toNatClampNeg))) σ) ∧ (¬ w = 2 → ((w = 3 → (0 ≤ (9 + 10 * t + (3 : Int32)) ∧ (9 + 10 * t + (3 : Int32)) < 330) ∧ K (some (.int ((σ 324 (9 + 10 * t + (3 : Int32)).toNatClampNeg) + 9))) σ) ∧ (¬ w = 3 → ((w = 4 → (0 ≤ (9 + 10 * t + (4 : Int32)) ∧ (9 + 10 * t + (4 : Int32)) < 330) ∧ K (some (.int ((σ 324 (9 + 10 * t + (4 : Int32)).toNatClampNeg) + 9))) σ) ∧ (¬ w = 4 → ((w = 5 → (0 ≤ (9 + 10 * t + (5 : Int32)) ∧ (9 + 10 * t + (5 : Int32)) < 330) ∧ K (some (.int (σ 324 (9 + 10 * t + (5 : Int32)).toNatClampNeg))) σ) ∧ (¬ w = 5 → ((w = 6 → (0 ≤ (9 + 10 * t + (6 : Int32)) ∧ (9 + 10 * t + (6 : Int32)) < 330) ∧ K (some (.int (σ 324 (9 + 10 * t + (6 : Int32)).toNatClampNeg))) σ) ∧ (¬ w = 6 → ((w = 7 → (0 ≤ (9 + 10 * t + (7 : Int32)) ∧ (9 + 10 * t + (7 : Int32)) < 330) ∧ K (some (.int (σ 324 (9 + 10 * t + (7 : Int32)).toNatClampNeg))) σ) ∧ (¬ w = 7 → ((w = 8 → (0 ≤ (9 + 10 * t + (8 : Int32)) ∧ (9 + 10 * t + (8 : Int32)) < 330) ∧ K (some (.int (σ 324 (9 + 10 * t + (8 : Int32)).toNatClampNeg))) σ) ∧ (¬ w = 8 → ((w = 9 → ((0 ≤ t ∧ t < 20) ∧ 0 ≤ σ 324 3 ∧ σ 324 3 ≤ 20) ∧ K (some (.int ((fJo (σ 324) t.toNatClampNeg) + 100))) σ) ∧ (¬ w = 9 → ((w = 10 → ((0 ≤ t ∧ t < 20) ∧ 0 ≤ σ 324 3 ∧ σ 324 3 ≤ 20) ∧ K (some (.int (kin (σ 324) t.toNatClampNeg ((σ 324 (9 + 10 * t + (0 : Int32)).toNatClampNeg) / 8)))) σ) ∧ (¬ w = 10 → ((w = 11 → (RS σ ∧ (0 ≤ t ∧ t < 20)) ∧ K (some (.int (fPl (σ 324) t.toNatClampNeg))) σ) ∧ (¬ w = 11 → K (some (.int (-1))) σ)))))))))))))))))))))))))) ∧ ((bI (isT (σ 324) t)) = 0 → K (some (.int (-1))) σ))) : gE 229 0 [some (.ref 323), some (.int t), some (.int w), none] [] σ K :=
  gw_run (cy := 229) (cuts := []) (inl := []) (pf := gpeh) gpeh_ok 400 (by decide) h
theorem s229 {σ : gS} {K : gK} {t w : Int32} (hc : RS σ) (hK : K (some (.int (aOf (σ 324) (kin (σ 324) t.toNatClampNeg (fld (σ 324) t.toNatClampNeg 0 / 8)) t w))) σ) : gE 229 0 [some (.ref 323), some (.int t), some (.int w), none] [] σ K := by
  have hcc := hc
  obtain ⟨⟨h3, h9⟩, hu⟩ := hc
  unfold aOf at hK
  refine w229 ⟨fun h => ?_, fun h => ?_⟩
  · have ht := isT_of h3 (dnn h)
    rw [if_pos (dnn h)] at hK
    clear h
    obtain ⟨et, lt⟩ := t20 ht
    obtain ⟨m, hm⟩ : ∃ m, t.toNatClampNeg = m := ⟨_, rfl⟩
    rw [hm] at et lt hK
    subst et
    have em : (iN m).toNatClampNeg = m := iN_nat (by omega)
    unfold aOf0 at hK
    refine ⟨ixb0 lt, by decide, ?_⟩
    rw [ix0 lt, ix1 lt, ix2 lt, ix3 lt, ix4 lt, ix5 lt, ix6 lt, ix7 lt, ix8 lt, em]
    refine ⟨fun h0 => ?_, fun n0 => ⟨fun h1 => ⟨ixb1 lt, ?_⟩, fun n1 => ⟨fun h2 => ⟨ixb2 lt, ?_⟩, fun n2 => ⟨fun h3 => ⟨ixb3 lt, ?_⟩, fun n3 => ⟨fun h4 => ⟨ixb4 lt, ?_⟩, fun n4 => ⟨fun h5 => ⟨ixb5 lt, ?_⟩, fun n5 => ⟨fun h6 => ⟨ixb6 lt, ?_⟩, fun n6 => ⟨fun h7 => ⟨ixb7 lt, ?_⟩, fun n7 => ⟨fun h8 => ⟨ixb8 lt, ?_⟩, fun n8 => ⟨fun h9 => ⟨⟨ht, h3⟩, ?_⟩, fun n9 => ⟨fun h10 => ⟨⟨ht, h3⟩, ?_⟩, fun n10 => ⟨fun h11 => ⟨⟨hcc, ht⟩, ?_⟩, fun n11 => ?_⟩⟩⟩⟩⟩⟩⟩⟩⟩⟩⟩⟩
    · rw [if_pos h0] at hK
      exact hK
    · rw [if_neg n0, if_pos h1] at hK
      exact hK
    · rw [if_neg n0, if_neg n1, if_pos h2] at hK
      exact hK
    · rw [if_neg n0, if_neg n1, if_neg n2, if_pos h3] at hK
      exact hK
    · rw [if_neg n0, if_neg n1, if_neg n2, if_neg n3, if_pos h4] at hK
      exact hK
    · rw [if_neg n0, if_neg n1, if_neg n2, if_neg n3, if_neg n4, if_pos h5] at hK
      exact hK
    · rw [if_neg n0, if_neg n1, if_neg n2, if_neg n3, if_neg n4, if_neg n5, if_pos h6] at hK
      exact hK
    · rw [if_neg n0, if_neg n1, if_neg n2, if_neg n3, if_neg n4, if_neg n5, if_neg n6, if_pos h7] at hK
      exact hK
    · rw [if_neg n0, if_neg n1, if_neg n2, if_neg n3, if_neg n4, if_neg n5, if_neg n6, if_neg n7, if_pos h8] at hK
      exact hK
    · rw [if_neg n0, if_neg n1, if_neg n2, if_neg n3, if_neg n4, if_neg n5, if_neg n6, if_neg n7, if_neg n8, if_pos h9] at hK
      exact hK
    · rw [if_neg n0, if_neg n1, if_neg n2, if_neg n3, if_neg n4, if_neg n5, if_neg n6, if_neg n7, if_neg n8, if_neg n9, if_pos h10] at hK
      exact hK
    · rw [if_neg n0, if_neg n1, if_neg n2, if_neg n3, if_neg n4, if_neg n5, if_neg n6, if_neg n7, if_neg n8, if_neg n9, if_neg n10, if_pos h11] at hK
      exact hK
    · rw [if_neg n0, if_neg n1, if_neg n2, if_neg n3, if_neg n4, if_neg n5, if_neg n6, if_neg n7, if_neg n8, if_neg n9, if_neg n10, if_neg n11] at hK
      exact hK
  · rw [if_neg (bI_0.mp h)] at hK; exact hK
noncomputable def f229 : gD := fun Lv σ => match Lv with
  | [some (.ref q0), some (.int t), some (.int w), none] => cond (Nat.beq q0 323) (some (some (RS σ), some (.int (aOf (σ 324) (kin (σ 324) t.toNatClampNeg (fld (σ 324) t.toNatClampNeg 0 / 8)) t w)), σ)) none
  | _ => none
theorem ok229 : gFok 229 f229 := by
  intro Lv σ q h hc K hK
  unfold f229 at h
  split at h
  · rename_i q0 t w
    obtain ⟨hb, h⟩ := c_no h
    have hb0 := hb
    have e0 := b_eq hb0
    subst e0
    cases h
    exact s229 (hc _ rfl) hK
  · cases h
set_option maxRecDepth 20000 in
theorem w127 {σ : gS} {K : gK} {b w : Int32} (h : ((¬ (bI ((0 : Int32) ≤ b ∧ b ≤ (((σ 6 4 + 1) / 2) - 1))) = 0 → ((0 : Int) + 4 = 3 + 1 ∧ ((w = 0 → (SC σ) ∧ K (some (.int (fAc (cR σ 6) b))) σ) ∧ (¬ w = 0 → ((w = 1 → (SC σ) ∧ K (some (.int (fAg (cR σ 6) b))) σ) ∧ (¬ w = 1 → ((w = 2 → (SC σ) ∧ K (some (.int ((fAj (cR σ 6) b) + 1000))) σ) ∧ (¬ w = 2 → ((w = 3 → K (some (.int (gfA (cMa σ 6 b)))) σ) ∧ (¬ w = 3 → K (some (.int (-1))) σ)))))))))) ∧ ((bI ((0 : Int32) ≤ b ∧ b ≤ (((σ 6 4 + 1) / 2) - 1))) = 0 → K (some (.int (-1))) σ))) : gE 127 0 [some (.ref 0), some (.int b), some (.int w)] [] σ K :=
  gw_run (cy := 127) (cuts := []) (inl := []) (pf := gpeh) gpeh_ok 400 (by decide) h
theorem s127 {σ : gS} {K : gK} {b w : Int32} (hc : SC σ) (hK : K (some (.int (aTb (cR σ 6) (cMa σ 6 b) b w))) σ) : gE 127 0 [some (.ref 0), some (.int b), some (.int w)] [] σ K := by
  have hcc := hc
  obtain ⟨hT, hP, hL, h0⟩ := hc
  have h7 : 0 ≤ σ 6 7 ∧ σ 6 7 ≤ 20 := SC_7 ⟨hT, hP, hL, h0⟩
  unfold aTb at hK
  rw [cR_0] at hK
  refine w127 ⟨fun h => ?_, fun h => ?_⟩
  · rw [if_pos (dnn h)] at hK
    refine ⟨by decide, ⟨fun h0 => ⟨hcc, ?_⟩, fun n0 => ⟨fun h1 => ⟨hcc, ?_⟩, fun n1 => ⟨fun h2 => ⟨hcc, ?_⟩, fun n2 => ⟨fun h3 => ?_, fun n3 => ?_⟩⟩⟩⟩⟩
    · rw [if_pos h0] at hK
      exact hK
    · rw [if_neg n0, if_pos h1] at hK
      exact hK
    · rw [if_neg n0, if_neg n1, if_pos h2] at hK
      exact hK
    · rw [if_neg n0, if_neg n1, if_neg n2, if_pos h3] at hK
      exact hK
    · rw [if_neg n0, if_neg n1, if_neg n2, if_neg n3] at hK
      exact hK
  · rw [if_neg (bI_0.mp h)] at hK; exact hK
noncomputable def f127 : gD := fun Lv σ => match Lv with
  | [some (.ref q0), some (.int b), some (.int w)] => cond (Nat.beq q0 0) (some (some (SC σ), some (.int (aTb (cR σ 6) (cMa σ 6 b) b w)), σ)) none
  | _ => none
theorem ok127 : gFok 127 f127 := by
  intro Lv σ q h hc K hK
  unfold f127 at h
  split at h
  · rename_i q0 b w
    obtain ⟨hb, h⟩ := c_no h
    have hb0 := hb
    have e0 := b_eq hb0
    subst e0
    cases h
    exact s127 (hc _ rfl) hK
  · cases h
set_option maxRecDepth 20000 in
theorem w128 {σ : gS} {K : gK} {f w : Int32} (h : ((¬ (bI ((1 : Int32) ≤ f ∧ f ≤ (9 : Int32))) = 0 → ((0 : Int) + 3 = 2 + 1 ∧ ((w = 0 → K (some (.int (cFm σ f))) σ) ∧ (¬ w = 0 → ((w = 1 → K (some (.int (cFt σ f))) σ) ∧ (¬ w = 1 → ((w = 2 → (SC σ) ∧ K (some (.int ((fJF (cR σ 6) f) + 1000))) σ) ∧ (¬ w = 2 → K (some (.int (-1))) σ)))))))) ∧ ((bI ((1 : Int32) ≤ f ∧ f ≤ (9 : Int32))) = 0 → K (some (.int (-1))) σ))) : gE 128 0 [some (.ref 0), some (.int f), some (.int w)] [] σ K :=
  gw_run (cy := 128) (cuts := []) (inl := []) (pf := gpeh) gpeh_ok 400 (by decide) h
theorem s128 {σ : gS} {K : gK} {f w : Int32} (hc : SC σ) (hK : K (some (.int (aFa (cR σ 6) (cFm σ f) (cFt σ f) f w))) σ) : gE 128 0 [some (.ref 0), some (.int f), some (.int w)] [] σ K := by
  have hcc := hc
  unfold aFa at hK
  refine w128 ⟨fun h => ?_, fun h => ?_⟩
  · rw [if_pos (dnn h)] at hK
    refine ⟨by decide, ⟨fun h0 => ?_, fun n0 => ⟨fun h1 => ?_, fun n1 => ⟨fun h2 => ⟨hcc, ?_⟩, fun n2 => ?_⟩⟩⟩⟩
    · rw [if_pos h0] at hK
      exact hK
    · rw [if_neg n0, if_pos h1] at hK
      exact hK
    · rw [if_neg n0, if_neg n1, if_pos h2] at hK
      exact hK
    · rw [if_neg n0, if_neg n1, if_neg n2] at hK
      exact hK
  · rw [if_neg (bI_0.mp h)] at hK; exact hK
noncomputable def f128 : gD := fun Lv σ => match Lv with
  | [some (.ref q0), some (.int f), some (.int w)] => cond (Nat.beq q0 0) (some (some (SC σ), some (.int (aFa (cR σ 6) (cFm σ f) (cFt σ f) f w)), σ)) none
  | _ => none
theorem ok128 : gFok 128 f128 := by
  intro Lv σ q h hc K hK
  unfold f128 at h
  split at h
  · rename_i q0 f w
    obtain ⟨hb, h⟩ := c_no h
    have hb0 := hb
    have e0 := b_eq hb0
    subst e0
    cases h
    exact s128 (hc _ rfl) hK
  · cases h
set_option maxRecDepth 20000 in
theorem w238 {σ : gS} {K : gK} {f w : Int32} (h : ((¬ (bI ((1 : Int32) ≤ f ∧ f ≤ (9 : Int32))) = 0 → ((0 : Int) + 3 = 2 + 1 ∧ ((w = 0 → (RS σ) ∧ K (some (.int (fMF (σ 324) f))) σ) ∧ (¬ w = 0 → ((w = 1 → (RS σ ∧ (2 ≤ σ 324 0 ∧ σ 324 0 ≤ 10)) ∧ K (some (.int (rFt (σ 324) f))) σ) ∧ (¬ w = 1 → ((w = 2 → (RS σ) ∧ K (some (.int ((fJF (σ 324) f) + 1000))) σ) ∧ (¬ w = 2 → K (some (.int (-1))) σ)))))))) ∧ ((bI ((1 : Int32) ≤ f ∧ f ≤ (9 : Int32))) = 0 → K (some (.int (-1))) σ))) : gE 238 0 [some (.ref 323), some (.int f), some (.int w)] [] σ K :=
  gw_run (cy := 238) (cuts := []) (inl := []) (pf := gpeh) gpeh_ok 400 (by decide) h
theorem s238 {σ : gS} {K : gK} {f w : Int32} (hc : RS σ ∧ (2 ≤ σ 324 0 ∧ σ 324 0 ≤ 10)) (hK : K (some (.int (aFa (σ 324) (fMF (σ 324) f) (rFt (σ 324) f) f w))) σ) : gE 238 0 [some (.ref 323), some (.int f), some (.int w)] [] σ K := by
  have hcc := hc
  unfold aFa at hK
  refine w238 ⟨fun h => ?_, fun h => ?_⟩
  · rw [if_pos (dnn h)] at hK
    refine ⟨by decide, ⟨fun h0 => ⟨hcc.1, ?_⟩, fun n0 => ⟨fun h1 => ⟨hcc, ?_⟩, fun n1 => ⟨fun h2 => ⟨hcc.1, ?_⟩, fun n2 => ?_⟩⟩⟩⟩
    · rw [if_pos h0] at hK
      exact hK
    · rw [if_neg n0, if_pos h1] at hK
      exact hK
    · rw [if_neg n0, if_neg n1, if_pos h2] at hK
      exact hK
    · rw [if_neg n0, if_neg n1, if_neg n2] at hK
      exact hK
  · rw [if_neg (bI_0.mp h)] at hK; exact hK
noncomputable def f238 : gD := fun Lv σ => match Lv with
  | [some (.ref q0), some (.int f), some (.int w)] => cond (Nat.beq q0 323) (some (some (RS σ ∧ (2 ≤ σ 324 0 ∧ σ 324 0 ≤ 10)), some (.int (aFa (σ 324) (fMF (σ 324) f) (rFt (σ 324) f) f w)), σ)) none
  | _ => none
theorem ok238 : gFok 238 f238 := by
  intro Lv σ q h hc K hK
  unfold f238 at h
  split at h
  · rename_i q0 f w
    obtain ⟨hb, h⟩ := c_no h
    have hb0 := hb
    have e0 := b_eq hb0
    subst e0
    cases h
    exact s238 (hc _ rfl) hK
  · cases h
set_option maxRecDepth 20000 in
theorem w235 {σ : gS} {K : gK} {b w : Int32} (h : (((bI ((0 : Int32) ≤ b ∧ b ≤ (((σ 324 0 + 1) / 2) - 1))) = 0 → K (some (.int (-1))) σ) ∧ (¬ (bI ((0 : Int32) ≤ b ∧ b ≤ (((σ 324 0 + 1) / 2) - 1))) = 0 → ((¬ (bI ((0 : Int32) ≤ w ∧ w ≤ (3 : Int32))) = 0 → gE 235 39 [some (.ref 323), some (.int b), some (.int w), some (.int 0), some (.int 0), some (.int 0), some (.int 0), none] [] σ K) ∧ ((bI ((0 : Int32) ≤ w ∧ w ≤ (3 : Int32))) = 0 → K (some (.int (-1))) σ))))) : gE 235 0 [some (.ref 323), some (.int b), some (.int w), none, none, none, none, none] [] σ K :=
  gw_run (cy := 235) (cuts := [39]) (inl := []) (pf := gpeh) gpeh_ok 400 (by decide) h
set_option maxRecDepth 20000 in
theorem c235_39 {σ : gS} {K : gK} {l1 l2 l3 l4 l5 l6 : Int32} {l7 : Option Value} (h : (0 ≤ (3 : Int32) ∧ (3 : Int32) < 330) ∧ ((¬ l6 < (σ 324 3) → ((¬ l2 = 0 → ((¬ l2 = 1 → ((¬ l2 = 2 → (RS σ) ∧ K (some (.int (gfA (fun f => iN (mem (σ 324) l1 f))))) σ) ∧ (l2 = 2 → K (some (.int (l5 + 1000))) σ))) ∧ (l2 = 1 → K (some (.int l4)) σ))) ∧ (l2 = 0 → K (some (.int l3)) σ))) ∧ (l6 < (σ 324 3) → (0 ≤ l6 ∧ l6 < 20) ∧ ((¬ (bI (fld (σ 324) l6.toNatClampNeg 0 / 8 = l1)) = 0 → ((0 ≤ l6 ∧ l6 < 20) ∧ 0 ≤ σ 324 3 ∧ σ 324 3 ≤ 20) ∧ ((¬ (fJo (σ 324) l6.toNatClampNeg) < 0 → gE 235 39 [some (.ref 323), some (.int l1), some (.int l2), some (.int (l3 + 1)), some (.int l4), some (.int (l5 + (fJo (σ 324) l6.toNatClampNeg))), some (.int (l6 + 1)), some (.int (fJo (σ 324) l6.toNatClampNeg))] [] σ K) ∧ ((fJo (σ 324) l6.toNatClampNeg) < 0 → gE 235 39 [some (.ref 323), some (.int l1), some (.int l2), some (.int (l3 + 1)), some (.int (l4 + 1)), some (.int (l5 + (fJo (σ 324) l6.toNatClampNeg))), some (.int (l6 + 1)), some (.int (fJo (σ 324) l6.toNatClampNeg))] [] σ K))) ∧ ((bI (fld (σ 324) l6.toNatClampNeg 0 / 8 = l1)) = 0 → gE 235 39 [some (.ref 323), some (.int l1), some (.int l2), some (.int l3), some (.int l4), some (.int l5), some (.int (l6 + 1)), l7] [] σ K))))) : gE 235 39 [some (.ref 323), some (.int l1), some (.int l2), some (.int l3), some (.int l4), some (.int l5), some (.int l6), l7] [] σ K :=
  gw_run (cy := 235) (cuts := [39]) (inl := []) (pf := gpeh) gpeh_ok 400 (by decide) h
theorem s235 {σ : gS} {K : gK} {b w : Int32} (hc : RS σ) (hK : K (some (.int (aTb (σ 324) (fun f => iN (mem (σ 324) b f)) b w))) σ) : gE 235 0 [some (.ref 323), some (.int b), some (.int w), none, none, none, none, none] [] σ K := by
  have hcc := hc
  obtain ⟨⟨h3, h9⟩, hu⟩ := hc
  unfold aTb at hK
  refine w235 ⟨fun h => ?_, fun h => ⟨fun h2 => ?_, fun h2 => ?_⟩⟩
  · rw [if_neg (bI_0.mp h)] at hK; exact hK
  · rw [if_pos (dnn h)] at hK
    refine g_forJ (nM (σ 324)) (fun k u => [some (.ref 323), some (.int b), some (.int w), some (.int (iN (cnt (fun t => decide (fld (σ 324) t 0 / 8 = b)) k))), some (.int (iN (cnt (fun t => decide (fld (σ 324) t 0 / 8 = b ∧ fJo (σ 324) t < 0)) k))), some (.int (sm (fun t => if fld (σ 324) t 0 / 8 = b then fJo (σ 324) t else 0) k)), some (.int (iN k)), u]) (fun _ => σ) (fun _ => True) (fun _ u => ?_) (fun k hk _ ih u => ?_) 0 (Nat.zero_le _) trivial none
    · have hn := (nM_of h3).2
      refine c235_39 ⟨by decide, fun _ => ⟨fun q0 => ⟨fun q1 => ⟨fun q2 => ⟨hcc, ?_⟩, fun q2 => ?_⟩, fun q1 => ?_⟩, fun q0 => ?_⟩, fun h => ?_⟩
      · have q3 : w = 3 := by
          have h2 := dnn h2
          have a := h2.1
          have b := h2.2
          grind
        rw [if_neg q0, if_neg q1, if_neg q2, if_pos q3] at hK
        exact hK
      · rw [if_neg q0, if_neg q1, if_pos q2] at hK; exact hK
      · rw [if_neg q0, if_pos q1] at hK; exact hK
      · rw [if_pos q0] at hK; exact hK
      · rw [nM_lt h3 (by omega)] at h; omega
    · have hn := (nM_of h3).2
      have hk20 : k < 20 := by omega
      have ek : (iN k).toNatClampNeg = k := iN_nat (by omega)
      have ih := ih trivial
      refine c235_39 ⟨by decide, fun h => ?_, fun h => ⟨b20 hk20, ?_⟩⟩
      · rw [nM_lt h3 (by omega)] at h; omega
      · rw [ek, iN_one, iN_one, iN_one]
        refine ⟨fun q => ⟨⟨b20 hk20, h3⟩, ?_⟩, fun q => ?_⟩
        · have q := dnn q
          have e : sm (fun t => if fld (σ 324) t 0 / 8 = b then fJo (σ 324) t else 0) (k + 1) = sm (fun t => if fld (σ 324) t 0 / 8 = b then fJo (σ 324) t else 0) k + fJo (σ 324) k := congrArg (_ + ·) (if_pos q)
          rw [e, cnt_t (P := fun t => decide (fld (σ 324) t 0 / 8 = b)) (decide_eq_true q)] at ih
          refine ⟨fun q2 => ?_, fun q2 => ?_⟩
          · rw [cnt_f (fun z => q2 (of_decide_eq_true z).2)] at ih
            exact ih _
          · rw [cnt_t (decide_eq_true ⟨q, q2⟩)] at ih
            exact ih _
        · have q := bI_0.mp q
          rw [sm_z (g := fun t => if fld (σ 324) t 0 / 8 = b then fJo (σ 324) t else 0) (if_neg q), cnt_f (P := fun t => decide (fld (σ 324) t 0 / 8 = b)) (fun z => q (of_decide_eq_true z)), cnt_f (fun z => q (of_decide_eq_true z).1)] at ih
          exact ih _
  · rw [if_pos (dnn h)] at hK
    have nw : ∀ j : Int32, 0 ≤ j → j ≤ 3 → ¬ w = j := fun j a b z => bI_0.mp h2 (by rw [z]; exact ⟨a, b⟩)
    rw [if_neg (nw 0 (by decide) (by decide)), if_neg (nw 1 (by decide) (by decide)), if_neg (nw 2 (by decide) (by decide)), if_neg (nw 3 (by decide) (by decide))] at hK
    exact hK
noncomputable def f235 : gD := fun Lv σ => match Lv with
  | [some (.ref q0), some (.int b), some (.int w), none, none, none, none, none] => cond (Nat.beq q0 323) (some (some (RS σ), some (.int (aTb (σ 324) (fun f => iN (mem (σ 324) b f)) b w)), σ)) none
  | _ => none
theorem ok235 : gFok 235 f235 := by
  intro Lv σ q h hc K hK
  unfold f235 at h
  split at h
  · rename_i q0 b w
    obtain ⟨hb, h⟩ := c_no h
    have hb0 := hb
    have e0 := b_eq hb0
    subst e0
    cases h
    exact s235 (hc _ rfl) hK
  · cases h
set_option maxRecDepth 20000 in
theorem w129 {σ : gS} {K : gK} {x : Int32} (h : ((¬ x < 0 → (SC σ) ∧ K (some (.int (fRk (cR σ 6) x))) σ) ∧ (x < 0 → K (some (.int (-1))) σ))) : gE 129 0 [some (.ref 0), some (.int x)] [] σ K :=
  gw_run (cy := 129) (cuts := []) (inl := []) (pf := gpeh) gpeh_ok 400 (by decide) h
theorem s129 {σ : gS} {K : gK} {x : Int32} (hc : SC σ) (hK : K (some (.int (if x < 0 then -1 else fRk (cR σ 6) x))) σ) : gE 129 0 [some (.ref 0), some (.int x)] [] σ K := by
  refine w129 ⟨fun h => ⟨hc, ?_⟩, fun h => ?_⟩
  · rw [if_neg h] at hK; exact hK
  · rw [if_pos h] at hK; exact hK
noncomputable def f129 : gD := fun Lv σ => match Lv with
  | [some (.ref q0), some (.int x)] => cond (Nat.beq q0 0) (some (some (SC σ), some (.int (if x < 0 then -1 else fRk (cR σ 6) x)), σ)) none
  | _ => none
theorem ok129 : gFok 129 f129 := by
  intro Lv σ q h hc K hK
  unfold f129 at h
  split at h
  · rename_i q0 x
    obtain ⟨hb, h⟩ := c_no h
    have hb0 := hb
    have e0 := b_eq hb0
    subst e0
    cases h
    exact s129 (hc _ rfl) hK
  · cases h
set_option maxRecDepth 20000 in
theorem w140 {σ : gS} {K : gK} {i c : Int32} (h : ((i < 0 → K (some (.int (-1))) σ) ∧ (¬ i < 0 → ((¬ (bI ((0 : Int32) ≤ c ∧ c ≤ (2 : Int32))) = 0 → (bLg σ 30 ∧ 0 ≤ i ∧ (0 ≤ c ∧ c ≤ 2)) ∧ K (some (.int (if i < σ 30 2 then σ 31 (3 * (((σ 30 1).toNatClampNeg + i.toNatClampNeg) % 40) + c.toNatClampNeg) else -2))) σ) ∧ ((bI ((0 : Int32) ≤ c ∧ c ≤ (2 : Int32))) = 0 → K (some (.int (-1))) σ))))) : gE 140 0 [some (.ref 0), some (.int i), some (.int c)] [] σ K :=
  gw_run (cy := 140) (cuts := []) (inl := []) (pf := gpeh) gpeh_ok 400 (by decide) h
theorem s140 {σ : gS} {K : gK} {i c : Int32} (hc : SC σ) (hK : K (some (.int (if ¬ i < 0 ∧ (0 ≤ c ∧ c ≤ 2) then (if i < σ 30 2 then σ 31 (3 * (((σ 30 1).toNatClampNeg + i.toNatClampNeg) % 40) + c.toNatClampNeg) else -2) else -1))) σ) : gE 140 0 [some (.ref 0), some (.int i), some (.int c)] [] σ K := by
  obtain ⟨hT, hP, hL, h0⟩ := hc
  have h7 : 0 ≤ σ 6 7 ∧ σ 6 7 ≤ 20 := SC_7 ⟨hT, hP, hL, h0⟩
  refine w140 ⟨fun h => ?_, fun h => ⟨fun h2 => ⟨⟨hL, Int32.not_lt.mp h, dnn h2⟩, ?_⟩, fun h2 => ?_⟩⟩
  · rw [if_neg (fun z => z.1 h)] at hK; exact hK
  · rw [if_pos ⟨h, dnn h2⟩] at hK; exact hK
  · rw [if_neg (fun z => bI_0.mp h2 z.2)] at hK; exact hK
noncomputable def f140 : gD := fun Lv σ => match Lv with
  | [some (.ref q0), some (.int i), some (.int c)] => cond (Nat.beq q0 0) (some (some (SC σ), some (.int (if ¬ i < 0 ∧ (0 ≤ c ∧ c ≤ 2) then (if i < σ 30 2 then σ 31 (3 * (((σ 30 1).toNatClampNeg + i.toNatClampNeg) % 40) + c.toNatClampNeg) else -2) else -1)), σ)) none
  | _ => none
theorem ok140 : gFok 140 f140 := by
  intro Lv σ q h hc K hK
  unfold f140 at h
  split at h
  · rename_i q0 i c
    obtain ⟨hb, h⟩ := c_no h
    have hb0 := hb
    have e0 := b_eq hb0
    subst e0
    cases h
    exact s140 (hc _ rfl) hK
  · cases h
set_option maxRecDepth 20000 in
theorem w250 {σ : gS} {K : gK} {i c : Int32} (h : ((i < 0 → K (some (.int (-1))) σ) ∧ (¬ i < 0 → ((¬ (bI ((0 : Int32) ≤ c ∧ c ≤ (2 : Int32))) = 0 → (0 ≤ (209 : Int32) ∧ (209 : Int32) < 330) ∧ ((¬ i < (σ 324 209) → K (some (.int (-2))) σ) ∧ (i < (σ 324 209) → (0 ≤ ((210 + (3 * i)) + c) ∧ ((210 + (3 * i)) + c) < 330) ∧ K (some (.int (σ 324 ((210 + (3 * i)) + c).toNatClampNeg))) σ))) ∧ ((bI ((0 : Int32) ≤ c ∧ c ≤ (2 : Int32))) = 0 → K (some (.int (-1))) σ))))) : gE 250 0 [some (.ref 323), some (.int i), some (.int c)] [] σ K :=
  gw_run (cy := 250) (cuts := []) (inl := []) (pf := gpeh) gpeh_ok 400 (by decide) h
theorem s250 {σ : gS} {K : gK} {i c : Int32} (hc : RS σ) (hK : K (some (.int (if ¬ i < 0 ∧ (0 ≤ c ∧ c ≤ 2) then (if i < σ 324 209 then σ 324 (210 + 3 * i.toNatClampNeg + c.toNatClampNeg) else -2) else -1))) σ) : gE 250 0 [some (.ref 323), some (.int i), some (.int c)] [] σ K := by
  obtain ⟨⟨h3, h9⟩, hu⟩ := hc
  refine w250 ⟨fun h => ?_, fun h => ⟨fun h2 => ⟨by decide, fun h4 => ?_, fun h4 => ?_⟩, fun h2 => ?_⟩⟩
  · rw [if_neg (fun z => z.1 h)] at hK; exact hK
  · rw [if_pos ⟨h, dnn h2⟩, if_neg h4] at hK; exact hK
  · rw [if_pos ⟨h, dnn h2⟩, if_pos h4] at hK
    have hw := dnn h2
    obtain ⟨eI, lI⟩ := iN_of (Int32.not_lt.mp h)
    obtain ⟨eC, lC⟩ := iN_of hw.1
    obtain ⟨I, hI⟩ : ∃ I, i.toNatClampNeg = I := ⟨_, rfl⟩
    obtain ⟨C, hC⟩ : ∃ C, c.toNatClampNeg = C := ⟨_, rfl⟩
    rw [hI] at eI lI hK
    rw [hC] at eC lC hK
    have I40 : I < 40 := by
      have q2 : i < 40 := by
        have := h9.2
        grind
      rw [eI] at q2
      exact (iN_lt (m := 40) lI (by decide)).mp q2
    have C3 : C < 3 := by
      have := hw.2
      rw [eC] at this
      have := (iN_le (m := 2) lC (by decide)).mp this
      omega
    have key : (210 : Int32) + 3 * i + c = iN (210 + 3 * I + C) := by
      rw [eI, eC, show (3 : Int32) = iN 3 from rfl, iN_mul, show (210 : Int32) = iN 210 from rfl, iN_add, iN_add]
    rw [key, iN_nat (by omega)]
    exact ⟨i330 (by omega), hK⟩
  · rw [if_neg (fun z => bI_0.mp h2 z.2)] at hK; exact hK
noncomputable def f250 : gD := fun Lv σ => match Lv with
  | [some (.ref q0), some (.int i), some (.int c)] => cond (Nat.beq q0 323) (some (some (RS σ), some (.int (if ¬ i < 0 ∧ (0 ≤ c ∧ c ≤ 2) then (if i < σ 324 209 then σ 324 (210 + 3 * i.toNatClampNeg + c.toNatClampNeg) else -2) else -1)), σ)) none
  | _ => none
theorem ok250 : gFok 250 f250 := by
  intro Lv σ q h hc K hK
  unfold f250 at h
  split at h
  · rename_i q0 i c
    obtain ⟨hb, h⟩ := c_no h
    have hb0 := hb
    have e0 := b_eq hb0
    subst e0
    cases h
    exact s250 (hc _ rfl) hK
  · cases h
set_option maxRecDepth 20000 in
theorem w125 {σ : gS} {K : gK} {t i : Int32} (h : (((bI (isT (cR σ 6) t)) = 0 → K (some (.int (-1))) σ) ∧ (¬ (bI (isT (cR σ 6) t)) = 0 → ((¬ i < 0 → (0 ≤ t ∧ t < 20) ∧ gTv (6 + 2 + t.toNatClampNeg) ∧ (gTv (6 + 2 + t.toNatClampNeg)) ∧ ((¬ (if i < 5 then (σ (6 + 2 + t.toNatClampNeg) 0 >>> ((5 * i) &&& 31)) &&& 31 else 0) = 0 → K (some (.int (if i < 5 then (σ (6 + 2 + t.toNatClampNeg) 0 >>> ((5 * i) &&& 31)) &&& 31 else 0))) σ) ∧ ((if i < 5 then (σ (6 + 2 + t.toNatClampNeg) 0 >>> ((5 * i) &&& 31)) &&& 31 else 0) = 0 → K (some (.int (-2))) σ))) ∧ (i < 0 → K (some (.int (-1))) σ))))) : gE 125 0 [some (.ref 0), some (.int t), some (.int i), none] [] σ K :=
  gw_run (cy := 125) (cuts := []) (inl := []) (pf := gpeh) gpeh_ok 400 (by decide) h
theorem s125 {σ : gS} {K : gK} {t i : Int32} (hc : SC σ) (hK : K (some (.int (if isT (cR σ 6) t ∧ ¬ i < 0 then (if i < 5 ∧ ¬ (σ (8 + t.toNatClampNeg) 0 >>> ((5 * i) &&& 31)) &&& 31 = 0 then (σ (8 + t.toNatClampNeg) 0 >>> ((5 * i) &&& 31)) &&& 31 else -2) else -1))) σ) : gE 125 0 [some (.ref 0), some (.int t), some (.int i), none] [] σ K := by
  obtain ⟨hT, hP, hL, h0⟩ := hc
  have h7 : 0 ≤ σ 6 7 ∧ σ 6 7 ≤ 20 := SC_7 ⟨hT, hP, hL, h0⟩
  refine w125 ⟨fun h => ?_, fun h => ⟨fun h2 => ?_, fun h2 => ?_⟩⟩
  · rw [if_neg (fun z => bI_0.mp h z.1)] at hK; exact hK
  · have hp := isN_of hT.1 (dnn h)
    have lt := n20 hp.1
    have tv := tv_6 _ lt
    rw [if_pos ⟨dnn h, h2⟩] at hK
    refine ⟨hp.1, tv, tv, fun q => ?_, fun q => ?_⟩
    · by_cases q5 : i < 5
      · rw [if_pos q5] at q ⊢
        rw [if_pos ⟨q5, q⟩] at hK
        exact hK
      · rw [if_neg q5] at q
        exact absurd rfl q
    · by_cases q5 : i < 5
      · rw [if_pos q5] at q
        rw [if_neg (fun z => z.2 q)] at hK
        exact hK
      · rw [if_neg (fun z => q5 z.1)] at hK
        exact hK
  · rw [if_neg (fun z => z.2 h2)] at hK; exact hK
noncomputable def f125 : gD := fun Lv σ => match Lv with
  | [some (.ref q0), some (.int t), some (.int i), none] => cond (Nat.beq q0 0) (some (some (SC σ), some (.int (if isT (cR σ 6) t ∧ ¬ i < 0 then (if i < 5 ∧ ¬ (σ (8 + t.toNatClampNeg) 0 >>> ((5 * i) &&& 31)) &&& 31 = 0 then (σ (8 + t.toNatClampNeg) 0 >>> ((5 * i) &&& 31)) &&& 31 else -2) else -1)), σ)) none
  | _ => none
theorem ok125 : gFok 125 f125 := by
  intro Lv σ q h hc K hK
  unfold f125 at h
  split at h
  · rename_i q0 t i
    obtain ⟨hb, h⟩ := c_no h
    have hb0 := hb
    have e0 := b_eq hb0
    subst e0
    cases h
    exact s125 (hc _ rfl) hK
  · cases h
/-- names are names -/
noncomputable def nmG (R : gW) : Prop := ∀ t, t < nM R → 0 ≤ R (9 + 10 * t + 9) ∧ (1 ≤ nsz (R (9 + 10 * t + 9)) ∧ nsz (R (9 + 10 * t + 9)) ≤ 5)
set_option maxRecDepth 20000 in
theorem w230 {σ : gS} {K : gK} {t i : Int32} (h : (((bI (isT (σ 324) t)) = 0 → K (some (.int (-1))) σ) ∧ (¬ (bI (isT (σ 324) t)) = 0 → ((¬ i < 0 → (0 ≤ (9 + 10 * t + (9 : Int32)) ∧ (9 + 10 * t + (9 : Int32)) < 330) ∧ (0 ≤ (σ 324 (9 + 10 * t + (9 : Int32)).toNatClampNeg)) ∧ ((¬ i < (iN (nsz (σ 324 (9 + 10 * t + (9 : Int32)).toNatClampNeg))) → K (some (.int (-2))) σ) ∧ (i < (iN (nsz (σ 324 (9 + 10 * t + (9 : Int32)).toNatClampNeg))) → (0 ≤ (σ 324 (9 + 10 * t + (9 : Int32)).toNatClampNeg) ∧ (0 ≤ i ∧ i < 20)) ∧ K (some (.int (iN (lOf (σ 324 (9 + 10 * t + (9 : Int32)).toNatClampNeg) i.toNatClampNeg)))) σ))) ∧ (i < 0 → K (some (.int (-1))) σ))))) : gE 230 0 [some (.ref 323), some (.int t), some (.int i), none] [] σ K :=
  gw_run (cy := 230) (cuts := []) (inl := []) (pf := gpeh) gpeh_ok 400 (by decide) h
theorem s230 {σ : gS} {K : gK} {t i : Int32} (hc : RS σ ∧ nmG (σ 324)) (hK : K (some (.int (if isT (σ 324) t ∧ ¬ i < 0 then (if i < iN (nsz (σ 324 (9 + 10 * t.toNatClampNeg + 9))) then iN (lOf (σ 324 (9 + 10 * t.toNatClampNeg + 9)) i.toNatClampNeg) else -2) else -1))) σ) : gE 230 0 [some (.ref 323), some (.int t), some (.int i), none] [] σ K := by
  obtain ⟨hc, hn⟩ := hc
  obtain ⟨⟨h3, h9⟩, hu⟩ := hc
  refine w230 ⟨fun h => ?_, fun h => ⟨fun h2 => ?_, fun h2 => ?_⟩⟩
  · rw [if_neg (fun z => bI_0.mp h z.1)] at hK; exact hK
  · have ht := isT_of h3 (dnn h)
    have tn := isT_nn h3 (dnn h)
    rw [if_pos ⟨dnn h, h2⟩] at hK
    clear h
    obtain ⟨et, lt⟩ := t20 ht
    obtain ⟨m, hm⟩ : ∃ m, t.toNatClampNeg = m := ⟨_, rfl⟩
    rw [hm] at et lt hK tn
    subst et
    have nn := hn m tn
    refine ⟨ixb9 lt, ?_⟩
    rw [ix9 lt]
    refine ⟨nn.1, fun q => ?_, fun q => ⟨⟨nn.1, Int32.not_lt.mp h2, ?_⟩, ?_⟩⟩
    · rw [if_neg q] at hK; exact hK
    · have l5 : iN (nsz (σ 324 (9 + 10 * m + 9))) ≤ 5 := (iN_le (m := 5) (by omega) (by decide)).mpr nn.2.2
      grind
    · rw [if_pos q] at hK; exact hK
  · rw [if_neg (fun z => z.2 h2)] at hK; exact hK
noncomputable def f230 : gD := fun Lv σ => match Lv with
  | [some (.ref q0), some (.int t), some (.int i), none] => cond (Nat.beq q0 323) (some (some (RS σ ∧ nmG (σ 324)), some (.int (if isT (σ 324) t ∧ ¬ i < 0 then (if i < iN (nsz (σ 324 (9 + 10 * t.toNatClampNeg + 9))) then iN (lOf (σ 324 (9 + 10 * t.toNatClampNeg + 9)) i.toNatClampNeg) else -2) else -1)), σ)) none
  | _ => none
theorem ok230 : gFok 230 f230 := by
  intro Lv σ q h hc K hK
  unfold f230 at h
  split at h
  · rename_i q0 t i
    obtain ⟨hb, h⟩ := c_no h
    have hb0 := hb
    have e0 := b_eq hb0
    subst e0
    cases h
    exact s230 (hc _ rfl) hK
  · cases h
noncomputable def gpei_l : List (Nat × gD) := (123, f123) :: (227, f227) :: (124, f124) :: (229, f229) :: (127, f127) :: (128, f128) :: (238, f238) :: (235, f235) :: (129, f129) :: (140, f140) :: (250, f250) :: (125, f125) :: (230, f230) :: gpeh_l
noncomputable def gpei : gP := gpl0 gpei_l
theorem gpei_ok : gPok gpei := gpl0_cons ok123 (gpl0_cons ok227 (gpl0_cons ok124 (gpl0_cons ok229 (gpl0_cons ok127 (gpl0_cons ok128 (gpl0_cons ok238 (gpl0_cons ok235 (gpl0_cons ok129 (gpl0_cons ok140 (gpl0_cons ok250 (gpl0_cons ok125 (gpl0_cons ok230 (gpeh_ok)))))))))))))
