/-! RELATION: come -/
theorem cNam_e {σ : gS} : cNam σ = cPk (σ 3) (σ 2 1).toNatClampNeg (iN (tkS (σ 3) (σ 2 1).toNatClampNeg 0)).toNatClampNeg (min ((iN (tkE (σ 3) (σ 2 1).toNatClampNeg 0)).toNatClampNeg - (iN (tkS (σ 3) (σ 2 1).toNatClampNeg 0)).toNatClampNeg) 5) := by
  obtain ⟨c1, c2, c3⟩ := cBeg_1 (σ := σ)
  unfold cNam
  rw [c1, c2, cBeg_ne (by decide), cBeg_ne (by decide)]
theorem cNam_cg {σ τ : gS} (h2 : τ 2 = σ 2) (h3 : τ 3 = σ 3) : cNam τ = cNam σ := by
  rw [cNam_e, cNam_e, h2, h3]
/-- the guest's numbers, read back -/
theorem cGu0_58 {σ : gS} {x k f w s : Int32} (h7 : 0 ≤ σ 6 7 ∧ σ 6 7 ≤ 20) : cGu0 σ x k f w s 58 0 = cNam σ ∧ cGu0 σ x k f w s 58 1 = x ∧ cGu0 σ x k f w s 58 2 = k ∧ cGu0 σ x k f w s 58 3 = f ∧ (∀ j, 4 ≤ j → j < 8 → cGu0 σ x k f w s 58 j = 0) ∧ cGu0 σ x k f w s 58 8 = w ∧ cGu0 σ x k f w s 58 9 = s := by
  have b7 : 0 ≤ cBeg σ 6 7 ∧ cBeg σ 6 7 ≤ 20 := by rw [cBeg_ne (by decide)]; exact h7
  unfold cGu0 cGue
  refine ⟨?_, ?_, ?_, ?_, fun j h1 h2 => ?_, ?_, gup_at _ _ _⟩
  · rw [gup_ne (by omega), gup_ne (by omega), gup_ne (by omega), gup_ne (by omega), gup_ne (by omega), gup_at]
    refine cNam_cg ?_ ?_
    · rw [cZr_ne (by decide), cRem_far (Or.inl (by decide)) b7, cBeg_ne (by decide)]
    · rw [cZr_ne (by decide), cRem_far (Or.inl (by decide)) b7, cBeg_ne (by decide)]
  · rw [gup_ne (by omega), gup_ne (by omega), gup_ne (by omega), gup_ne (by omega), gup_at]
  · rw [gup_ne (by omega), gup_ne (by omega), gup_ne (by omega), gup_at]
  · rw [gup_ne (by omega), gup_ne (by omega), gup_at]
  · rw [gup_ne (by omega), gup_ne (by omega), gup_ne (by omega), gup_ne (by omega), gup_ne (by omega), gup_ne (by omega), cBeg_ne (by decide)]
    unfold cZr
    rw [if_pos ⟨rfl, by omega⟩]
  · rw [gup_ne (by omega), gup_at]
/-- a traveller comes: class and reference -/
theorem SV_com {σ : gS} {R : gW} {x k f w s nm : Int32} (h : SV σ 6 R) (h20 : R 3 < 20) (hx : 0 ≤ x ∧ x < 40) (hk : k = 0 ∨ k = 1) (hf : 0 ≤ f ∧ f ≤ 9) (hn : nmR (cNam σ) nm) : SV (cCom σ x k f w s) 6 (nCom R x k f w s nm) := by
  obtain ⟨b3, bn, e7⟩ := SV_3 h
  have h7 : 0 ≤ σ 6 7 ∧ σ 6 7 ≤ 20 := by rw [e7]; exact b3
  obtain ⟨n, hN⟩ : ∃ n, nM R = n := ⟨_, rfl⟩
  have e3 : R 3 = iN n := by rw [← hN]; exact (nM_of b3).1
  have n20' : n < 20 := by
    rw [e3] at h20
    exact (iN_lt (m := 20) (by omega) (by decide)).mp h20
  obtain ⟨τ, hτ⟩ : ∃ τ, cGu0 σ x k f w s = τ := ⟨_, rfl⟩
  have hT : SV τ 6 R := by
    rw [← hτ]
    exact SV_blk h (fun q q1 q2 => cGu0_ne h7 (by omega) (by omega) (by omega))
  obtain ⟨v0, v1, v2, v3, v4, v8, v9⟩ := cGu0_58 (x := x) (k := k) (f := f) (w := w) (s := s) h7
  rw [hτ] at v0 v1 v2 v3 v4 v8 v9
  obtain ⟨S, hS⟩ : ∃ S, radd (rup (rup (rup (rup (fNew R x nm) (9 + 10 * n + 1) k) (9 + 10 * n + 2) f) (9 + 10 * n + 7) w) (9 + 10 * n + 8) s) 3 1 = S := ⟨_, rfl⟩
  have vS : ∀ j, ¬ j = 3 → S j = if j = 9 + 10 * n + 8 then s else if j = 9 + 10 * n + 7 then w else if j = 9 + 10 * n + 2 then f else if j = 9 + 10 * n + 1 then k else if j = 9 + 10 * n + 9 then nm else if j = 9 + 10 * n + 0 then x else if 9 + 10 * n ≤ j ∧ j < 9 + 10 * n + 10 then 0 else R j := by
    intro j hj
    rw [← hS, radd_ne hj]
    unfold fNew zsh rup
    rw [hN]
    grind (splits := 40)
  have sA : SV (cAdm τ 6 58) 6 S := by
    refine SV_adm (n := n) hT (Or.inr (by decide)) hN n20' (by rw [v1]; exact hx) (by rw [v2]; exact hk) (by rw [v3]; exact hf) ?_ ?_ ?_ ?_ ?_ ?_
    · rw [← hS, radd_at, rup_ne (by omega), rup_ne (by omega), rup_ne (by omega), rup_ne (by omega), fNew_ne (by omega), e3]
      exact iN_one n
    · intro j hj h3
      rw [vS j h3, if_neg (by omega), if_neg (by omega), if_neg (by omega), if_neg (by omega), if_neg (by omega), if_neg (by omega), if_neg (by omega)]
    · intro j h1 h2
      rw [vS j (by omega), if_neg (by omega), if_neg (by omega), if_neg (by omega), if_neg (by omega), if_neg (by omega), if_neg (by omega), if_neg (by omega)]
    · intro g hg
      rw [vS _ (by omega)]
      have hh : g = 0 ∨ g = 1 ∨ g = 2 ∨ g = 3 ∨ g = 4 ∨ g = 5 ∨ g = 6 ∨ g = 7 ∨ g = 8 := by omega
      rcases hh with e | e | e | e | e | e | e | e | e <;> subst e
      · rw [if_neg (by omega), if_neg (by omega), if_neg (by omega), if_neg (by omega), if_neg (by omega), if_pos rfl]; exact v1.symm
      · rw [if_neg (by omega), if_neg (by omega), if_neg (by omega), if_pos rfl]; exact v2.symm
      · rw [if_neg (by omega), if_neg (by omega), if_pos rfl]; exact v3.symm
      · rw [if_neg (by omega), if_neg (by omega), if_neg (by omega), if_neg (by omega), if_neg (by omega), if_neg (by omega), if_pos (by omega)]; exact (v4 4 (by decide) (by decide)).symm
      · rw [if_neg (by omega), if_neg (by omega), if_neg (by omega), if_neg (by omega), if_neg (by omega), if_neg (by omega), if_pos (by omega)]; exact (v4 5 (by decide) (by decide)).symm
      · rw [if_neg (by omega), if_neg (by omega), if_neg (by omega), if_neg (by omega), if_neg (by omega), if_neg (by omega), if_pos (by omega)]; exact (v4 6 (by decide) (by decide)).symm
      · rw [if_neg (by omega), if_neg (by omega), if_neg (by omega), if_neg (by omega), if_neg (by omega), if_neg (by omega), if_pos (by omega)]; exact (v4 7 (by decide) (by decide)).symm
      · rw [if_neg (by omega), if_pos rfl]; exact v8.symm
      · rw [if_pos rfl]; exact v9.symm
    · rw [vS _ (by omega), if_neg (by omega), if_neg (by omega), if_neg (by omega), if_neg (by omega), if_pos rfl, v0]
      exact hn
    · intro j h1 h2
      rw [vS j (by omega), if_neg (by omega), if_neg (by omega), if_neg (by omega), if_neg (by omega), if_neg (by omega), if_neg (by omega), if_neg (by omega)]
  have sB := SV_add (w := 0) (a := R 3) (b := x) sA
  unfold nCom cCom
  rw [hN, hS, hτ, e7]
  exact SV_blk sB (fun q q1 q2 => funext fun j => gup_ne (by omega))
