-- text 83
/-! THE CLASS: a traveller is read, the end -/
theorem st_36 {σ : gS} {K : gK} (h : RK σ) (hK : gE 32 53 [some (.ref 1), some (.ref 32)] [] (rT σ) K) : gE 32 36 [some (.ref 1), some (.ref 32)] [] σ K := by
  unfold rT at hK
  refine c32_36 ⟨h, fun q => ?_, fun q => ?_⟩
  · have q := bI_0.mp q
    rw [if_neg q] at hK
    rw [if_neg q]
    exact hK
  · have q := rTh_y q
    rw [if_pos q] at hK
    rw [if_pos q]
    exact ⟨tv_4, hK⟩
theorem st_202 {σ : gS} {K : gK} (h : RK σ) (h7 : 0 ≤ σ 32 7 ∧ σ 32 7 < 20) (hK : K none (rZ σ)) : gE 32 202 [some (.ref 1), some (.ref 32)] [] σ K := by
  have no : ¬ (cB0 σ = 59 ∧ (σ 4 2 = 1 ∨ cR σ 32 1 ≤ σ 4 1 / 4)) → gE 32 237 [some (.ref 1), some (.ref 32)] [.ref 1] σ K := by
    intro q
    unfold rZ at hK
    rw [if_neg q] at hK
    have w : cPs σ 0 1 5 = 1 := by
      unfold cPs
      rw [if_neg (fun z => z.2 rfl), gup_at]
    refine c32_237 ⟨fun z => absurd rfl z, fun _ => c32_256 hK, fun z => ?_⟩
    rw [w] at z
    exact absurd z (by decide)
  refine c32_202 ⟨h.1.1.1, fun q => no (fun z => bI_0.mp q z.1), fun q => ⟨tv_4, tv_4, fun q2 => no (fun z => bI_0.mp q2 z.2), fun q2 => ?_⟩⟩
  have hb : cB0 σ = 59 := Decidable.not_not.mp (fun z => q (bI_0.mpr z))
  have ha : σ 4 2 = 1 ∨ cR σ 32 1 ≤ σ 4 1 / 4 := Decidable.not_not.mp (fun z => q2 (bI_0.mpr z))
  unfold rZ at hK
  rw [if_pos ⟨hb, ha⟩] at hK
  refine ⟨fun _ => h.1.1.2 (RK_sg h hb (by decide)), fun q3 => ?_, fun q3 => ⟨⟨?_, tv_4⟩, ?_⟩⟩
  · rw [if_neg q3] at hK
    exact c32_256 hK
  · rw [cPs_far (by decide)]
    exact h7
  · rw [if_pos q3] at hK
    exact c32_256 hK
-- text 84
/-! THE CLASS: a traveller is read -/
theorem cTok_far {σ : gS} {q : Nat} (h : ¬ q = 1) : cTok σ q = σ q := funext fun j => cTok_ne (by omega)
theorem g4_far {σ : gS} {q j : Nat} {x : Int32} (h : ¬ q = 4) : gup σ 4 j x q = σ q := funext fun i => gup_ne (by omega)
theorem cFs_far {σ : gS} {q : Nat} (h : ¬ q = 1) : cFs σ q = σ q := funext fun j => cFs_ne (by omega)
theorem cLkH_far {σ : gS} {q : Nat} (h : ¬ q = 1) : cLkH σ q = σ q := cPs_far h
theorem rA_far {σ : gS} {q : Nat} (h : ¬ q = 1) (h4 : ¬ q = 4) : rA σ q = σ q := by
  unfold rA
  rw [cPs_far h, cZr_ne h4]
theorem rB_far {σ : gS} {q : Nat} (h : ¬ q = 1) (h4 : ¬ q = 4) : rB σ q = σ q := by
  unfold rB
  rw [g4_far h4, cInt_far h, cFs_far h]
theorem rC_far {σ : gS} {q : Nat} (h : ¬ q = 1) (h4 : ¬ q = 4) : rC σ q = σ q := by
  unfold rC
  rw [g4_far h4, cPs_far h]
theorem rT_far {σ : gS} {q : Nat} (h : ¬ q = 1) (h4 : ¬ q = 4) : rT σ q = σ q := by
  unfold rT
  split
  · rw [g4_far h4, cTok_far h]
  · rfl
theorem rF_far {σ : gS} {q : Nat} (h : ¬ q = 1) (h4 : ¬ q = 4) : rF σ q = σ q := by
  unfold rF
  split
  · rw [g4_far h4, cInt_far h, cTok_far h]
  · rfl
theorem rW_far {σ : gS} {q : Nat} (h : ¬ q = 1) (h4 : ¬ q = 4) : rW σ q = σ q := by
  unfold rW
  split
  · rw [g4_far h4, cInt_far h, cLkH_far h, cTok_far h]
  · rfl
theorem rAh_far {σ : gS} {q : Nat} (h : ¬ q = 1) (h4 : ¬ q = 4) : rAh σ q = σ q := by
  unfold rAh
  split
  · rw [g4_far h4, cInt_far h, cLkH_far h, cTok_far h]
  · rfl
theorem rR_far {σ : gS} {q : Nat} (h : ¬ q = 1) (h4 : ¬ q = 4) : rR σ q = σ q := by
  unfold rR rR1
  split
  · rw [g4_far h4, cInt_far h, g4_far h4, cInt_far h, cTok_far h]
  · rfl
theorem rS_far {σ : gS} {q : Nat} (h : ¬ q = 1) (h4 : ¬ q = 4) : rS σ q = σ q := by
  unfold rS
  split
  · rw [g4_far h4, cInt_far h, cTok_far h]
  · rfl
theorem rP_far {σ : gS} {q : Nat} (h : ¬ q = 1) (h4 : ¬ q = 4) : rP σ q = σ q := by
  unfold rP
  split
  · rw [g4_far h4, cInt_far h, cTok_far h]
  · rfl
/-- all but the end -/
def rMid (σ : gS) : gS := rP (rS (rR (rAh (rW (rF (rT (rC (rB (rA σ)))))))))
theorem rMid_far {σ : gS} {q : Nat} (h : ¬ q = 1) (h4 : ¬ q = 4) : rMid σ q = σ q := by
  unfold rMid
  rw [rP_far h h4, rS_far h h4, rR_far h h4, rAh_far h h4, rW_far h h4, rF_far h h4, rT_far h h4, rC_far h h4, rB_far h h4, rA_far h h4]
theorem rMid_RK {σ : gS} (h : RK σ) : RK (rMid σ) := rP_RK (rS_RK (rR_RK (rAh_RK (rW_RK (rF_RK (rT_RK (rC_RK (rB_RK (rA_RK h)))))))))
