theorem bRel_all {R : gW} (h3 : 0 ≤ R 3 ∧ R 3 ≤ 20) (hT : bT R) (hF : bF R) (hW : bW R) : bRel R (cBst R) (nfold (bsR R) (nM R) (-2, 0)) := by
  have key : ∀ n, n ≤ nM R → bRel R (nfold (csR R) n (fJa R, -2, -2)) (nfold (bsR R) n (-2, 0)) ∧ ∀ a b, a < n → b < nM R → bSee R (nfold (bsR R) n (-2, 0)) a b := by
    intro n
    induction n with
    | zero =>
      intro _
      exact ⟨⟨(Int32.add_zero _).symm, show (0 : Int32) ≤ 0 ∧ (0 : Int32) ≤ 4000 from by decide, Or.inl ⟨rfl, rfl⟩⟩, fun a b h => absurd h (Nat.not_lt_zero _)⟩
    | succ n ih =>
      intro hn
      obtain ⟨i1, i2⟩ := ih (by omega)
      refine ⟨bRel_row h3 hT hF (by omega) (fun b hb => bSee_sym hW (by omega) (by omega) (i2 b n hb (by omega))) i1, fun a b ha hb => ?_⟩
      by_cases e : a = n
      · subst e; exact bsN_new hb
      · exact bsN_mono (i2 a b (by omega) hb)
  exact (key _ (Nat.le_refl _)).1
/-- the class's best exchange is the reference's -/
theorem cBst_fBest {R : gW} (h3 : 0 ≤ R 3 ∧ R 3 ≤ 20) (hT : bT R) (hF : bF R) (hW : bW R) : ((cBst R).2.1 = -2 ∧ fBest R < 0) ∨ ∃ a b, a < b ∧ b < nM R ∧ (cBst R).2.1 = iN a ∧ (cBst R).2.2 = iN b ∧ ¬ (cBst R).2.1 = -2 ∧ ¬ fBest R < 0 ∧ fNx R = rsw R a b := by
  have hn := (nM_of h3).2
  rcases (bRel_all h3 hT hF hW).2.2 with ⟨q1, q2⟩ | ⟨a, b, hab, hb, ea, eb, e⟩
  · exact Or.inl ⟨q1, by unfold fBest; rw [q2]; decide⟩
  · obtain ⟨d1, d2, d3⟩ := dm100 a (by omega) b (by omega)
    have eB : fBest R = 100 * iN a + iN b := e
    refine Or.inr ⟨a, b, hab, hb, ea, eb, ?_, by rw [eB]; exact d3, ?_⟩
    · rw [ea]
      intro q
      have := (b20 (k := a) (by omega)).1
      rw [q] at this
      exact absurd this (by decide)
    · unfold fNx
      rw [eB, d2, d1, iN_nat (by omega), iN_nat (by omega)]

