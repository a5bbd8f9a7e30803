theorem s112 {σ : gS} {K : gK} {x k f w s : Int32} (hc : SC σ ∧ (0 ≤ σ 2 1 ∧ σ 2 1 ≤ 1000)) (hK : K (some (.int (if okK σ x k f w s ∧ cTN σ then (if σ 6 7 < 20 then (if okF σ x k then σ 6 7 else -4) else -3) else -1))) (if okK σ x k f w s then (if cTN σ ∧ σ 6 7 < 20 ∧ okF σ x k then cCom σ x k f w s else cBeg σ) else σ)) : gE 112 0 [some (.ref 0), some (.int x), some (.int k), some (.int f), some (.int w), some (.int s), none] [] σ K := by
  obtain ⟨hs, hL⟩ := hc
  have h7 := SC_7 hs
  have b6 : cBeg σ 6 = σ 6 := cBeg_ne (by decide)
  have bR : cR (cBeg σ) 6 = cR σ 6 := cR_blk (fun q q1 q2 => cBeg_ne (by omega))
  have no : ¬ okK σ x k f w s → K (some (.int (-1))) σ := by
    intro q
    rw [if_neg q, if_neg (fun e => q e.1)] at hK
    exact hK
  refine w112 ⟨fun h => no (fun q => bI_0.mp h q.1.1.1.1), fun h => ⟨fun h1 => no (fun q => bI_0.mp h1 q.1.1.1.2), fun h1 => ⟨fun h2 => no (fun q => bI_0.mp h2 q.1.1.2), fun h2 => ⟨fun h3 => no (fun q => bI_0.mp h3 q.1.2), fun h3 => ⟨fun h4 => no (fun q => bI_0.mp h4 q.2), fun h4 => ⟨hL, ?_⟩⟩⟩⟩⟩⟩
  have yy : ∀ {P : Prop} [Decidable P], ¬ bI P = 0 → P := fun {P} _ h => Decidable.not_not.mp (fun q => h (bI_0.mpr q))
  have ok : okK σ x k f w s := ⟨⟨⟨⟨yy h, yy h1⟩, yy h2⟩, yy h3⟩, yy h4⟩
  rw [if_pos ok] at hK
  rw [b6, bR]
  refine ⟨fun h5 => ?_, fun h5 => ?_⟩
  · have h5 := yy h5
    rw [if_pos ⟨ok, h5⟩] at hK
    refine ⟨fun h6 => ?_, fun h6 => ?_⟩
    · rw [if_pos h6] at hK
      have bad : ¬ okF σ x k → K (some (.int (-4))) (cBeg σ) := by
        intro q
        rw [if_neg q, if_neg (fun e => q e.2.2)] at hK
        exact hK
      refine ⟨h7, fun h8 => bad (fun q => bI_0.mp h8 q.1), fun h8 => ⟨fun h9 => ?_, fun h9 => bad (fun q => bI_0.mp h9 q.2)⟩⟩
      have okf : okF σ x k := ⟨yy h8, yy h9⟩
      rw [if_pos okf, if_pos ⟨h5, h6, okf⟩] at hK
      have hP := hs.2.1
      have g7 : ∀ q, q < 113 → ¬ q = 58 → ¬ q = 1 → cGu0 σ x k f w s q = σ q := fun q q1 q2 q3 => cGu0_ne h7 q1 q2 q3
      have u7 : 0 ≤ cGu0 σ x k f w s 6 7 ∧ cGu0 σ x k f w s 6 7 < 20 := by rw [g7 6 (by decide) (by decide) (by decide)]; exact ⟨h7.1, h6⟩
      refine c112_105 ⟨⟨by unfold bPa; rw [cBeg_ne (by decide)]; exact hP, by rw [b6]; exact h7⟩, tv_58, tv_58, c112_123 ⟨?_, tv_58, tv_58, tv_58, tv_58, tv_58, tv_58, ?_⟩⟩
      · rw [cZr_ne (by decide), cRem_far (Or.inl (by decide)) (by rw [b6]; exact h7), cBeg_ne (by decide)]
        exact hL
      · show gE 112 188 [some (.ref 0), some (.int x), some (.int k), some (.int f), some (.int w), some (.int s), some (.int (cGu0 σ x k f w s 6 7))] [] (cGu0 σ x k f w s) K
        refine c112_188 ⟨⟨u7, tv_58⟩, ?_, ?_⟩
        · unfold bLg
          rw [cAdm_far u7 (Or.inr (by decide)), g7 30 (by decide) (by decide) (by decide)]
          exact hs.2.2.1
        · rw [g7 6 (by decide) (by decide) (by decide)]
          exact hK
    · rw [if_neg h6, if_neg (fun e => h6 e.2.1)] at hK
      exact hK
  · have h5 := bI_0.mp h5
    rw [if_neg (fun e => h5 e.2), if_neg (fun e => h5 e.1)] at hK
    exact hK
