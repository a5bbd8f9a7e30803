/-! RELATION: swap, move, ring, first keep it, with equal answers -/
/-- both sides of one call -/
def clS (σ : gS) (a b x : Int32) : gS := if gSwa (cR σ 6) a b x then cDsw (cRem σ) a.toNatClampNeg b.toNatClampNeg x else σ
theorem agr_swa {R S : gW} (h3 : 0 ≤ R 3 ∧ R 3 ≤ 20) (h : agr R S) (a b x : Int32) : (gSwa R a b x ↔ gSwa S a b x) ∧ aSwa R a b x = aSwa S a b x := by
  have eP := agr_isP h a b
  by_cases hp : isP R a b
  · have na := (isT_n h3 hp.1.1).2
    have nb := (isT_n h3 hp.1.2).2
    have w := agr_Why h na nb x
    have r1 := agr_Rise h na nb na
    have r2 := agr_Rise h na nb nb
    have eG : gSwa R a b x ↔ gSwa S a b x := by
      unfold gSwa
      rw [w, eP]
    refine ⟨eG, ?_⟩
    unfold aSwa
    rw [w, r1, r2]
    by_cases q : isP R a b ∧ 0 ≤ x ∧ x ≤ 9
    · rw [if_pos q, if_pos (show isP S a b ∧ 0 ≤ x ∧ x ≤ 9 from ⟨eP.mp q.1, q.2⟩)]
    · rw [if_neg q, if_neg (show ¬ (isP S a b ∧ 0 ≤ x ∧ x ≤ 9) from fun z => q ⟨eP.mpr z.1, z.2⟩)]
  · have hp2 : ¬ isP S a b := fun q => hp (eP.mpr q)
    refine ⟨⟨fun q => absurd q.1.1 hp, fun q => absurd q.1.1 hp2⟩, ?_⟩
    unfold aSwa
    rw [if_neg (fun q => hp q.1), if_neg (fun q => hp2 q.1)]
theorem GR_swap {B : Nat} {σ : gS} {a b x : Int32} (h : GR B σ) (hB : B ≤ 1000000) : clS σ a b x 324 = σ 324 ∧ RS (clS σ a b x) ∧ aSwa (cR σ 6) a b x = aSwa (σ 324) a b x ∧ GR B (hOp (clS σ a b x) (gSwa (σ 324) a b x) (nSwa (σ 324) a b x)) := by
  have h' := h
  obtain ⟨g1, g2, g3, g4, g5, g6, g7, g8, g9⟩ := h'
  obtain ⟨b3, bn, e7⟩ := SV_3 g1
  have h7 : 0 ≤ σ 6 7 ∧ σ 6 7 ≤ 20 := by rw [e7]; exact b3
  obtain ⟨eG, eA⟩ := agr_swa g1.2.1.1 g1.1 a b x
  unfold clS hOp
  by_cases hg : gSwa (σ 324) a b x
  · have hg' := eG.mpr hg
    rw [if_pos hg', if_pos hg]
    obtain ⟨ea, la⟩ := isT_n b3 hg.1.1.1.1
    obtain ⟨eb, lb⟩ := isT_n b3 hg.1.1.1.2
    have hd : a.toNatClampNeg ≠ b.toNatClampNeg := fun q => hg.1.1.2 (by rw [ea, eb, q])
    obtain ⟨m, hm⟩ : ∃ m, a.toNatClampNeg = m := ⟨_, rfl⟩
    obtain ⟨k, hk⟩ : ∃ k, b.toNatClampNeg = k := ⟨_, rfl⟩
    have hs : ¬ fld (σ 324) m 7 < x := by
      intro q
      apply hg.2
      rw [hm]
      unfold fWhy
      split
      · decide
      · first
        | decide
        | (rw [if_pos q]; decide)
    rw [hm] at ea la hd
    rw [hk] at eb lb hd
    rw [hm, hk]
    subst ea eb
    have far : ∀ q, q < 6 ∨ 32 ≤ q → cDsw (cRem σ) m k x q = cRem σ q := fun q hq => cDsw_far hq (by omega) (by omega)
    have hi : ∀ q, 323 ≤ q → cDsw (cRem σ) m k x q = σ q := fun q hq => by rw [far q (by omega), cRem_far (Or.inr hq) h7]
    have sN := SV_swa (x := x) (SV_rem g1) la lb
    have gN := GD_swa (x := x) g2 b3 g7.1.2 hB la lb hd hg.1.2 hs
    have zN : zR (nSwa (σ 324) (iN m) (iN k) x) := by
      unfold nSwa radd
      rw [iN_nat (by omega), iN_nat (by omega)]
      refine zR_te (zR_rup (zR_rup (zR_rup (zR_rup (zR_rsw g8.1 (by omega) (by omega)) (by omega)) (by omega)) (by decide)) (by decide)) ?_
      rw [rup_ne (by omega), rup_ne (by omega), rup_ne (by omega), rup_ne (by omega), rsw_eq, if_neg (by omega), if_neg (by omega)]
      exact g7.1.2
    refine ⟨hi 324 (by decide), ?_, eA, ?_⟩
    · unfold RS
      rw [hi 324 (by decide), hi 323 (by decide)]
      exact g7
    · exact GR_call h (Nat.le_refl _) far sN gN zN
  · have hg' : ¬ gSwa (cR σ 6) a b x := fun q => hg (eG.mp q)
    rw [if_neg hg', if_neg hg]
    exact ⟨rfl, g7, eA, h⟩
