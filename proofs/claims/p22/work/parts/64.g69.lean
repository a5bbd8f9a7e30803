-- text 69
/-! RELATION: swap, move, ring, first keep it, with equal answers -/
/-- both sides of one call -/
def clS (σ : gS) (a b x : Int32) : gS := if gSwa (cR σ 6) a b x then cDsw (cRem σ) a.toNatClampNeg b.toNatClampNeg x else σ
theorem agr_swa {R S : gW} (h3 : 0 ≤ R 3 ∧ R 3 ≤ 20) (h : agr R S) (a b x : Int32) : (gSwa R a b x ↔ gSwa S a b x) ∧ aSwa R a b x = aSwa S a b x := by
  have eP := agr_isP h a b
  by_cases hp : isP R a b
  · have na := (isT_n h3 hp.1.1).2
    have nb := (isT_n h3 hp.1.2).2
    have w := agr_Why h na nb x
    have r1 := agr_Rise h na nb na
    have r2 := agr_Rise h na nb nb
    have eG : gSwa R a b x ↔ gSwa S a b x := by
      unfold gSwa
      rw [w, eP]
    refine ⟨eG, ?_⟩
    unfold aSwa
    rw [w, r1, r2]
    by_cases q : isP R a b ∧ 0 ≤ x ∧ x ≤ 9
    · rw [if_pos q, if_pos (show isP S a b ∧ 0 ≤ x ∧ x ≤ 9 from ⟨eP.mp q.1, q.2⟩)]
    · rw [if_neg q, if_neg (show ¬ (isP S a b ∧ 0 ≤ x ∧ x ≤ 9) from fun z => q ⟨eP.mpr z.1, z.2⟩)]
  · have hp2 : ¬ isP S a b := fun q => hp (eP.mpr q)
    refine ⟨⟨fun q => absurd q.1.1 hp, fun q => absurd q.1.1 hp2⟩, ?_⟩
    unfold aSwa
    rw [if_neg (fun q => hp q.1), if_neg (fun q => hp2 q.1)]
theorem GR_swap {B : Nat} {σ : gS} {a b x : Int32} (h : GR B σ) (hB : B ≤ 1000000) : clS σ a b x 324 = σ 324 ∧ RS (clS σ a b x) ∧ aSwa (cR σ 6) a b x = aSwa (σ 324) a b x ∧ GR B (hOp (clS σ a b x) (gSwa (σ 324) a b x) (nSwa (σ 324) a b x)) := by
  have h' := h
  obtain ⟨g1, g2, g3, g4, g5, g6, g7, g8, g9⟩ := h'
  obtain ⟨b3, bn, e7⟩ := SV_3 g1
  have h7 : 0 ≤ σ 6 7 ∧ σ 6 7 ≤ 20 := by rw [e7]; exact b3
  obtain ⟨eG, eA⟩ := agr_swa g1.2.1.1 g1.1 a b x
  unfold clS hOp
  by_cases hg : gSwa (σ 324) a b x
  · have hg' := eG.mpr hg
    rw [if_pos hg', if_pos hg]
    obtain ⟨ea, la⟩ := isT_n b3 hg.1.1.1.1
    obtain ⟨eb, lb⟩ := isT_n b3 hg.1.1.1.2
    have hd : a.toNatClampNeg ≠ b.toNatClampNeg := fun q => hg.1.1.2 (by rw [ea, eb, q])
    obtain ⟨m, hm⟩ : ∃ m, a.toNatClampNeg = m := ⟨_, rfl⟩
    obtain ⟨k, hk⟩ : ∃ k, b.toNatClampNeg = k := ⟨_, rfl⟩
    have hs : ¬ fld (σ 324) m 7 < x := by
      intro q
      apply hg.2
      rw [hm]
      unfold fWhy
      split
      · decide
      · first
        | decide
        | (rw [if_pos q]; decide)
    rw [hm] at ea la hd
    rw [hk] at eb lb hd
    rw [hm, hk]
    subst ea eb
    have far : ∀ q, q < 6 ∨ 32 ≤ q → cDsw (cRem σ) m k x q = cRem σ q := fun q hq => cDsw_far hq (by omega) (by omega)
    have hi : ∀ q, 323 ≤ q → cDsw (cRem σ) m k x q = σ q := fun q hq => by rw [far q (by omega), cRem_far (Or.inr hq) h7]
    have sN := SV_swa (x := x) (SV_rem g1) la lb
    have gN := GD_swa (x := x) g2 b3 g7.1.2 hB la lb hd hg.1.2 hs
    have zN : zR (nSwa (σ 324) (iN m) (iN k) x) := by
      unfold nSwa radd
      rw [iN_nat (by omega), iN_nat (by omega)]
      refine zR_te (zR_rup (zR_rup (zR_rup (zR_rup (zR_rsw g8.1 (by omega) (by omega)) (by omega)) (by omega)) (by decide)) (by decide)) ?_
      rw [rup_ne (by omega), rup_ne (by omega), rup_ne (by omega), rup_ne (by omega), rsw_eq, if_neg (by omega), if_neg (by omega)]
      exact g7.1.2
    refine ⟨hi 324 (by decide), ?_, eA, ?_⟩
    · unfold RS
      rw [hi 324 (by decide), hi 323 (by decide)]
      exact g7
    · exact GR_call h (Nat.le_refl _) far sN gN zN
  · have hg' : ¬ gSwa (cR σ 6) a b x := fun q => hg (eG.mp q)
    rw [if_neg hg', if_neg hg]
    exact ⟨rfl, g7, eA, h⟩
-- text 70
/-! RELATION: move, ring, first -/
def clM (σ : gS) (a x : Int32) : gS := if gMov (cR σ 6) a x then cDmo (cRem σ) a.toNatClampNeg x else σ
theorem agr_isS {R S : gW} (h : agr R S) (x : Int32) : isS R x ↔ isS S x := by unfold isS; rw [h.1 0 (by decide)]
theorem agr_mov {R S : gW} (h3 : 0 ≤ R 3 ∧ R 3 ≤ 20) (h : agr R S) (a x : Int32) : (gMov R a x ↔ gMov S a x) ∧ aMov R a x = aMov S a x := by
  have eT := agr_isT h a
  have eS := agr_isS h x
  by_cases ht : isT R a
  · have na := (isT_n h3 ht).2
    have w := agr_WhyM h na x
    have j1 := agr_Joy h na x
    have j2 := agr_Jo h na
    refine ⟨by unfold gMov; rw [w, eT, eS], ?_⟩
    unfold aMov
    rw [w, j1, j2]
    by_cases q : isT R a ∧ isS R x
    · rw [if_pos q, if_pos (show isT S a ∧ isS S x from ⟨eT.mp q.1, eS.mp q.2⟩)]
    · rw [if_neg q, if_neg (show ¬ (isT S a ∧ isS S x) from fun z => q ⟨eT.mpr z.1, eS.mpr z.2⟩)]
  · have ht2 : ¬ isT S a := fun q => ht (eT.mpr q)
    refine ⟨⟨fun q => absurd q.1.1 ht, fun q => absurd q.1.1 ht2⟩, ?_⟩
    unfold aMov
    rw [if_neg (fun q => ht q.1), if_neg (fun q => ht2 q.1)]
theorem cDmo_far {σ : gS} {a q : Nat} {x : Int32} (h : q < 6 ∨ 32 ≤ q) (ha : a < 20) : cDmo σ a x q = σ q := by
  unfold cDmo
  rw [cAdd_far (by omega) (by omega)]
  funext j
  rw [gad_ne (by omega), cSit_far (by omega) (by omega)]
theorem GR_move {B : Nat} {σ : gS} {a x : Int32} (h : GR B σ) : clM σ a x 324 = σ 324 ∧ RS (clM σ a x) ∧ aMov (cR σ 6) a x = aMov (σ 324) a x ∧ GR B (hOp (clM σ a x) (gMov (σ 324) a x) (nMov (σ 324) a x)) := by
  have h' := h
  obtain ⟨g1, g2, g3, g4, g5, g6, g7, g8, g9⟩ := h'
  obtain ⟨b3, bn, e7⟩ := SV_3 g1
  have h7 : 0 ≤ σ 6 7 ∧ σ 6 7 ≤ 20 := by rw [e7]; exact b3
  obtain ⟨eG, eA⟩ := agr_mov g1.2.1.1 g1.1 a x
  unfold clM hOp
  by_cases hg : gMov (σ 324) a x
  · have hg' := eG.mpr hg
    rw [if_pos hg', if_pos hg]
    obtain ⟨ea, la⟩ := isT_n b3 hg.1.1
    have hx := isS_of g2.2.2.2 hg.1.2
    obtain ⟨m, hm⟩ : ∃ m, a.toNatClampNeg = m := ⟨_, rfl⟩
    rw [hm] at ea la
    rw [hm]
    subst ea
    have far : ∀ q, q < 6 ∨ 32 ≤ q → cDmo (cRem σ) m x q = cRem σ q := fun q hq => cDmo_far hq (by omega)
    have hi : ∀ q, 323 ≤ q → cDmo (cRem σ) m x q = σ q := fun q hq => by rw [far q (by omega), cRem_far (Or.inr hq) h7]
    have sN := SV_mov (SV_rem g1) la hx
    have gN := GD_mov (x := x) g2 b3 g7.1.2 la (isS_lt g2.2.2.2 hg.1.2)
    have zN : zR (nMov (σ 324) (iN m) x) := by
      unfold nMov radd
      rw [iN_nat (by omega)]
      refine zR_te (zR_rup (zR_rup g8.1 (by omega)) (by decide)) ?_
      rw [rup_ne (by omega), rup_ne (by omega)]
      exact g7.1.2
    refine ⟨hi 324 (by decide), ?_, eA, ?_⟩
    · unfold RS
      rw [hi 324 (by decide), hi 323 (by decide)]
      exact g7
    · exact GR_call h (Nat.le_refl _) far sN gN zN
  · have hg' : ¬ gMov (cR σ 6) a x := fun q => hg (eG.mp q)
    rw [if_neg hg', if_neg hg]
    exact ⟨rfl, g7, eA, h⟩
def clR (σ : gS) (a b c : Int32) : gS := if gRin (cR σ 6) a b c then cDri (cRem σ) a.toNatClampNeg b.toNatClampNeg c.toNatClampNeg else σ
theorem agr_R3 {R S : gW} (h : agr R S) (a b c : Int32) : isR3 R a b c ↔ isR3 S a b c := by unfold isR3; rw [agr_isP h a b, agr_isP h b c]
theorem R3_n {R : gW} {a b c : Int32} (h3 : 0 ≤ R 3 ∧ R 3 ≤ 20) (h : isR3 R a b c) : (a = iN a.toNatClampNeg ∧ a.toNatClampNeg < nM R) ∧ (b = iN b.toNatClampNeg ∧ b.toNatClampNeg < nM R) ∧ (c = iN c.toNatClampNeg ∧ c.toNatClampNeg < nM R) ∧ (a.toNatClampNeg ≠ b.toNatClampNeg ∧ b.toNatClampNeg ≠ c.toNatClampNeg ∧ a.toNatClampNeg ≠ c.toNatClampNeg) := by
  have pa := isT_n h3 h.1.1.1.1
  have pb := isT_n h3 h.1.1.1.2
  have pc := isT_n h3 h.1.2.1.2
  refine ⟨pa, pb, pc, fun q => h.1.1.2 ?_, fun q => h.1.2.2 ?_, fun q => h.2 ?_⟩
  · rw [pa.1, pb.1, q]
  · rw [pb.1, pc.1, q]
  · rw [pa.1, pc.1, q]
theorem agr_rin {R S : gW} (h3 : 0 ≤ R 3 ∧ R 3 ≤ 20) (h : agr R S) (a b c : Int32) : (gRin R a b c ↔ gRin S a b c) ∧ aRin R a b c = aRin S a b c := by
  have e3 := agr_R3 h a b c
  by_cases hr : isR3 R a b c
  · obtain ⟨⟨-, la⟩, ⟨-, lb⟩, ⟨-, lc⟩, hd⟩ := R3_n h3 hr
    have w := agr_WhyR h la lb lc hd
    have r := agr_ROR h la lb lc hd
    refine ⟨by unfold gRin; rw [w, e3], ?_⟩
    unfold aRin
    rw [w, r, if_pos hr, if_pos (e3.mp hr)]
  · have hr2 : ¬ isR3 S a b c := fun q => hr (e3.mpr q)
    refine ⟨⟨fun q => absurd q.1 hr, fun q => absurd q.1 hr2⟩, ?_⟩
    unfold aRin
    rw [if_neg hr, if_neg hr2]
theorem cDri_far {σ : gS} {a b c q : Nat} (h : q < 6 ∨ 32 ≤ q) (ha : a < 20) (hb : b < 20) (hc : c < 20) : cDri σ a b c q = σ q := by
  unfold cDri
  rw [cAdd_far (by omega) (by omega)]
  funext j
  rw [gad_ne (by omega)]
  unfold cPas
  rw [cSit_far (by omega) (by omega), cSit_far (by omega) (by omega), cSit_far (by omega) (by omega)]
theorem GR_ring {B : Nat} {σ : gS} {a b c : Int32} (h : GR B σ) : clR σ a b c 324 = σ 324 ∧ RS (clR σ a b c) ∧ aRin (cR σ 6) a b c = aRin (σ 324) a b c ∧ GR B (hOp (clR σ a b c) (gRin (σ 324) a b c) (nRin (σ 324) a b c)) := by
  have h' := h
  obtain ⟨g1, g2, g3, g4, g5, g6, g7, g8, g9⟩ := h'
  obtain ⟨b3, bn, e7⟩ := SV_3 g1
  have h7 : 0 ≤ σ 6 7 ∧ σ 6 7 ≤ 20 := by rw [e7]; exact b3
  obtain ⟨eG, eA⟩ := agr_rin g1.2.1.1 g1.1 a b c
  unfold clR hOp
  by_cases hg : gRin (σ 324) a b c
  · have hg' := eG.mpr hg
    rw [if_pos hg', if_pos hg]
    obtain ⟨⟨ea, la⟩, ⟨eb, lb⟩, ⟨ec, lc⟩, hd⟩ := R3_n b3 hg.1
    obtain ⟨m, hm⟩ : ∃ m, a.toNatClampNeg = m := ⟨_, rfl⟩
    obtain ⟨k, hk⟩ : ∃ k, b.toNatClampNeg = k := ⟨_, rfl⟩
    obtain ⟨l, hl⟩ : ∃ l, c.toNatClampNeg = l := ⟨_, rfl⟩
    rw [hm] at ea la hd
    rw [hk] at eb lb hd
    rw [hl] at ec lc hd
    rw [hm, hk, hl]
    subst ea eb ec
    have far : ∀ q, q < 6 ∨ 32 ≤ q → cDri (cRem σ) m k l q = cRem σ q := fun q hq => cDri_far hq (by omega) (by omega) (by omega)
    have hi : ∀ q, 323 ≤ q → cDri (cRem σ) m k l q = σ q := fun q hq => by rw [far q (by omega), cRem_far (Or.inr hq) h7]
    have sN := SV_rin (SV_rem g1) la lb lc hd
    have gN := GD_rin g2 b3 g7.1.2 la lb lc hd
    have zN : zR (nRin (σ 324) (iN m) (iN k) (iN l)) := by
      unfold nRin radd
      rw [iN_nat (by omega), iN_nat (by omega), iN_nat (by omega)]
      refine zR_te (zR_rup (zR_rtu g8.1 hd (by omega) (by omega) (by omega)) (by decide)) ?_
      rw [rup_ne (by omega), rtu_eq hd, if_neg (by omega), if_neg (by omega), if_neg (by omega)]
      exact g7.1.2
    refine ⟨hi 324 (by decide), ?_, eA, ?_⟩
    · unfold RS
      rw [hi 324 (by decide), hi 323 (by decide)]
      exact g7
    · exact GR_call h (Nat.le_refl _) far sN gN zN
  · have hg' : ¬ gRin (cR σ 6) a b c := fun q => hg (eG.mp q)
    rw [if_neg hg', if_neg hg]
    exact ⟨rfl, g7, eA, h⟩
def clF (σ : gS) (f : Int32) : gS := if gFir (cR σ 6) f then cAdd (gup (cRem σ) 6 5 f) 7 0 (σ 6 5) else σ
theorem agr_fir {R S : gW} (h : agr R S) (f : Int32) : (gFir R f ↔ gFir S f) ∧ aFir R f = aFir S f := by
  have e0 := h.1 0 (by decide)
  have e1 := h.1 1 (by decide)
  have eB := agr_Bar h f
  refine ⟨by unfold gFir; rw [e0, e1, eB], ?_⟩
  unfold aFir
  rw [e0, e1, eB]
theorem GR_first {B : Nat} {σ : gS} {f : Int32} (h : GR B σ) : clF σ f 324 = σ 324 ∧ RS (clF σ f) ∧ aFir (cR σ 6) f = aFir (σ 324) f ∧ GR B (hOp (clF σ f) (gFir (σ 324) f) (nFir (σ 324) f)) := by
  have h' := h
  obtain ⟨g1, g2, g3, g4, g5, g6, g7, g8, g9⟩ := h'
  obtain ⟨b3, bn, e7⟩ := SV_3 g1
  have h7 : 0 ≤ σ 6 7 ∧ σ 6 7 ≤ 20 := by rw [e7]; exact b3
  obtain ⟨eG, eA⟩ := agr_fir g1.1 f
  unfold clF hOp
  by_cases hg : gFir (σ 324) f
  · have hg' := eG.mpr hg
    rw [if_pos hg', if_pos hg]
    have far : ∀ q, q < 6 ∨ 32 ≤ q → cAdd (gup (cRem σ) 6 5 f) 7 0 (σ 6 5) q = cRem σ q := fun q hq => by
      rw [cAdd_far (by omega) (by omega)]
      funext j
      rw [gup_ne (by omega)]
    have hi : ∀ q, 323 ≤ q → cAdd (gup (cRem σ) 6 5 f) 7 0 (σ 6 5) q = σ q := fun q hq => by rw [far q (by omega), cRem_far (Or.inr hq) h7]
    have sN := SV_fir (f := f) (SV_rem g1)
    rw [cRem_far (Or.inl (by decide)) h7] at sN
    have gN := GD_fir (f := f) g2 b3 g7.1.2
    have zN : zR (nFir (σ 324) f) := by
      unfold nFir
      refine zR_te (zR_rup g8.1 (by decide)) ?_
      rw [rup_ne (by omega)]
      exact g7.1.2
    refine ⟨hi 324 (by decide), ?_, eA, ?_⟩
    · unfold RS
      rw [hi 324 (by decide), hi 323 (by decide)]
      exact g7
    · exact GR_call h (Nat.le_refl _) far sN gN zN
  · have hg' : ¬ gFir (cR σ 6) f := fun q => hg (eG.mp q)
    rw [if_neg hg', if_neg hg]
    exact ⟨rfl, g7, eA, h⟩
