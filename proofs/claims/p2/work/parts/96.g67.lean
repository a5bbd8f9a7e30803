/-! RELATION: kept by a call that is remembered -/
theorem fKe_row {N E : gW} {C i : Nat} (hC : C ≤ 8) (hi : i < if C = 8 then 8 else C + 1) : (∃ j, j < C ∧ ∀ x, x < 330 → rowAt (fKe N E (iN C)) i x = rowAt E j x) ∨ ∀ x, x < 330 → rowAt (fKe N E (iN C)) i x = N x := by
  unfold fKe
  by_cases h8 : C = 8
  · subst h8
    rw [if_pos rfl] at hi
    rw [if_pos (show (iN 8 : Int32) = 8 from rfl)]
    by_cases q : i = 7
    · refine Or.inr (fun x hx => ?_)
      rw [rowAt_lt hx, q]
      exact rla_in (b := 2310) hx
    · refine Or.inl ⟨i + 1, by omega, fun x hx => ?_⟩
      rw [rowAt_lt hx, rowAt_lt hx, rla_hi (by omega)]
      unfold esh
      rw [if_pos (by omega), show 330 * i + x + 330 = 330 * (i + 1) + x by omega]
  · rw [if_neg h8] at hi
    rw [if_neg (show ¬ iN C = (8 : Int32) from iN_eq (a := C) (b := 8) (by omega) (by decide) h8), iN_nat (by omega)]
    by_cases q : i = C
    · refine Or.inr (fun x hx => ?_)
      rw [rowAt_lt hx, q]
      exact rla_in hx
    · refine Or.inl ⟨i, by omega, fun x hx => ?_⟩
      rw [rowAt_lt hx, rowAt_lt hx, rla_hi (by omega)]
theorem GD_row {B : Nat} {R S : gW} (h : GD B R) (h3 : 0 ≤ R 3 ∧ R 3 ≤ 20) (hs : ∀ j, j < 330 → S j = R j) : GD B S := by
  have hn := (nM_of h3).2
  exact GD_cg h (by unfold nM; rw [hs 3 (by decide)]) (hs 0 (by decide)) (fun t ht f f1 f2 => hs _ (by omega))
theorem cRem_7 {σ : gS} (hp : bPa σ) (h7 : 0 ≤ σ 6 7 ∧ σ 6 7 ≤ 20) (h : ∀ j, j < 8 → 0 ≤ σ (115 + 26 * j) 7 ∧ σ (115 + 26 * j) 7 ≤ 20) : ∀ j, j < 8 → 0 ≤ cRem σ (115 + 26 * j) 7 ∧ cRem σ (115 + 26 * j) 7 ≤ 20 := by
  have n7 := (c20 h7).2
  intro j hj
  have key : 0 ≤ cCo σ (cPl σ (σ 113 2).toNatClampNeg) 6 (115 + 26 * j) 7 ∧ cCo σ (cPl σ (σ 113 2).toNatClampNeg) 6 (115 + 26 * j) 7 ≤ 20 := by
    unfold cPl
    have hm : ((σ 113 1).toNatClampNeg + (σ 113 2).toNatClampNeg) % 8 < 8 := Nat.mod_lt _ (by decide)
    by_cases q : j = ((σ 113 1).toNatClampNeg + (σ 113 2).toNatClampNeg) % 8
    · rw [← q, cCo_hd (Or.inl (by omega)) n7 (by decide) (by decide)]
      exact h7
    · rw [cCo_far (by omega) n7]
      exact h j hj
  unfold cRem
  split
  · rw [gup_ne (by omega)]; exact key
  · rw [gup_ne (by omega)]; exact key
/-- what was stays good when the train of now is remembered -/
theorem PG_keep {B B' : Nat} {σ τ : gS} (hB : B ≤ B') (h : PG B σ) (h6 : SV σ 6 (σ 324)) (hG : GD B (σ 324)) (hq : ∀ q, 113 ≤ q → q < 323 → τ q = cRem σ q) (hE : τ 327 = fKe (σ 324) (σ 327) (σ 323 6)) (hU : τ 323 6 = fKu (σ 323 6)) : PG B' τ := by
  obtain ⟨hP, hg, h7⟩ := h
  have nP := PR_keep hP h6 hq hE hU
  obtain ⟨b3, bn, e7⟩ := SV_3 h6
  obtain ⟨hp, hu, hs⟩ := hP
  obtain ⟨O, C, eo, ec, lo, lc, no, nc⟩ := bPa_n hp
  have eU : σ 323 6 = iN C := by rw [← hu]; exact ec
  refine ⟨nP, fun u hu2 => ?_, fun j hj => ?_⟩
  · have eC : (τ 113 2).toNatClampNeg = if C = 8 then 8 else C + 1 := by
      rw [nP.2.1, hU, eU]
      unfold fKu
      by_cases h8 : C = 8
      · subst h8
        rw [if_pos rfl, if_pos (show (iN 8 : Int32) = 8 from rfl)]
        rfl
      · rw [if_neg h8, if_neg (show ¬ iN C = (8 : Int32) from iN_eq (a := C) (b := 8) (by omega) (by decide) h8), iN_one, iN_nat (by omega)]
    rw [eC] at hu2
    rw [hE, eU]
    rcases fKe_row (N := σ 324) (E := σ 327) lc hu2 with ⟨j, hj, e⟩ | e
    · have gj := hg j (by rw [nc]; exact hj)
      have sj := hs j (by rw [nc]; exact hj)
      exact GD_mono (GD_row gj (SV_3 sj).1 e) hB
    · exact GD_mono (GD_row hG b3 e) hB
  · rw [hq _ (by omega) (by omega)]
    exact cRem_7 hp (by rw [e7]; exact b3) h7 j hj
/-- the slots stay as they are -/
theorem SL_same {B B' : Nat} {σ τ : gS} (hB : B ≤ B') (h : SL B σ) (hq : ∀ q, 60 ≤ q → q < 113 → τ q = σ q) (h8 : τ 328 = σ 328) (h9 : τ 329 = σ 329) : SL B' τ := by
  intro s hs
  obtain ⟨a1, a2, a3⟩ := h s hs
  rw [hq 112 (by decide) (by decide), h9, h8, hq (60 + 26 * s) (by omega) (by omega)]
  refine ⟨a1, a2, fun q => ?_⟩
  obtain ⟨c1, c2⟩ := a3 q
  exact ⟨SV_blk c1 (fun q q1 q2 => hq q (by omega) (by omega)), GD_mono c2 hB⟩
theorem SV_bN {σ : gS} {p : Nat} {R : gW} (h : SV σ p R) : bN R := SV_b h
theorem fKu_b {u : Int32} (h : 0 ≤ u ∧ u ≤ 8) : 0 ≤ fKu u ∧ fKu u ≤ 8 := by
  unfold fKu
  have := h.1
  have := h.2
  grind
/-- a call that goes through and is remembered: the relation is kept -/
theorem GR_op {B B' : Nat} {σ τ : gS} {N : gW} (h : GR B σ) (hB : B ≤ B') (hS : SV τ 6 N) (hG : GD B' N) (hz : zR N) (hN : τ 324 = N) (hpast : ∀ q, 113 ≤ q → q < 323 → τ q = cRem σ q) (hslot : ∀ q, 60 ≤ q → q < 113 → τ q = σ q) (h0 : τ 0 9 = σ 0 9)
    (hE : τ 327 = fKe (σ 324) (σ 327) (σ 323 6)) (hU : τ 323 6 = fKu (σ 323 6)) (h9 : τ 323 9 = σ 323 9) (h28 : τ 328 = σ 328) (h29 : τ 329 = σ 329) (h25 : τ 325 = σ 325) (h26 : τ 326 = σ 326 ∨ zR (τ 326)) (hT : TP τ) (hRT : RT τ) : GR B' τ := by
  obtain ⟨g1, g2, g3, g4, g5, g6, g7, g8, g9⟩ := h
  refine ⟨by rw [hN]; exact hS, by rw [hN]; exact hG, PG_keep hB g3 g1 g2 hpast hE hU, SL_same hB g4 hslot h28 h29, hT, by rw [h0, h9]; exact g6, ⟨by rw [hN]; exact SV_b hS, by rw [hU]; exact fKu_b g7.2⟩, ⟨by rw [hN]; exact hz, by rw [h25]; exact g8.2.1, ?_⟩, hRT⟩
  rcases h26 with q | q
  · rw [q]; exact g8.2.2
  · exact q
