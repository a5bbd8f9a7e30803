-- text 67
/-! RELATION: kept by a call that is remembered -/
theorem fKe_row {N E : gW} {C i : Nat} (hC : C ≤ 8) (hi : i < if C = 8 then 8 else C + 1) : (∃ j, j < C ∧ ∀ x, x < 330 → rowAt (fKe N E (iN C)) i x = rowAt E j x) ∨ ∀ x, x < 330 → rowAt (fKe N E (iN C)) i x = N x := by
  unfold fKe
  by_cases h8 : C = 8
  · subst h8
    rw [if_pos rfl] at hi
    rw [if_pos (show (iN 8 : Int32) = 8 from rfl)]
    by_cases q : i = 7
    · refine Or.inr (fun x hx => ?_)
      rw [rowAt_lt hx, q]
      exact rla_in (b := 2310) hx
    · refine Or.inl ⟨i + 1, by omega, fun x hx => ?_⟩
      rw [rowAt_lt hx, rowAt_lt hx, rla_hi (by omega)]
      unfold esh
      rw [if_pos (by omega), show 330 * i + x + 330 = 330 * (i + 1) + x by omega]
  · rw [if_neg h8] at hi
    rw [if_neg (show ¬ iN C = (8 : Int32) from iN_eq (a := C) (b := 8) (by omega) (by decide) h8), iN_nat (by omega)]
    by_cases q : i = C
    · refine Or.inr (fun x hx => ?_)
      rw [rowAt_lt hx, q]
      exact rla_in hx
    · refine Or.inl ⟨i, by omega, fun x hx => ?_⟩
      rw [rowAt_lt hx, rowAt_lt hx, rla_hi (by omega)]
theorem GD_row {B : Nat} {R S : gW} (h : GD B R) (h3 : 0 ≤ R 3 ∧ R 3 ≤ 20) (hs : ∀ j, j < 330 → S j = R j) : GD B S := by
  have hn := (nM_of h3).2
  exact GD_cg h (by unfold nM; rw [hs 3 (by decide)]) (hs 0 (by decide)) (fun t ht f f1 f2 => hs _ (by omega)) (qSt_cg h.2.2.1.2 (by unfold nM; rw [hs 3 (by decide)]) (hs 0 (by decide)) (fun t ht => hs _ (by omega)))
theorem cRem_7 {σ : gS} (hp : bPa σ) (h7 : 0 ≤ σ 6 7 ∧ σ 6 7 ≤ 20) (h : ∀ j, j < 8 → 0 ≤ σ (115 + 26 * j) 7 ∧ σ (115 + 26 * j) 7 ≤ 20) : ∀ j, j < 8 → 0 ≤ cRem σ (115 + 26 * j) 7 ∧ cRem σ (115 + 26 * j) 7 ≤ 20 := by
  have n7 := (c20 h7).2
  intro j hj
  have key : 0 ≤ cCo σ (cPl σ (σ 113 2).toNatClampNeg) 6 (115 + 26 * j) 7 ∧ cCo σ (cPl σ (σ 113 2).toNatClampNeg) 6 (115 + 26 * j) 7 ≤ 20 := by
    unfold cPl
    have hm : ((σ 113 1).toNatClampNeg + (σ 113 2).toNatClampNeg) % 8 < 8 := Nat.mod_lt _ (by decide)
    by_cases q : j = ((σ 113 1).toNatClampNeg + (σ 113 2).toNatClampNeg) % 8
    · rw [← q, cCo_hd (Or.inl (by omega)) n7 (by decide) (by decide)]
      exact h7
    · rw [cCo_far (by omega) n7]
      exact h j hj
  unfold cRem
  split
  · rw [gup_ne (by omega)]; exact key
  · rw [gup_ne (by omega)]; exact key
/-- what was stays good when the train of now is remembered -/
theorem PG_keep {B B' : Nat} {σ τ : gS} (hB : B ≤ B') (h : PG B σ) (h6 : SV σ 6 (σ 324)) (hG : GD B (σ 324)) (hq : ∀ q, 113 ≤ q → q < 323 → τ q = cRem σ q) (hE : τ 327 = fKe (σ 324) (σ 327) (σ 323 6)) (hU : τ 323 6 = fKu (σ 323 6)) : PG B' τ := by
  obtain ⟨hP, hg, h7⟩ := h
  have nP := PR_keep hP h6 hq hE hU
  obtain ⟨b3, bn, e7⟩ := SV_3 h6
  obtain ⟨hp, hu, hs⟩ := hP
  obtain ⟨O, C, eo, ec, lo, lc, no, nc⟩ := bPa_n hp
  have eU : σ 323 6 = iN C := by rw [← hu]; exact ec
  refine ⟨nP, fun u hu2 => ?_, fun j hj => ?_⟩
  · have eC : (τ 113 2).toNatClampNeg = if C = 8 then 8 else C + 1 := by
      rw [nP.2.1, hU, eU]
      unfold fKu
      by_cases h8 : C = 8
      · subst h8
        rw [if_pos rfl, if_pos (show (iN 8 : Int32) = 8 from rfl)]
        rfl
      · rw [if_neg h8, if_neg (show ¬ iN C = (8 : Int32) from iN_eq (a := C) (b := 8) (by omega) (by decide) h8), iN_one, iN_nat (by omega)]
    rw [eC] at hu2
    rw [hE, eU]
    rcases fKe_row (N := σ 324) (E := σ 327) lc hu2 with ⟨j, hj, e⟩ | e
    · have gj := hg j (by rw [nc]; exact hj)
      have sj := hs j (by rw [nc]; exact hj)
      exact GD_mono (GD_row gj (SV_3 sj).1 e) hB
    · exact GD_mono (GD_row hG b3 e) hB
  · rw [hq _ (by omega) (by omega)]
    exact cRem_7 hp (by rw [e7]; exact b3) h7 j hj
/-- the slots stay as they are -/
theorem SL_same {B B' : Nat} {σ τ : gS} (hB : B ≤ B') (h : SL B σ) (hq : ∀ q, 60 ≤ q → q < 113 → τ q = σ q) (h8 : τ 328 = σ 328) (h9 : τ 329 = σ 329) : SL B' τ := by
  intro s hs
  obtain ⟨a1, a2, a3⟩ := h s hs
  rw [hq 112 (by decide) (by decide), h9, h8, hq (60 + 26 * s) (by omega) (by omega)]
  refine ⟨a1, a2, fun q => ?_⟩
  obtain ⟨c1, c2⟩ := a3 q
  exact ⟨SV_blk c1 (fun q q1 q2 => hq q (by omega) (by omega)), GD_mono c2 hB⟩
theorem SV_bN {σ : gS} {p : Nat} {R : gW} (h : SV σ p R) : bN R := SV_b h
theorem fKu_b {u : Int32} (h : 0 ≤ u ∧ u ≤ 8) : 0 ≤ fKu u ∧ fKu u ≤ 8 := by
  unfold fKu
  have := h.1
  have := h.2
  grind
/-- a call that goes through and is remembered: the relation is kept -/
theorem GR_op {B B' : Nat} {σ τ : gS} {N : gW} (h : GR B σ) (hB : B ≤ B') (hS : SV τ 6 N) (hG : GD B' N) (hz : zR N) (hN : τ 324 = N) (hpast : ∀ q, 113 ≤ q → q < 323 → τ q = cRem σ q) (hslot : ∀ q, 60 ≤ q → q < 113 → τ q = σ q) (h0 : τ 0 9 = σ 0 9)
    (hE : τ 327 = fKe (σ 324) (σ 327) (σ 323 6)) (hU : τ 323 6 = fKu (σ 323 6)) (h9 : τ 323 9 = σ 323 9) (h28 : τ 328 = σ 328) (h29 : τ 329 = σ 329) (h25 : τ 325 = σ 325) (h26 : τ 326 = σ 326 ∨ zR (τ 326)) (hT : TP τ) (hRT : RT τ) : GR B' τ := by
  obtain ⟨g1, g2, g3, g4, g5, g6, g7, g8, g9⟩ := h
  refine ⟨by rw [hN]; exact hS, by rw [hN]; exact hG, PG_keep hB g3 g1 g2 hpast hE hU, SL_same hB g4 hslot h28 h29, hT, by rw [h0, h9]; exact g6, ⟨by rw [hN]; exact SV_b hS, by rw [hU]; exact fKu_b g7.2⟩, ⟨by rw [hN]; exact hz, by rw [h25]; exact g8.2.1, ?_⟩, hRT⟩
  rcases h26 with q | q
  · rw [q]; exact g8.2.2
  · exact q
-- text 68
/-! RELATION: swaps -/
theorem zR_rup {R : gW} {k : Nat} {x : Int32} (h : zR R) (hk : k < 330) : zR (rup R k x) := fun j hj => by rw [rup_ne (by omega)]; exact h j hj
theorem zR_te {R : gW} {w a b : Int32} (h : zR R) (h9 : 0 ≤ R 209 ∧ R 209 ≤ 40) : zR (fTe R w a b) := fun j hj => by rw [fTe_ne h9 (Or.inr hj)]; exact h j hj
theorem zR_rsw {R : gW} {a b : Nat} (h : zR R) (ha : a < 20) (hb : b < 20) : zR (rsw R a b) := fun j hj => by rw [rsw_eq, if_neg (by omega), if_neg (by omega)]; exact h j hj
theorem zR_rtu {R : gW} {a b c : Nat} (h : zR R) (hd : a ≠ b ∧ b ≠ c ∧ a ≠ c) (ha : a < 20) (hb : b < 20) (hc : c < 20) : zR (rtu R a b c) := fun j hj => by rw [rtu_eq hd, if_neg (by omega), if_neg (by omega), if_neg (by omega)]; exact h j hj
/-- what a call needs of the class -/
theorem GR_SC {B : Nat} {σ : gS} (h : GR B σ) : SC σ ∧ bF (cR σ 6) := by
  obtain ⟨g1, g2, g3, g4, g5, g6, g7, g8, g9⟩ := h
  refine ⟨⟨g1.2.1, g3.1.1, g1.2.2.1.1, ?_⟩, fun t ht => ?_⟩
  · rw [g1.1.1 0 (by decide)]
    exact g2.2.2.2
  · rw [g1.1.2 t ht 3 (by decide), g1.1.2 t ht 4 (by decide), g1.1.2 t ht 5 (by decide), g1.1.2 t ht 6 (by decide)]
    exact g2.1 t (by rw [← agr_n g1.1]; exact ht)
/-- a remembered call, the class first, then the reference -/
theorem GR_call {B B' : Nat} {σ ρ : gS} {N : gW} (h : GR B σ) (hB : B ≤ B') (hρ : ∀ q, q < 6 ∨ 32 ≤ q → ρ q = cRem σ q) (hS : SV ρ 6 N) (hG : GD B' N) (hz : zR N) : GR B' (grow (hKe ρ) 324 N) := by
  have h' := h
  obtain ⟨g1, g2, g3, g4, g5, g6, g7, g8, g9⟩ := h'
  obtain ⟨b3, bn, e7⟩ := SV_3 g1
  have h7 : 0 ≤ σ 6 7 ∧ σ 6 7 ≤ 20 := by rw [e7]; exact b3
  have hi : ∀ q, 323 ≤ q → ρ q = σ q := fun q hq => by rw [hρ q (by omega), cRem_far (Or.inr hq) h7]
  have lo : ∀ q, q < 6 ∨ (32 ≤ q ∧ q < 113) → ρ q = σ q := fun q hq => by rw [hρ q (by omega), cRem_far (Or.inl (by omega)) h7]
  have t : ∀ q, ¬ q = 323 → ¬ q = 324 → ¬ q = 327 → grow (hKe ρ) 324 N q = ρ q := fun q q1 q2 q3 => by rw [grow_ne q2, hKe_ne q1 q3]
  have e323 : grow (hKe ρ) 324 N 323 = rup (σ 323) 6 (fKu (σ 323 6)) := by
    rw [grow_ne (by decide)]
    unfold hKe
    rw [grow_at, hi 323 (by decide)]
  refine GR_op (N := N) h hB (SV_blk hS (fun q q1 q2 => t q (by omega) (by omega) (by omega))) hG hz (grow_at _ _ _) (fun q q1 q2 => ?_) (fun q q1 q2 => ?_) ?_ ?_ ?_ ?_ ?_ ?_ ?_ (Or.inl ?_) ?_ ?_
  · rw [t q (by omega) (by omega) (by omega)]; exact hρ q (by omega)
  · rw [t q (by omega) (by omega) (by omega)]; exact lo q (by omega)
  · rw [t 0 (by decide) (by decide) (by decide), lo 0 (by decide)]
  · rw [grow_ne (by decide)]
    unfold hKe
    rw [grow_ne (by decide), grow_at, hi 324 (by decide), hi 327 (by decide), hi 323 (by decide)]
  · rw [e323, rup_at]
  · rw [e323, rup_ne (by decide)]
  · rw [t 328 (by decide) (by decide) (by decide), hi 328 (by decide)]
  · rw [t 329 (by decide) (by decide) (by decide), hi 329 (by decide)]
  · rw [t 325 (by decide) (by decide) (by decide), hi 325 (by decide)]
  · rw [t 326 (by decide) (by decide) (by decide), hi 326 (by decide)]
  · obtain ⟨q1, q2, q3⟩ := g5
    unfold TP
    rw [t 2 (by decide) (by decide) (by decide), lo 2 (by decide), t 3 (by decide) (by decide) (by decide), lo 3 (by decide), t 330 (by decide) (by decide) (by decide), hi 330 (by decide), e323, rup_ne (by decide)]
    exact ⟨q1, q2, q3⟩
  · show 0 ≤ _ ∧ _
    rw [e323, rup_ne (by decide)]
    exact g9
theorem cSit_far {σ : gS} {p t q : Nat} {x : Int32} (h : ¬ q = p + 23) (h2 : ¬ q = p + 2 + t) : cSit σ p t x q = σ q := by
  unfold cSit
  rw [cCnt_off h]
  funext j
  rw [gup_ne (by omega), cCnt_off h]
theorem cExS_far {σ : gS} {p a b q : Nat} (h : q < p ∨ p + 26 ≤ q) (ha : a < 20) (hb : b < 20) : cExS σ p a b q = σ q := by
  unfold cExS
  rw [cSit_far (by omega) (by omega), cSit_far (by omega) (by omega)]
theorem cDsw_far {σ : gS} {a b q : Nat} {x : Int32} (h : q < 6 ∨ 32 ≤ q) (ha : a < 20) (hb : b < 20) : cDsw σ a b x q = σ q := by
  unfold cDsw
  rw [cAdd_far (by omega) (by omega)]
  funext j
  rw [gad_ne (by omega), gad_ne (by omega), gad_ne (by omega), gad_ne (by omega), cExS_far (by omega) ha hb]
/-- the class remembers: the train is as it was -/
theorem SV_rem {σ : gS} {R : gW} (h : SV σ 6 R) : SV (cRem σ) 6 R := by
  obtain ⟨b3, bn, e7⟩ := SV_3 h
  exact SV_blk h (fun q q1 q2 => cRem_far (Or.inl (by omega)) (by rw [e7]; exact b3))
theorem isT_n {R : gW} {t : Int32} (h3 : 0 ≤ R 3 ∧ R 3 ≤ 20) (h : isT R t) : t = iN t.toNatClampNeg ∧ t.toNatClampNeg < nM R := by
  have ht := isT_of h3 h
  obtain ⟨e, l⟩ := t20 ht
  have h2 : t < R 3 := by have := h.2; have := h3.1; have := h3.2; grind
  rw [e] at h2
  exact ⟨e, (nM_lt h3 (by omega)).mp h2⟩
theorem agr_isT {R S : gW} (h : agr R S) (t : Int32) : isT R t ↔ isT S t := by unfold isT; rw [h.1 3 (by decide)]
theorem agr_isP {R S : gW} (h : agr R S) (a b : Int32) : isP R a b ↔ isP S a b := by unfold isP; rw [agr_isT h a, agr_isT h b]
