/-! RELATION: swaps -/
theorem zR_rup {R : gW} {k : Nat} {x : Int32} (h : zR R) (hk : k < 330) : zR (rup R k x) := fun j hj => by rw [rup_ne (by omega)]; exact h j hj
theorem zR_te {R : gW} {w a b : Int32} (h : zR R) (h9 : 0 ≤ R 209 ∧ R 209 ≤ 40) : zR (fTe R w a b) := fun j hj => by rw [fTe_ne h9 (Or.inr hj)]; exact h j hj
theorem zR_rsw {R : gW} {a b : Nat} (h : zR R) (ha : a < 20) (hb : b < 20) : zR (rsw R a b) := fun j hj => by rw [rsw_eq, if_neg (by omega), if_neg (by omega)]; exact h j hj
theorem zR_rtu {R : gW} {a b c : Nat} (h : zR R) (hd : a ≠ b ∧ b ≠ c ∧ a ≠ c) (ha : a < 20) (hb : b < 20) (hc : c < 20) : zR (rtu R a b c) := fun j hj => by rw [rtu_eq hd, if_neg (by omega), if_neg (by omega), if_neg (by omega)]; exact h j hj
/-- what a call needs of the class -/
theorem GR_SC {B : Nat} {σ : gS} (h : GR B σ) : SC σ ∧ bF (cR σ 6) := by
  obtain ⟨g1, g2, g3, g4, g5, g6, g7, g8, g9⟩ := h
  refine ⟨⟨g1.2.1, g3.1.1, g1.2.2.1.1, ?_⟩, fun t ht => ?_⟩
  · rw [g1.1.1 0 (by decide)]
    exact g2.2.2.2
  · rw [g1.1.2 t ht 3 (by decide), g1.1.2 t ht 4 (by decide), g1.1.2 t ht 5 (by decide), g1.1.2 t ht 6 (by decide)]
    exact g2.1 t (by rw [← agr_n g1.1]; exact ht)
/-- a remembered call, the class first, then the reference -/
theorem GR_call {B B' : Nat} {σ ρ : gS} {N : gW} (h : GR B σ) (hB : B ≤ B') (hρ : ∀ q, q < 6 ∨ 32 ≤ q → ρ q = cRem σ q) (hS : SV ρ 6 N) (hG : GD B' N) (hz : zR N) : GR B' (grow (hKe ρ) 324 N) := by
  have h' := h
  obtain ⟨g1, g2, g3, g4, g5, g6, g7, g8, g9⟩ := h'
  obtain ⟨b3, bn, e7⟩ := SV_3 g1
  have h7 : 0 ≤ σ 6 7 ∧ σ 6 7 ≤ 20 := by rw [e7]; exact b3
  have hi : ∀ q, 323 ≤ q → ρ q = σ q := fun q hq => by rw [hρ q (by omega), cRem_far (Or.inr hq) h7]
  have lo : ∀ q, q < 6 ∨ (32 ≤ q ∧ q < 113) → ρ q = σ q := fun q hq => by rw [hρ q (by omega), cRem_far (Or.inl (by omega)) h7]
  have t : ∀ q, ¬ q = 323 → ¬ q = 324 → ¬ q = 327 → grow (hKe ρ) 324 N q = ρ q := fun q q1 q2 q3 => by rw [grow_ne q2, hKe_ne q1 q3]
  have e323 : grow (hKe ρ) 324 N 323 = rup (σ 323) 6 (fKu (σ 323 6)) := by
    rw [grow_ne (by decide)]
    unfold hKe
    rw [grow_at, hi 323 (by decide)]
  refine GR_op (N := N) h hB (SV_blk hS (fun q q1 q2 => t q (by omega) (by omega) (by omega))) hG hz (grow_at _ _ _) (fun q q1 q2 => ?_) (fun q q1 q2 => ?_) ?_ ?_ ?_ ?_ ?_ ?_ ?_ (Or.inl ?_) ?_ ?_
  · rw [t q (by omega) (by omega) (by omega)]; exact hρ q (by omega)
  · rw [t q (by omega) (by omega) (by omega)]; exact lo q (by omega)
  · rw [t 0 (by decide) (by decide) (by decide), lo 0 (by decide)]
  · rw [grow_ne (by decide)]
    unfold hKe
    rw [grow_ne (by decide), grow_at, hi 324 (by decide), hi 327 (by decide), hi 323 (by decide)]
  · rw [e323, rup_at]
  · rw [e323, rup_ne (by decide)]
  · rw [t 328 (by decide) (by decide) (by decide), hi 328 (by decide)]
  · rw [t 329 (by decide) (by decide) (by decide), hi 329 (by decide)]
  · rw [t 325 (by decide) (by decide) (by decide), hi 325 (by decide)]
  · rw [t 326 (by decide) (by decide) (by decide), hi 326 (by decide)]
  · obtain ⟨q1, q2, q3⟩ := g5
    unfold TP
    rw [t 2 (by decide) (by decide) (by decide), lo 2 (by decide), t 3 (by decide) (by decide) (by decide), lo 3 (by decide), t 330 (by decide) (by decide) (by decide), hi 330 (by decide), e323, rup_ne (by decide)]
    exact ⟨q1, q2, q3⟩
  · show 0 ≤ _ ∧ _
    rw [e323, rup_ne (by decide)]
    exact g9
theorem cSit_far {σ : gS} {p t q : Nat} {x : Int32} (h : ¬ q = p + 23) (h2 : ¬ q = p + 2 + t) : cSit σ p t x q = σ q := by
  unfold cSit
  rw [cCnt_off h]
  funext j
  rw [gup_ne (by omega), cCnt_off h]
theorem cExS_far {σ : gS} {p a b q : Nat} (h : q < p ∨ p + 26 ≤ q) (ha : a < 20) (hb : b < 20) : cExS σ p a b q = σ q := by
  unfold cExS
  rw [cSit_far (by omega) (by omega), cSit_far (by omega) (by omega)]
theorem cDsw_far {σ : gS} {a b q : Nat} {x : Int32} (h : q < 6 ∨ 32 ≤ q) (ha : a < 20) (hb : b < 20) : cDsw σ a b x q = σ q := by
  unfold cDsw
  rw [cAdd_far (by omega) (by omega)]
  funext j
  rw [gad_ne (by omega), gad_ne (by omega), gad_ne (by omega), gad_ne (by omega), cExS_far (by omega) ha hb]
/-- the class remembers: the train is as it was -/
theorem SV_rem {σ : gS} {R : gW} (h : SV σ 6 R) : SV (cRem σ) 6 R := by
  obtain ⟨b3, bn, e7⟩ := SV_3 h
  exact SV_blk h (fun q q1 q2 => cRem_far (Or.inl (by omega)) (by rw [e7]; exact b3))
theorem isT_n {R : gW} {t : Int32} (h3 : 0 ≤ R 3 ∧ R 3 ≤ 20) (h : isT R t) : t = iN t.toNatClampNeg ∧ t.toNatClampNeg < nM R := by
  have ht := isT_of h3 h
  obtain ⟨e, l⟩ := t20 ht
  have h2 : t < R 3 := by have := h.2; have := h3.1; have := h3.2; grind
  rw [e] at h2
  exact ⟨e, (nM_lt h3 (by omega)).mp h2⟩
theorem agr_isT {R S : gW} (h : agr R S) (t : Int32) : isT R t ↔ isT S t := by unfold isT; rw [h.1 3 (by decide)]
theorem agr_isP {R S : gW} (h : agr R S) (a b : Int32) : isP R a b ↔ isP S a b := by unfold isP; rw [agr_isT h a, agr_isT h b]
