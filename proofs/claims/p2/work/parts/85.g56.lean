/-! RELATION: whether the tape is a name -/
theorem skp_all {P : Nat → Bool} : ∀ {d s : Nat}, skp P d s = s + d ↔ ∀ i, i < d → P (s + i) = true
  | 0, s => ⟨fun _ i hi => absurd hi (Nat.not_lt_zero _), fun _ => rfl⟩
  | d + 1, s => by
    have ih := skp_all (P := P) (d := d) (s := s + 1)
    have b := skp_b (P := P) (d := d) (s := s + 1)
    unfold skp
    by_cases h : P s = true
    · rw [if_pos h, show s + (d + 1) = s + 1 + d by omega, ih]
      refine ⟨fun q i hi => ?_, fun q i hi => ?_⟩
      · by_cases e : i = 0
        · subst e; exact h
        · have := q (i - 1) (by omega)
          rw [show s + 1 + (i - 1) = s + i by omega] at this
          exact this
      · rw [show s + 1 + i = s + (i + 1) by omega]
        exact q (i + 1) (by omega)
    · rw [if_neg h]
      refine ⟨fun q => by omega, fun q => absurd (q 0 (by omega)) h⟩
theorem cKd_2 {w : Int32} : cKd w = 2 ↔ isSm w := by
  unfold cKd isSm
  grind
/-- letters alone stand on the tape -/
theorem tok_sm {T : gW} {L : Nat} : (tkS T L 0 = 0 ∧ tkE T L 0 = L ∧ tkK T L 0 = 2) ↔ (1 ≤ L ∧ smA T L) := by
  have k0 : tkS T L 0 = 0 → (tkK T L 0 = 2 ↔ (0 < L ∧ isSm (T 0))) := by
    intro h
    unfold tkK
    rw [h, cKd_2]
    unfold cBy
    by_cases hL : 0 < L
    · rw [if_pos hL]
      exact ⟨fun q => ⟨hL, q⟩, fun q => q.2⟩
    · rw [if_neg hL]
      exact ⟨fun q => absurd q (by decide), fun q => absurd q.1 hL⟩
  have run : tkS T L 0 = 0 → tkK T L 0 = 2 → 0 < L → (tkE T L 0 = L ↔ ∀ i, i < L - 1 → isSm (T (1 + i))) := by
    intro h1 h2 hL
    unfold tkE
    rw [if_pos (Or.inl h2), h1, h2, Nat.zero_add]
    have := skp_all (P := fun i => decide (cKd (T i) = 2)) (d := L - 1) (s := 1)
    rw [show 1 + (L - 1) = L by omega] at this
    rw [this]
    simp only [decide_eq_true_eq, cKd_2]
  constructor
  · rintro ⟨h1, h2, h3⟩
    obtain ⟨hL, h0⟩ := (k0 h1).mp h3
    have hr := (run h1 h3 hL).mp h2
    refine ⟨hL, fun j hj => ?_⟩
    by_cases e : j = 0
    · subst e; exact h0
    · have := hr (j - 1) (by omega)
      rw [show 1 + (j - 1) = j by omega] at this
      exact this
  · rintro ⟨hL, hs⟩
    have h1 : tkS T L 0 = 0 := by
      unfold tkS
      rw [show L - 0 = (L - 1) + 1 by omega]
      unfold skp
      have h0 := (cKd_2 (w := T 0)).mpr (hs 0 (by omega))
      rw [if_neg]
      simp only [decide_eq_true_eq]
      rw [h0]
      decide
    have h3 := (k0 h1).mpr ⟨by omega, hs 0 (by omega)⟩
    exact ⟨h1, (run h1 h3 (by omega)).mpr (fun i hi => hs (1 + i) (by omega)), h3⟩
/-- the class's word, letter by letter -/
theorem cWd_e {σ : gS} {B : List Int32} {L : Nat} (hL : σ 2 1 = iN L) (l : L ≤ 1000) (h1 : tkS (σ 3) L 0 = 0) (h2 : tkE (σ 3) L 0 = L) (h3 : tkK (σ 3) L 0 = 2) (hB : B.length ≤ 10) : cWd (cBeg σ) B ↔ (L = B.length ∧ ∀ i, i < L → σ 3 i = B.getD i 0) := by
  have nL : (σ 2 1).toNatClampNeg = L := by rw [hL, iN_nat (by omega)]
  obtain ⟨c1, c2, c3⟩ := cBeg_1 (σ := σ)
  rw [nL] at c1 c2 c3
  unfold cWd
  rw [c1, c2, c3, h1, h2, h3, cBeg_ne (by decide), cBeg_ne (by decide), nL]
  have e0 : iN L - iN 0 = iN L := by show iN L - 0 = iN L; grind
  have en : (iN 0).toNatClampNeg = 0 := rfl
  rw [e0, en, iN_inj (by omega) (by omega)]
  refine ⟨fun q => ⟨q.2.1, fun i hi => ?_⟩, fun q => ⟨rfl, q.1, fun i hi => ?_⟩⟩
  · have := q.2.2 i (by omega)
    unfold cBy at this
    rw [Nat.zero_add, if_pos hi] at this
    exact this
  · unfold cBy
    rw [Nat.zero_add, if_pos (by omega)]
    exact q.2 i (by omega)
