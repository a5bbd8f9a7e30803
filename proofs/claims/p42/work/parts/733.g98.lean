/-! RELATION: a traveller is read by both -/
theorem cR_32 {σ τ : gS} (h : ∀ q, 32 ≤ q → q < 58 → τ q = σ q) : cR τ 32 = cR σ 32 := by
  funext j
  unfold cR
  by_cases q : j < 9
  · rw [if_pos q, if_pos q, h 32 (by decide) (by decide)]
  · rw [if_neg q, if_neg q]
    by_cases q2 : j < 209
    · rw [if_pos q2, if_pos q2, h (32 + 2 + (j - 9) / 10) (by omega) (by omega)]
    · rw [if_neg q2, if_neg q2]
theorem fNew_v {R : gW} {n f : Nat} {x v : Int32} (hn : nM R = n) (hf : f < 9) : fNew R x v (9 + 10 * n + f) = if f = 0 then x else if f = 8 then 99 else 0 := by
  unfold fNew zsh rup
  rw [hn]
  grind
theorem fNew_9 {R : gW} {n : Nat} {x v : Int32} (hn : nM R = n) : fNew R x v (9 + 10 * n + 9) = v := by
  unfold fNew zsh rup
  rw [hn]
  grind
theorem GD_adm {n : Nat} {R S : gW} (h : GD (99 * n) R) (hn : nM R = n) (h20 : n < 20) (s3 : S 3 = iN (n + 1)) (s0 : S 0 = R 0) (sF : ∀ j, 9 ≤ j → j < 9 + 10 * n → S j = R j) (sN : ∀ f, f < 9 → PB f (S (9 + 10 * n + f))) : GD (99 * (n + 1)) S := by
  have SN : nM S = n + 1 := nM_iN s3 (by omega)
  have old : ∀ t, t < n → ∀ g, g < 10 → fld S t g = fld R t g := fun t ht g hg => sF _ (by omega) (by omega)
  obtain ⟨g1, g2, g3, g4⟩ := h
  rw [hn] at g3
  refine ⟨fun t ht => ?_, fun t ht => ?_, ?_, by rw [s0]; exact g4⟩
  · rw [SN] at ht
    by_cases q : t < n
    · rw [old t q 3 (by decide), old t q 4 (by decide), old t q 5 (by decide), old t q 6 (by decide)]
      exact g1 t (by omega)
    · have : t = n := by omega
      subst this
      exact ⟨(sN 3 (by decide)).2.2.2.1 rfl, (sN 4 (by decide)).2.2.2.2.1 rfl, (sN 5 (by decide)).2.2.2.2.2.1 rfl, (sN 6 (by decide)).2.2.2.2.2.2.1 rfl⟩
  · rw [SN] at ht
    by_cases q : t < n
    · rw [old t q 7 (by decide)]
      exact g2 t (by omega)
    · have : t = n := by omega
      subst this
      exact ((sN 7 (by decide)).2.2.2.2.2.2.2 rfl).1
  · rw [SN]
    show smN (swN S) n + swN S n ≤ 99 * (n + 1)
    rw [smN_cg (g := swN R) (fun j hj => by unfold swN; rw [old j hj 7 (by decide)])]
    have : swN S n ≤ 99 := by
      unfold swN
      have hw := (sN 7 (by decide)).2.2.2.2.2.2.2 rfl
      have e : fld S n 7 = S (9 + 10 * n + 7) := rfl
      rw [e]
      obtain ⟨ew, lw⟩ := iN_of hw.1
      have h2 := hw.2
      rw [ew] at h2
      exact (iN_le (m := 99) lw (by decide)).mp h2
    omega
