theorem bsN_mono {R : gW} {t : Int32 × Int32} {a c d : Nat} (h : bSee R t c d) : ∀ {n : Nat}, bSee R (nfold (bsS R a) n t) c d
  | 0 => h
  | n + 1 => bsS_mono (bsN_mono h)
theorem bsN_new {R : gW} {t : Int32 × Int32} {a : Nat} : ∀ {n b : Nat}, b < n → bSee R (nfold (bsS R a) n t) a b
  | 0, _, h => absurd h (Nat.not_lt_zero _)
  | n + 1, b, h => by
    by_cases e : b = n
    · subst e; exact bsS_new
    · exact bsS_mono (bsN_new (by omega))
theorem bsN_low {R : gW} {t : Int32 × Int32} {a : Nat} (h : ∀ b, b < a → bSee R t a b) : ∀ {n : Nat}, n ≤ a + 1 → nfold (bsS R a) n t = t
  | 0, _ => rfl
  | n + 1, hn => by
    show bsS R a n (nfold (bsS R a) n t) = t
    rw [bsN_low h (by omega)]
    refine bsS_see ?_
    by_cases e : n = a
    · exact Or.inl e.symm
    · exact h n (by omega)
theorem bRel_step {R : gW} {s : Int32 × Int32 × Int32} {t : Int32 × Int32} {a j : Nat} (h3 : 0 ≤ R 3 ∧ R 3 ≤ 20) (hT : bT R) (hF : bF R) (hj : a + 1 + j < nM R) (h : bRel R s t) : bRel R (csS R a j s) (bsS R a (a + 1 + j) t) := by
  obtain ⟨e, hm, hp⟩ := h
  have k1 := fJa_b h3 hT hF
  have k2 : -2000 ≤ fJa (rsw R a (a + 1 + j)) ∧ fJa (rsw R a (a + 1 + j)) ≤ 2000 := fJa_b (by rw [rsw_3]; exact h3) (bT_rsw (by omega) hj hT) (bF_rsw hF)
  obtain ⟨a1, a2, a3⟩ := best_ar k1 k2 hm e
  have hne : a ≠ a + 1 + j := by omega
  unfold csS bsS
  by_cases hw : fWhy R a (a + 1 + j) 0 = 0
  · have nw : ¬ 0 < fWhy R a (a + 1 + j) 0 := by rw [hw]; decide
    by_cases hl : fRA R a (a + 1 + j) ≤ t.2
    · rw [if_neg (fun q => (a1.mp q.2) hl), if_neg (fun q => q.elim hne nw), if_pos hl]
      exact ⟨e, hm, hp⟩
    · rw [if_pos ⟨hw, a1.mpr hl⟩, if_neg (fun q => q.elim hne nw), if_neg hl]
      refine ⟨a2, ⟨?_, a3⟩, Or.inr ⟨a, a + 1 + j, by omega, hj, rfl, rfl, rfl⟩⟩
      have := hm.1
      grind
  · have yw : 0 < fWhy R a (a + 1 + j) 0 := (fWhy_c).resolve_left hw
    rw [if_neg (fun q => hw q.1), if_pos (Or.inr yw)]
    exact ⟨e, hm, hp⟩
theorem bRel_row {R : gW} {s : Int32 × Int32 × Int32} {t : Int32 × Int32} {a : Nat} (h3 : 0 ≤ R 3 ∧ R 3 ≤ 20) (hT : bT R) (hF : bF R) (ha : a < nM R) (hl : ∀ b, b < a → bSee R t a b) (h : bRel R s t) : bRel R (csR R a s) (bsR R a t) := by
  have key : ∀ j, a + 1 + j ≤ nM R → bRel R (nfold (csS R a) j s) (nfold (bsS R a) (a + 1 + j) t) := by
    intro j
    induction j with
    | zero =>
      intro _
      rw [bsN_low hl (by omega)]
      exact h
    | succ j ih =>
      intro hj
      exact bRel_step h3 hT hF (by omega) (ih (by omega))
  have k := key (nM R - (a + 1)) (by omega)
  rw [show a + 1 + (nM R - (a + 1)) = nM R from by omega] at k
  exact k
