theorem bT_rsw {R : gW} {a b : Nat} (ha : a < nM R) (hb : b < nM R) (h : bT R) : bT (rsw R a b) := by
  intro t ht
  rw [nM_rsw] at ht
  rw [fld_rsw _ _ _ _ _ (by decide), fld_rsw _ _ _ _ _ (by decide), fld_rsw _ _ _ _ _ (by decide)]
  have q1 := h a ha
  have q2 := h b hb
  have q3 := h t ht
  grind
theorem fWhy_sym {R : gW} {a b : Nat} (h : bW R) (ha : a < nM R) (hb : b < nM R) : fWhy R a b 0 = 0 → fWhy R b a 0 = 0 := by
  have h1 := h a ha
  have h2 := h b hb
  unfold fWhy fRise
  rw [rsw_cm R b a]
  grind
theorem fRA_sym (R : gW) (a b : Nat) : fRA R a b = fRA R b a := by
  unfold fRA
  rw [rsw_cm R b a]
theorem best_ar {J J' g m : Int32} (h1 : -2000 ≤ J ∧ J ≤ 2000) (h2 : -2000 ≤ J' ∧ J' ≤ 2000) (hm : 0 ≤ m ∧ m ≤ 4000) (e : g = J + m) : (g < J' ↔ ¬ J' - J ≤ m) ∧ J' = J + (J' - J) ∧ J' - J ≤ 4000 := by
  subst e
  grind
/-- the reference's and the class's best so far -/
def bRel (R : gW) (s : Int32 × Int32 × Int32) (t : Int32 × Int32) : Prop := s.1 = fJa R + t.2 ∧ (0 ≤ t.2 ∧ t.2 ≤ 4000) ∧ ((s.2.1 = -2 ∧ t.1 = -2) ∨ ∃ a b, a < b ∧ b < nM R ∧ s.2.1 = iN a ∧ s.2.2 = iN b ∧ t.1 = 100 * iN a + iN b)
/-- a pair that can't better the best -/
def bSee (R : gW) (t : Int32 × Int32) (a b : Nat) : Prop := a = b ∨ 0 < fWhy R a b 0 ∨ fRA R a b ≤ t.2
theorem bsS_see {R : gW} {t : Int32 × Int32} {a b : Nat} (h : bSee R t a b) : bsS R a b t = t := by
  unfold bsS
  unfold bSee at h
  grind
theorem bsS_mono {R : gW} {t : Int32 × Int32} {a b c d : Nat} (h : bSee R t c d) : bSee R (bsS R a b t) c d := by
  unfold bsS
  unfold bSee at h ⊢
  grind
theorem bsS_new {R : gW} {t : Int32 × Int32} {a b : Nat} : bSee R (bsS R a b t) a b := by
  unfold bsS bSee
  grind
theorem bSee_sym {R : gW} {t : Int32 × Int32} {a b : Nat} (h : bW R) (ha : a < nM R) (hb : b < nM R) (hs : bSee R t a b) : bSee R t b a := by
  unfold bSee at hs ⊢
  rw [fRA_sym R b a]
  rcases hs with q | q | q
  · exact Or.inl q.symm
  · refine Or.inr (Or.inl ?_)
    rcases fWhy_c (R := R) (a := b) (b := a) (x := 0) with q2 | q2
    · rw [fWhy_sym h hb ha q2] at q; exact absurd q (by decide)
    · exact q2
  · exact Or.inr (Or.inr q)
