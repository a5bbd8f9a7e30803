/-! THE CLASS: settling is the reference's -/
abbrev bW (R : gW) : Prop := ∀ t, t < nM R → 0 ≤ fld R t 7
theorem bW_rsw {R : gW} {a b : Nat} (h : bW R) : bW (rsw R a b) := by
  intro t ht
  rw [nM_rsw] at ht
  rw [fld_rsw _ _ _ _ _ (by decide), if_neg (by decide)]
  exact h t ht
theorem sm_ar {n s f : Int32} (hn : 0 ≤ n ∧ n < 20) (h1 : -(100 * n) ≤ s) (h2 : s ≤ 100 * n) (h3 : -100 ≤ f) (h4 : f ≤ 100) : -(100 * (n + 1)) ≤ s + f ∧ s + f ≤ 100 * (n + 1) := by
  have := hn.1
  have := hn.2
  constructor <;> grind
theorem sm_b {f : Nat → Int32} : ∀ {n : Nat}, n ≤ 20 → (∀ t, t < n → -100 ≤ f t ∧ f t ≤ 100) → -(100 * iN n) ≤ sm f n ∧ sm f n ≤ 100 * iN n
  | 0, _, _ => ⟨show -(100 * (0 : Int32)) ≤ 0 from by decide, show (0 : Int32) ≤ 100 * 0 from by decide⟩
  | n + 1, hn, h => by
    have ih := sm_b (f := f) (n := n) (by omega) (fun t ht => h t (by omega))
    have hf := h n (by omega)
    have k := sm_ar (b20 (k := n) (by omega)) ih.1 ih.2 hf.1 hf.2
    rw [iN_one] at k
    exact k
theorem fJa_b {R : gW} (h : 0 ≤ R 3 ∧ R 3 ≤ 20) (hT : bT R) (hF : bF R) : -2000 ≤ fJa R ∧ fJa R ≤ 2000 := by
  have hn := (nM_of h).2
  have k := sm_b (f := fJo R) hn (fun t ht => fJo_b h hT hF ht)
  have l : iN (nM R) ≤ 20 := (iN_le (m := 20) (by omega) (by decide)).mpr (by omega)
  have l0 : 0 ≤ iN (nM R) := (iN_le (k := 0) (by decide) (by omega)).mpr (by omega)
  unfold fJa
  have := k.1; have := k.2
  grind
theorem bT_rsw {R : gW} {a b : Nat} (ha : a < nM R) (hb : b < nM R) (h : bT R) : bT (rsw R a b) := by
  intro t ht
  rw [nM_rsw] at ht
  rw [fld_rsw _ _ _ _ _ (by decide), fld_rsw _ _ _ _ _ (by decide), fld_rsw _ _ _ _ _ (by decide)]
  have q1 := h a ha
  have q2 := h b hb
  have q3 := h t ht
  grind
theorem fWhy_sym {R : gW} {a b : Nat} (h : bW R) (ha : a < nM R) (hb : b < nM R) : fWhy R a b 0 = 0 → fWhy R b a 0 = 0 := by
  have h1 := h a ha
  have h2 := h b hb
  unfold fWhy fRise
  rw [rsw_cm R b a]
  grind
theorem fRA_sym (R : gW) (a b : Nat) : fRA R a b = fRA R b a := by
  unfold fRA
  rw [rsw_cm R b a]
theorem best_ar {J J' g m : Int32} (h1 : -2000 ≤ J ∧ J ≤ 2000) (h2 : -2000 ≤ J' ∧ J' ≤ 2000) (hm : 0 ≤ m ∧ m ≤ 4000) (e : g = J + m) : (g < J' ↔ ¬ J' - J ≤ m) ∧ J' = J + (J' - J) ∧ J' - J ≤ 4000 := by
  subst e
  grind
/-- the reference's and the class's best so far -/
def bRel (R : gW) (s : Int32 × Int32 × Int32) (t : Int32 × Int32) : Prop := s.1 = fJa R + t.2 ∧ (0 ≤ t.2 ∧ t.2 ≤ 4000) ∧ ((s.2.1 = -2 ∧ t.1 = -2) ∨ ∃ a b, a < b ∧ b < nM R ∧ s.2.1 = iN a ∧ s.2.2 = iN b ∧ t.1 = 100 * iN a + iN b)
/-- a pair that can't better the best -/
def bSee (R : gW) (t : Int32 × Int32) (a b : Nat) : Prop := a = b ∨ 0 < fWhy R a b 0 ∨ fRA R a b ≤ t.2
theorem bsS_see {R : gW} {t : Int32 × Int32} {a b : Nat} (h : bSee R t a b) : bsS R a b t = t := by
  unfold bsS
  unfold bSee at h
  grind
theorem bsS_mono {R : gW} {t : Int32 × Int32} {a b c d : Nat} (h : bSee R t c d) : bSee R (bsS R a b t) c d := by
  unfold bsS
  unfold bSee at h ⊢
  grind
theorem bsS_new {R : gW} {t : Int32 × Int32} {a b : Nat} : bSee R (bsS R a b t) a b := by
  unfold bsS bSee
  grind
theorem bSee_sym {R : gW} {t : Int32 × Int32} {a b : Nat} (h : bW R) (ha : a < nM R) (hb : b < nM R) (hs : bSee R t a b) : bSee R t b a := by
  unfold bSee at hs ⊢
  rw [fRA_sym R b a]
  rcases hs with q | q | q
  · exact Or.inl q.symm
  · refine Or.inr (Or.inl ?_)
    rcases fWhy_c (R := R) (a := b) (b := a) (x := 0) with q2 | q2
    · rw [fWhy_sym h hb ha q2] at q; exact absurd q (by decide)
    · exact q2
  · exact Or.inr (Or.inr q)
theorem bsN_mono {R : gW} {t : Int32 × Int32} {a c d : Nat} (h : bSee R t c d) : ∀ {n : Nat}, bSee R (nfold (bsS R a) n t) c d
  | 0 => h
  | n + 1 => bsS_mono (bsN_mono h)
theorem bsN_new {R : gW} {t : Int32 × Int32} {a : Nat} : ∀ {n b : Nat}, b < n → bSee R (nfold (bsS R a) n t) a b
  | 0, _, h => absurd h (Nat.not_lt_zero _)
  | n + 1, b, h => by
    by_cases e : b = n
    · subst e; exact bsS_new
    · exact bsS_mono (bsN_new (by omega))
theorem bsN_low {R : gW} {t : Int32 × Int32} {a : Nat} (h : ∀ b, b < a → bSee R t a b) : ∀ {n : Nat}, n ≤ a + 1 → nfold (bsS R a) n t = t
  | 0, _ => rfl
  | n + 1, hn => by
    show bsS R a n (nfold (bsS R a) n t) = t
    rw [bsN_low h (by omega)]
    refine bsS_see ?_
    by_cases e : n = a
    · exact Or.inl e.symm
    · exact h n (by omega)
theorem bRel_step {R : gW} {s : Int32 × Int32 × Int32} {t : Int32 × Int32} {a j : Nat} (h3 : 0 ≤ R 3 ∧ R 3 ≤ 20) (hT : bT R) (hF : bF R) (hj : a + 1 + j < nM R) (h : bRel R s t) : bRel R (csS R a j s) (bsS R a (a + 1 + j) t) := by
  obtain ⟨e, hm, hp⟩ := h
  have k1 := fJa_b h3 hT hF
  have k2 : -2000 ≤ fJa (rsw R a (a + 1 + j)) ∧ fJa (rsw R a (a + 1 + j)) ≤ 2000 := fJa_b (by rw [rsw_3]; exact h3) (bT_rsw (by omega) hj hT) (bF_rsw hF)
  obtain ⟨a1, a2, a3⟩ := best_ar k1 k2 hm e
  have hne : a ≠ a + 1 + j := by omega
  unfold csS bsS
  by_cases hw : fWhy R a (a + 1 + j) 0 = 0
  · have nw : ¬ 0 < fWhy R a (a + 1 + j) 0 := by rw [hw]; decide
    by_cases hl : fRA R a (a + 1 + j) ≤ t.2
    · rw [if_neg (fun q => (a1.mp q.2) hl), if_neg (fun q => q.elim hne nw), if_pos hl]
      exact ⟨e, hm, hp⟩
    · rw [if_pos ⟨hw, a1.mpr hl⟩, if_neg (fun q => q.elim hne nw), if_neg hl]
      refine ⟨a2, ⟨?_, a3⟩, Or.inr ⟨a, a + 1 + j, by omega, hj, rfl, rfl, rfl⟩⟩
      have := hm.1
      grind
  · have yw : 0 < fWhy R a (a + 1 + j) 0 := (fWhy_c).resolve_left hw
    rw [if_neg (fun q => hw q.1), if_pos (Or.inr yw)]
    exact ⟨e, hm, hp⟩
theorem bRel_row {R : gW} {s : Int32 × Int32 × Int32} {t : Int32 × Int32} {a : Nat} (h3 : 0 ≤ R 3 ∧ R 3 ≤ 20) (hT : bT R) (hF : bF R) (ha : a < nM R) (hl : ∀ b, b < a → bSee R t a b) (h : bRel R s t) : bRel R (csR R a s) (bsR R a t) := by
  have key : ∀ j, a + 1 + j ≤ nM R → bRel R (nfold (csS R a) j s) (nfold (bsS R a) (a + 1 + j) t) := by
    intro j
    induction j with
    | zero =>
      intro _
      rw [bsN_low hl (by omega)]
      exact h
    | succ j ih =>
      intro hj
      exact bRel_step h3 hT hF (by omega) (ih (by omega))
  have k := key (nM R - (a + 1)) (by omega)
  rw [show a + 1 + (nM R - (a + 1)) = nM R from by omega] at k
  exact k
theorem bRel_all {R : gW} (h3 : 0 ≤ R 3 ∧ R 3 ≤ 20) (hT : bT R) (hF : bF R) (hW : bW R) : bRel R (cBst R) (nfold (bsR R) (nM R) (-2, 0)) := by
  have key : ∀ n, n ≤ nM R → bRel R (nfold (csR R) n (fJa R, -2, -2)) (nfold (bsR R) n (-2, 0)) ∧ ∀ a b, a < n → b < nM R → bSee R (nfold (bsR R) n (-2, 0)) a b := by
    intro n
    induction n with
    | zero =>
      intro _
      exact ⟨⟨(Int32.add_zero _).symm, show (0 : Int32) ≤ 0 ∧ (0 : Int32) ≤ 4000 from by decide, Or.inl ⟨rfl, rfl⟩⟩, fun a b h => absurd h (Nat.not_lt_zero _)⟩
    | succ n ih =>
      intro hn
      obtain ⟨i1, i2⟩ := ih (by omega)
      refine ⟨bRel_row h3 hT hF (by omega) (fun b hb => bSee_sym hW (by omega) (by omega) (i2 b n hb (by omega))) i1, fun a b ha hb => ?_⟩
      by_cases e : a = n
      · subst e; exact bsN_new hb
      · exact bsN_mono (i2 a b (by omega) hb)
  exact (key _ (Nat.le_refl _)).1
/-- the class's best exchange is the reference's -/
theorem cBst_fBest {R : gW} (h3 : 0 ≤ R 3 ∧ R 3 ≤ 20) (hT : bT R) (hF : bF R) (hW : bW R) : ((cBst R).2.1 = -2 ∧ fBest R < 0) ∨ ∃ a b, a < b ∧ b < nM R ∧ (cBst R).2.1 = iN a ∧ (cBst R).2.2 = iN b ∧ ¬ (cBst R).2.1 = -2 ∧ ¬ fBest R < 0 ∧ fNx R = rsw R a b := by
  have hn := (nM_of h3).2
  rcases (bRel_all h3 hT hF hW).2.2 with ⟨q1, q2⟩ | ⟨a, b, hab, hb, ea, eb, e⟩
  · exact Or.inl ⟨q1, by unfold fBest; rw [q2]; decide⟩
  · obtain ⟨d1, d2, d3⟩ := dm100 a (by omega) b (by omega)
    have eB : fBest R = 100 * iN a + iN b := e
    refine Or.inr ⟨a, b, hab, hb, ea, eb, ?_, by rw [eB]; exact d3, ?_⟩
    · rw [ea]
      intro q
      have := (b20 (k := a) (by omega)).1
      rw [q] at this
      exact absurd this (by decide)
    · unfold fNx
      rw [eB, d2, d1, iN_nat (by omega), iN_nat (by omega)]
