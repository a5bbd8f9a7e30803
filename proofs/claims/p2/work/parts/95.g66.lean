/-! ROWS: kept within their bounds by come; the relation of the heaps -/
theorem GD_com {B : Nat} {R : gW} {x k f w s nm : Int32} (h : GD B R) (h3 : 0 ≤ R 3 ∧ R 3 ≤ 20) (h9 : 0 ≤ R 209 ∧ R 209 ≤ 40) (h20 : R 3 < 20) (hw : 0 ≤ w ∧ w ≤ 99) : GD (B + 99) (nCom R x k f w s nm) := by
  obtain ⟨n, hN⟩ : ∃ n, nM R = n := ⟨_, rfl⟩
  have e3 : R 3 = iN n := by rw [← hN]; exact (nM_of h3).1
  have n20' : n < 20 := by
    have hn := (nM_of h3).2
    rw [e3] at h20
    exact (iN_lt (m := 20) (by omega) (by decide)).mp h20
  obtain ⟨S, hS⟩ : ∃ S, radd (rup (rup (rup (rup (fNew R x nm) (9 + 10 * n + 1) k) (9 + 10 * n + 2) f) (9 + 10 * n + 7) w) (9 + 10 * n + 8) s) 3 1 = S := ⟨_, rfl⟩
  have vS : ∀ j, ¬ j = 3 → S j = if j = 9 + 10 * n + 8 then s else if j = 9 + 10 * n + 7 then w else if j = 9 + 10 * n + 2 then f else if j = 9 + 10 * n + 1 then k else if j = 9 + 10 * n + 9 then nm else if j = 9 + 10 * n + 0 then x else if 9 + 10 * n ≤ j ∧ j < 9 + 10 * n + 10 then 0 else R j := by
    intro j hj
    rw [← hS, radd_ne hj]
    unfold fNew zsh rup
    rw [hN]
    grind (splits := 40)
  have S3 : S 3 = iN (n + 1) := by
    rw [← hS, radd_at, rup_ne (by omega), rup_ne (by omega), rup_ne (by omega), rup_ne (by omega), fNew_ne (by omega), e3]
    exact iN_one n
  have SN : nM S = n + 1 := nM_iN S3 (by omega)
  have old : ∀ t, t < n → ∀ g, g < 10 → fld S t g = fld R t g := by
    intro t ht g hg
    show S (9 + 10 * t + g) = R (9 + 10 * t + g)
    rw [vS _ (by omega), if_neg (by omega), if_neg (by omega), if_neg (by omega), if_neg (by omega), if_neg (by omega), if_neg (by omega), if_neg (by omega)]
  have new : ∀ g, 3 ≤ g → g < 7 → fld S n g = 0 := by
    intro g h1 h2
    show S (9 + 10 * n + g) = 0
    rw [vS _ (by omega), if_neg (by omega), if_neg (by omega), if_neg (by omega), if_neg (by omega), if_neg (by omega), if_neg (by omega), if_pos (by omega)]
  have n7 : fld S n 7 = w := by
    show S (9 + 10 * n + 7) = w
    rw [vS _ (by omega), if_neg (by omega), if_pos rfl]
  have S0 : S 0 = R 0 := by
    rw [vS _ (by omega), if_neg (by omega), if_neg (by omega), if_neg (by omega), if_neg (by omega), if_neg (by omega), if_neg (by omega), if_neg (by omega)]
  have S9 : S 209 = R 209 := by
    rw [vS _ (by omega), if_neg (by omega), if_neg (by omega), if_neg (by omega), if_neg (by omega), if_neg (by omega), if_neg (by omega), if_neg (by omega)]
  obtain ⟨g1, g2, g3, g4⟩ := h
  rw [hN] at g3
  have gS : GD (B + 99) S := by
    refine ⟨fun t ht => ?_, fun t ht => ?_, ?_, by rw [S0]; exact g4⟩
    · rw [SN] at ht
      by_cases q : t < n
      · rw [old t q 3 (by decide), old t q 4 (by decide), old t q 5 (by decide), old t q 6 (by decide)]
        exact g1 t (by omega)
      · have : t = n := by omega
        subst this
        rw [new 3 (by decide) (by decide), new 4 (by decide) (by decide), new 5 (by decide) (by decide), new 6 (by decide) (by decide)]
        decide
    · rw [SN] at ht
      by_cases q : t < n
      · rw [old t q 7 (by decide)]
        exact g2 t (by omega)
      · have : t = n := by omega
        subst this
        rw [n7]
        exact hw.1
    · rw [SN]
      show smN (swN S) n + swN S n ≤ B + 99
      rw [smN_cg (g := swN R) (fun j hj => by unfold swN; rw [old j hj 7 (by decide)])]
      have : swN S n ≤ 99 := by
        unfold swN
        rw [n7]
        obtain ⟨ew, lw⟩ := iN_of hw.1
        have h2 := hw.2
        rw [ew] at h2
        exact (iN_le (m := 99) lw (by decide)).mp h2
      omega
  unfold nCom
  rw [hN, hS]
  refine GD_te gS ?_ (by rw [S9]; exact h9)
  rw [S3]
  exact ⟨(iN_le (k := 0) (by decide) (by omega)).mpr (by omega), (iN_le (m := 20) (by omega) (by decide)).mpr (by omega)⟩
/-- the slots: what is kept is kept in both -/
def SL (B : Nat) (σ : gS) : Prop := (∀ s, s < 2 → σ 112 s = σ 329 s ∧ (0 ≤ σ (60 + 26 * s) 7 ∧ σ (60 + 26 * s) 7 ≤ 20) ∧ (¬ σ 112 s = 0 → SV σ (60 + 26 * s) (rowAt (σ 328) s) ∧ GD B (rowAt (σ 328) s)))
/-- what was: both remember the same, and it is good -/
def PG (B : Nat) (σ : gS) : Prop := PR σ ∧ (∀ u, u < (σ 113 2).toNatClampNeg → GD B (rowAt (σ 327) u)) ∧ ∀ j, j < 8 → 0 ≤ σ (115 + 26 * j) 7 ∧ σ (115 + 26 * j) 7 ≤ 20
/-- the relation of class and reference between two calls -/
def GR (B : Nat) (σ : gS) : Prop := SV σ 6 (σ 324) ∧ GD B (σ 324) ∧ PG B σ ∧ SL B σ ∧ TP σ ∧ σ 0 9 = σ 323 9 ∧ RS σ ∧ RZ σ ∧ RT σ
