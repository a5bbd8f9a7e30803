/-! ROWS: numbers within their bounds, kept by each call -/
def smN (f : Nat → Nat) : Nat → Nat
  | 0 => 0
  | n + 1 => smN f n + f n
theorem smN_cg {f g : Nat → Nat} : ∀ {n : Nat}, (∀ j, j < n → f j = g j) → smN f n = smN g n
  | 0, _ => rfl
  | n + 1, h => by
    show smN f n + f n = smN g n + g n
    rw [smN_cg (n := n) (fun j hj => h j (by omega)), h n (by omega)]
theorem smN_up {f g : Nat → Nat} {t : Nat} : ∀ {n : Nat}, t < n → (∀ j, j < n → j ≠ t → g j = f j) → smN g n + f t = smN f n + g t
  | 0, h, _ => absurd h (Nat.not_lt_zero _)
  | n + 1, h, hg => by
    show smN g n + g n + f t = smN f n + f n + g t
    by_cases e : t = n
    · subst e
      rw [smN_cg (f := g) (g := f) (n := t) (fun j hj => hg j (by omega) (by omega))]
      omega
    · have := smN_up (f := f) (g := g) (t := t) (n := n) (by omega) (fun j hj => hg j (by omega))
      rw [hg n (by omega) (fun q => e q.symm)]
      omega
theorem smN_le {f : Nat → Nat} {t : Nat} : ∀ {n : Nat}, t < n → f t ≤ smN f n
  | 0, h => absurd h (Nat.not_lt_zero _)
  | n + 1, h => by
    show f t ≤ smN f n + f n
    by_cases e : t = n
    · subst e; omega
    · have := smN_le (f := f) (t := t) (n := n) (by omega)
      omega
theorem smN_del {f : Nat → Nat} {t : Nat} : ∀ {n : Nat}, t ≤ n → smN (fun j => f (if j < t then j else j + 1)) n + f t = smN f (n + 1)
  | 0, h => by
    have : t = 0 := by omega
    subst this
    rfl
  | n + 1, h => by
    by_cases e : t = n + 1
    · subst e
      have : smN (fun j => f (if j < n + 1 then j else j + 1)) (n + 1) = smN f (n + 1) := smN_cg (fun j hj => by show f (if j < n + 1 then j else j + 1) = f j; rw [if_pos hj])
      rw [this]
      rfl
    · have i := smN_del (f := f) (t := t) (n := n) (by omega)
      show smN (fun j => f (if j < t then j else j + 1)) n + f (if n < t then n else n + 1) + f t = smN f (n + 1) + f (n + 1)
      rw [if_neg (show ¬ n < t by omega)]
      omega
/-- a traveller's sweets -/
def swN (R : gW) (t : Nat) : Nat := (fld R t 7).toNatClampNeg
/-- a good row: likes, rows, pulls within bounds; no sweets below none; no more than B sweets together; 2 to 10 rows -/
def GD (B : Nat) (R : gW) : Prop := bF R ∧ bW R ∧ smN (swN R) (nM R) ≤ B ∧ (2 ≤ R 0 ∧ R 0 ≤ 10)
theorem GD_mono {B B' : Nat} {R : gW} (h : GD B R) (hB : B ≤ B') : GD B' R := ⟨h.1, h.2.1, by have := h.2.2.1; omega, h.2.2.2⟩
theorem GD_cg {B : Nat} {R S : gW} (h : GD B R) (hN : nM S = nM R) (h0 : S 0 = R 0) (hf : ∀ t, t < nM R → ∀ f, 3 ≤ f → f < 8 → fld S t f = fld R t f) : GD B S := by
  obtain ⟨g1, g2, g3, g4⟩ := h
  refine ⟨fun t ht => ?_, fun t ht => ?_, ?_, by rw [h0]; exact g4⟩
  · rw [hN] at ht
    rw [hf t ht 3 (by decide) (by decide), hf t ht 4 (by decide) (by decide), hf t ht 5 (by decide) (by decide), hf t ht 6 (by decide) (by decide)]
    exact g1 t ht
  · rw [hN] at ht
    rw [hf t ht 7 (by decide) (by decide)]
    exact g2 t ht
  · rw [hN, smN_cg (g := swN R) (fun j hj => by unfold swN; rw [hf j hj 7 (by decide) (by decide)])]
    exact g3
theorem GD_te {B : Nat} {R : gW} {w a b : Int32} (h : GD B R) (h3 : 0 ≤ R 3 ∧ R 3 ≤ 20) (h9 : 0 ≤ R 209 ∧ R 209 ≤ 40) : GD B (fTe R w a b) := by
  have hn := (nM_of h3).2
  refine GD_cg h ?_ (fTe_ne h9 (by omega)) (fun t ht f f1 f2 => ?_)
  · unfold nM; rw [fTe_ne h9 (by omega)]
  · exact fTe_ne h9 (by omega)
theorem GD_hd {B k : Nat} {R : gW} {x : Int32} (h : GD B R) (hk : k < 9) (h0 : ¬ k = 0) (h3 : ¬ k = 3) : GD B (rup R k x) :=
  GD_cg h (by unfold nM; rw [rup_ne (by omega)]) (rup_ne (by omega)) (fun t ht f f1 f2 => rup_ne (by omega))
theorem GD_rsw {B a b : Nat} {R : gW} (h : GD B R) : GD B (rsw R a b) :=
  GD_cg h nM_rsw (by rw [rsw_eq, if_neg (by omega), if_neg (by omega)]) (fun t ht f f1 f2 => by rw [fld_rsw _ _ _ _ _ (by omega), if_neg (by omega)])
theorem GD_rtu {B a b c : Nat} {R : gW} (h : GD B R) (hd : a ≠ b ∧ b ≠ c ∧ a ≠ c) : GD B (rtu R a b c) :=
  GD_cg h (nM_rtu hd) (by rw [rtu_eq hd, if_neg (by omega), if_neg (by omega), if_neg (by omega)]) (fun t ht f f1 f2 => by rw [fld_rtu hd _ _ (by omega), if_neg (by omega)])
theorem GD_seat {B t : Nat} {R : gW} {x : Int32} (h : GD B R) : GD B (rup R (9 + 10 * t + 0) x) :=
  GD_cg h nM_rup (rup_ne (by omega)) (fun s hs f f1 f2 => rup_ne (by omega))
