-- text 63
/-! ROWS: numbers within their bounds, kept by each call -/
def smN (f : Nat → Nat) : Nat → Nat
  | 0 => 0
  | n + 1 => smN f n + f n
theorem smN_cg {f g : Nat → Nat} : ∀ {n : Nat}, (∀ j, j < n → f j = g j) → smN f n = smN g n
  | 0, _ => rfl
  | n + 1, h => by
    show smN f n + f n = smN g n + g n
    rw [smN_cg (n := n) (fun j hj => h j (by omega)), h n (by omega)]
theorem smN_up {f g : Nat → Nat} {t : Nat} : ∀ {n : Nat}, t < n → (∀ j, j < n → j ≠ t → g j = f j) → smN g n + f t = smN f n + g t
  | 0, h, _ => absurd h (Nat.not_lt_zero _)
  | n + 1, h, hg => by
    show smN g n + g n + f t = smN f n + f n + g t
    by_cases e : t = n
    · subst e
      rw [smN_cg (f := g) (g := f) (n := t) (fun j hj => hg j (by omega) (by omega))]
      omega
    · have := smN_up (f := f) (g := g) (t := t) (n := n) (by omega) (fun j hj => hg j (by omega))
      rw [hg n (by omega) (fun q => e q.symm)]
      omega
theorem smN_le {f : Nat → Nat} {t : Nat} : ∀ {n : Nat}, t < n → f t ≤ smN f n
  | 0, h => absurd h (Nat.not_lt_zero _)
  | n + 1, h => by
    show f t ≤ smN f n + f n
    by_cases e : t = n
    · subst e; omega
    · have := smN_le (f := f) (t := t) (n := n) (by omega)
      omega
theorem smN_del {f : Nat → Nat} {t : Nat} : ∀ {n : Nat}, t ≤ n → smN (fun j => f (if j < t then j else j + 1)) n + f t = smN f (n + 1)
  | 0, h => by
    have : t = 0 := by omega
    subst this
    rfl
  | n + 1, h => by
    by_cases e : t = n + 1
    · subst e
      have : smN (fun j => f (if j < n + 1 then j else j + 1)) (n + 1) = smN f (n + 1) := smN_cg (fun j hj => by show f (if j < n + 1 then j else j + 1) = f j; rw [if_pos hj])
      rw [this]
      rfl
    · have i := smN_del (f := f) (t := t) (n := n) (by omega)
      show smN (fun j => f (if j < t then j else j + 1)) n + f (if n < t then n else n + 1) + f t = smN f (n + 1) + f (n + 1)
      rw [if_neg (show ¬ n < t by omega)]
      omega
/-- a traveller's sweets -/
def swN (R : gW) (t : Nat) : Nat := (fld R t 7).toNatClampNeg
/-- a good row: likes, rows, pulls within bounds; no sweets below none; no more than B sweets together; 2 to 10 rows -/
def qSt (R : gW) : Prop := ∀ t, t < nM R → fld R t 0 < 4 * R 0
theorem qSt_cg {R S : gW} (h : qSt R) (hN : nM S = nM R) (h0 : S 0 = R 0) (hf : ∀ t, t < nM R → fld S t 0 = fld R t 0) : qSt S := by
  intro t ht
  rw [hN] at ht
  rw [h0, hf t ht]
  exact h t ht
theorem isS_lt {R : gW} {x : Int32} (h0 : 2 ≤ R 0 ∧ R 0 ≤ 10) (h : isS R x) : x < 4 * R 0 := by
  have h1 := h.2
  have a1 := h0.1
  have a2 := h0.2
  grind
/-- a good row, for family: each seat is of the train, too -/
def GD (B : Nat) (R : gW) : Prop := bF R ∧ bW R ∧ (smN (swN R) (nM R) ≤ B ∧ qSt R) ∧ (2 ≤ R 0 ∧ R 0 ≤ 10)
theorem GD_mono {B B' : Nat} {R : gW} (h : GD B R) (hB : B ≤ B') : GD B' R := ⟨h.1, h.2.1, ⟨by have := h.2.2.1.1; omega, h.2.2.1.2⟩, h.2.2.2⟩
theorem GD_cg {B : Nat} {R S : gW} (h : GD B R) (hN : nM S = nM R) (h0 : S 0 = R 0) (hf : ∀ t, t < nM R → ∀ f, 3 ≤ f → f < 8 → fld S t f = fld R t f) (hs : qSt S) : GD B S := by
  obtain ⟨g1, g2, ⟨g3, -⟩, g4⟩ := h
  refine ⟨fun t ht => ?_, fun t ht => ?_, ⟨?_, hs⟩, by rw [h0]; exact g4⟩
  · rw [hN] at ht
    rw [hf t ht 3 (by decide) (by decide), hf t ht 4 (by decide) (by decide), hf t ht 5 (by decide) (by decide), hf t ht 6 (by decide) (by decide)]
    exact g1 t ht
  · rw [hN] at ht
    rw [hf t ht 7 (by decide) (by decide)]
    exact g2 t ht
  · rw [hN, smN_cg (g := swN R) (fun j hj => by unfold swN; rw [hf j hj 7 (by decide) (by decide)])]
    exact g3
theorem GD_te {B : Nat} {R : gW} {w a b : Int32} (h : GD B R) (h3 : 0 ≤ R 3 ∧ R 3 ≤ 20) (h9 : 0 ≤ R 209 ∧ R 209 ≤ 40) : GD B (fTe R w a b) := by
  have hn := (nM_of h3).2
  have eN : nM (fTe R w a b) = nM R := by unfold nM; rw [fTe_ne h9 (by omega)]
  refine GD_cg h eN (fTe_ne h9 (by omega)) (fun t ht f f1 f2 => ?_) (qSt_cg h.2.2.1.2 eN (fTe_ne h9 (by omega)) (fun t ht => ?_))
  · exact fTe_ne h9 (by omega)
  · exact fTe_ne h9 (by omega)
theorem GD_hd {B k : Nat} {R : gW} {x : Int32} (h : GD B R) (hk : k < 9) (h0 : ¬ k = 0) (h3 : ¬ k = 3) : GD B (rup R k x) :=
  GD_cg h (by unfold nM; rw [rup_ne (by omega)]) (rup_ne (by omega)) (fun t ht f f1 f2 => rup_ne (by omega)) (qSt_cg h.2.2.1.2 (by unfold nM; rw [rup_ne (by omega)]) (rup_ne (by omega)) (fun t ht => rup_ne (by omega)))
theorem qSt_rsw {a b : Nat} {R : gW} (h : qSt R) (ha : a < nM R) (hb : b < nM R) : qSt (rsw R a b) := by
  intro t ht
  rw [nM_rsw] at ht
  have e0 : rsw R a b 0 = R 0 := by rw [rsw_eq, if_neg (by omega), if_neg (by omega)]
  rw [e0, fld_rsw _ _ _ _ _ (by omega), if_pos rfl]
  split
  · first | exact h a ha | exact h b hb
  · split
    · first | exact h a ha | exact h b hb
    · exact h t ht
theorem qSt_rtu {a b c : Nat} {R : gW} (h : qSt R) (hd : a ≠ b ∧ b ≠ c ∧ a ≠ c) (ha : a < nM R) (hb : b < nM R) (hc : c < nM R) : qSt (rtu R a b c) := by
  intro t ht
  rw [nM_rtu hd] at ht
  show rtu R a b c (9 + 10 * t + 0) < 4 * rtu R a b c 0
  rw [rtu_eq hd, rtu_eq hd, if_neg (show ¬ 0 = 9 + 10 * c by omega), if_neg (show ¬ 0 = 9 + 10 * b by omega), if_neg (show ¬ 0 = 9 + 10 * a by omega)]
  split
  · exact h a ha
  · split
    · exact h c hc
    · split
      · exact h b hb
      · exact h t ht
theorem GD_rsw {B a b : Nat} {R : gW} (h : GD B R) (ha : a < nM R) (hb : b < nM R) : GD B (rsw R a b) :=
  GD_cg h nM_rsw (by rw [rsw_eq, if_neg (by omega), if_neg (by omega)]) (fun t ht f f1 f2 => by rw [fld_rsw _ _ _ _ _ (by omega), if_neg (by omega)]) (qSt_rsw h.2.2.1.2 ha hb)
theorem GD_rtu {B a b c : Nat} {R : gW} (h : GD B R) (hd : a ≠ b ∧ b ≠ c ∧ a ≠ c) (ha : a < nM R) (hb : b < nM R) (hc : c < nM R) : GD B (rtu R a b c) :=
  GD_cg h (nM_rtu hd) (by rw [rtu_eq hd, if_neg (by omega), if_neg (by omega), if_neg (by omega)]) (fun t ht f f1 f2 => by rw [fld_rtu hd _ _ (by omega), if_neg (by omega)]) (qSt_rtu h.2.2.1.2 hd ha hb hc)
theorem qSt_seat {t : Nat} {R : gW} {x : Int32} (h : qSt R) (hx : x < 4 * R 0) : qSt (rup R (9 + 10 * t + 0) x) := by
  intro s hs
  rw [nM_rup] at hs
  rw [rup_ne (show ¬ 0 = 9 + 10 * t + 0 by omega)]
  by_cases e : s = t
  · subst e
    show rup R (9 + 10 * s + 0) x (9 + 10 * s + 0) < _
    rw [rup_at]
    exact hx
  · show rup R (9 + 10 * t + 0) x (9 + 10 * s + 0) < _
    rw [rup_ne (by omega)]
    exact h s hs
theorem GD_seat {B t : Nat} {R : gW} {x : Int32} (h : GD B R) (hx : x < 4 * R 0) : GD B (rup R (9 + 10 * t + 0) x) :=
  GD_cg h nM_rup (rup_ne (by omega)) (fun s hs f f1 f2 => rup_ne (by omega)) (qSt_seat h.2.2.1.2 hx)
-- text 64
/-! ROWS: kept within their bounds by swap, move, ring, first, set, settle -/
theorem sw_of {R : gW} {t : Nat} (h : 0 ≤ fld R t 7) : fld R t 7 = iN (swN R t) := (iN_of h).1
theorem te_b {R : gW} {k : Nat} {x : Int32} (h : 0 ≤ R 3 ∧ R 3 ≤ 20) (h3 : ¬ k = 3) : 0 ≤ rup R k x 3 ∧ rup R k x 3 ≤ 20 := by rw [rup_ne (by omega)]; exact h
theorem GD_swa {B a b : Nat} {R : gW} {x : Int32} (h : GD B R) (h3 : 0 ≤ R 3 ∧ R 3 ≤ 20) (h9 : 0 ≤ R 209 ∧ R 209 ≤ 40) (hB : B ≤ 1000000) (ha : a < nM R) (hb : b < nM R) (hne : a ≠ b) (hx : 0 ≤ x ∧ x ≤ 9) (hs : ¬ fld R a 7 < x) : GD B (nSwa R (iN a) (iN b) x) := by
  have hn := (nM_of h3).2
  obtain ⟨g1, g2, ⟨g3, gs⟩, g4⟩ := h
  have la := smN_le (f := swN R) ha
  have lb := smN_le (f := swN R) hb
  obtain ⟨ex, lx⟩ := iN_of hx.1
  obtain ⟨y, hy⟩ : ∃ y, x.toNatClampNeg = y := ⟨_, rfl⟩
  rw [hy] at ex lx
  have y9 : y ≤ 9 := by
    have := hx.2
    rw [ex] at this
    exact (iN_le (m := 9) lx (by decide)).mp this
  have ea := sw_of (g2 a ha)
  have eb := sw_of (g2 b hb)
  have lya : y ≤ swN R a := by
    rw [ea, ex, iN_lt (by omega) lx] at hs
    omega
  have na : fld R a 7 + -x = iN (swN R a - y) := by
    rw [ea, ex, ← Int32.sub_eq_add_neg]
    exact iN_sub (by omega) (by omega)
  have nb : fld R b 7 + x = iN (swN R b + y) := by rw [eb, ex, iN_add]
  unfold nSwa
  rw [iN_nat (by omega), iN_nat (by omega)]
  obtain ⟨T, hT⟩ : ∃ T, radd (radd (rsw R a b) (9 + 10 * a + 7) (-x)) (9 + 10 * b + 7) x = T := ⟨_, rfl⟩
  rw [hT]
  have vT : ∀ j, T j = if j = 9 + 10 * b + 7 then iN (swN R b + y) else if j = 9 + 10 * a + 7 then iN (swN R a - y) else rsw R a b j := by
    intro j
    have r1 : rsw R a b (9 + 10 * a + 7) = fld R a 7 := by rw [rsw_eq, if_neg (by omega), if_neg (by omega)]; rfl
    have r2 : rsw R a b (9 + 10 * b + 7) = fld R b 7 := by rw [rsw_eq, if_neg (by omega), if_neg (by omega)]; rfl
    rw [← hT]
    by_cases q : j = 9 + 10 * b + 7
    · subst q
      rw [if_pos rfl, radd_at, radd_ne (by omega), r2, nb]
    · rw [if_neg q, radd_ne q]
      by_cases q2 : j = 9 + 10 * a + 7
      · subst q2
        rw [if_pos rfl, radd_at, r1, na]
      · rw [if_neg q2, radd_ne q2]
  have T3 : T 3 = R 3 := by rw [vT, if_neg (by omega), if_neg (by omega), rsw_3]
  have T0 : T 0 = R 0 := by rw [vT, if_neg (by omega), if_neg (by omega), rsw_eq, if_neg (by omega), if_neg (by omega)]
  have TN : nM T = nM R := by unfold nM; rw [T3]
  have T9 : T 209 = R 209 := by rw [vT, if_neg (by omega), if_neg (by omega), rsw_eq, if_neg (by omega), if_neg (by omega)]
  have fT : ∀ t f, 3 ≤ f → f < 7 → fld T t f = fld R t f := by
    intro t f f1 f2
    show T (9 + 10 * t + f) = _
    rw [vT, if_neg (by omega), if_neg (by omega)]
    exact (fld_rsw R a b t f (by omega)).trans (if_neg (by omega))
  have f7 : ∀ t, fld T t 7 = iN (if t = b then swN R b + y else if t = a then swN R a - y else swN R t) ∨ ¬ t < nM R := by
    intro t
    by_cases ht : t < nM R
    · refine Or.inl ?_
      show T (9 + 10 * t + 7) = _
      rw [vT]
      by_cases q : t = b
      · subst q; rw [if_pos rfl, if_pos rfl]
      · rw [if_neg (by omega), if_neg q]
        by_cases q2 : t = a
        · subst q2; rw [if_pos rfl, if_pos rfl]
        · rw [if_neg (by omega), if_neg q2, ← sw_of (g2 t ht)]
          exact (fld_rsw R a b t 7 (by omega)).trans (if_neg (by omega))
    · exact Or.inr ht
  have f7' : ∀ t, t < nM R → fld T t 7 = iN (if t = b then swN R b + y else if t = a then swN R a - y else swN R t) := fun t ht => (f7 t).resolve_right (fun q => q ht)
  have lt7 : ∀ t, t < nM R → (if t = b then swN R b + y else if t = a then swN R a - y else swN R t) ≤ 1000009 := by
    intro t ht
    have := smN_le (f := swN R) ht
    split
    · omega
    · split <;> omega
  have sW : ∀ t, t < nM R → swN T t = if t = b then swN R b + y else if t = a then swN R a - y else swN R t := by
    intro t ht
    unfold swN
    rw [f7' t ht, iN_nat (by have := lt7 t ht; omega)]
    rfl
  have gT : GD B T := by
    have sT : qSt T := by
      refine qSt_cg (qSt_rsw gs ha hb) (by rw [TN, nM_rsw]) (by rw [T0, rsw_eq, if_neg (by omega), if_neg (by omega)]) (fun t ht => ?_)
      show T (9 + 10 * t + 0) = _
      rw [vT, if_neg (by omega), if_neg (by omega)]
      rfl
    refine ⟨fun t ht => ?_, fun t ht => ?_, ⟨?_, sT⟩, by rw [T0]; exact g4⟩
    · rw [TN] at ht
      rw [fT t 3 (by decide) (by decide), fT t 4 (by decide) (by decide), fT t 5 (by decide) (by decide), fT t 6 (by decide) (by decide)]
      exact g1 t ht
    · rw [TN] at ht
      rw [f7' t ht]
      exact (iN_le (k := 0) (by decide) (by have := lt7 t ht; omega)).mpr (by omega)
    · rw [TN, smN_cg sW]
      have u1 := smN_up (f := swN R) (g := fun t => if t = a then swN R a - y else swN R t) (t := a) ha (fun j hj q => if_neg q)
      have u2 := smN_up (f := fun t => if t = a then swN R a - y else swN R t) (g := fun t => if t = b then swN R b + y else if t = a then swN R a - y else swN R t) (t := b) hb (fun j hj q => if_neg q)
      simp only [if_pos] at u1 u2
      rw [if_neg (fun q => hne q.symm)] at u2
      omega
  have hT3 : 0 ≤ T 3 ∧ T 3 ≤ 20 := by rw [T3]; exact h3
  have hT9 : 0 ≤ T 209 ∧ T 209 ≤ 40 := by rw [T9]; exact h9
  unfold radd
  refine GD_te (GD_hd (GD_hd gT (by decide) (by decide) (by decide)) (by decide) (by decide) (by decide)) (te_b (te_b hT3 (by decide)) (by decide)) ?_
  rw [rup_ne (by omega), rup_ne (by omega)]
  exact hT9
theorem GD_mov {B a : Nat} {R : gW} {x : Int32} (h : GD B R) (h3 : 0 ≤ R 3 ∧ R 3 ≤ 20) (h9 : 0 ≤ R 209 ∧ R 209 ≤ 40) (ha : a < nM R) (hx : x < 4 * R 0) : GD B (nMov R (iN a) x) := by
  have hn := (nM_of h3).2
  unfold nMov radd
  rw [iN_nat (by omega)]
  refine GD_te (GD_hd (GD_seat h hx) (by decide) (by decide) (by decide)) (te_b (te_b h3 (by omega)) (by decide)) ?_
  rw [rup_ne (by omega), rup_ne (by omega)]
  exact h9
theorem GD_rin {B a b c : Nat} {R : gW} (h : GD B R) (h3 : 0 ≤ R 3 ∧ R 3 ≤ 20) (h9 : 0 ≤ R 209 ∧ R 209 ≤ 40) (ha : a < nM R) (hb : b < nM R) (hc : c < nM R) (hd : a ≠ b ∧ b ≠ c ∧ a ≠ c) : GD B (nRin R (iN a) (iN b) (iN c)) := by
  have hn := (nM_of h3).2
  unfold nRin radd
  rw [iN_nat (by omega), iN_nat (by omega), iN_nat (by omega)]
  refine GD_te (GD_hd (GD_rtu h hd ha hb hc) (by decide) (by decide) (by decide)) (te_b (by rw [rtu_3 hd]; exact h3) (by decide)) ?_
  rw [rup_ne (by omega), rtu_eq hd, if_neg (by omega), if_neg (by omega), if_neg (by omega)]
  exact h9
theorem GD_fir {B : Nat} {R : gW} {f : Int32} (h : GD B R) (h3 : 0 ≤ R 3 ∧ R 3 ≤ 20) (h9 : 0 ≤ R 209 ∧ R 209 ≤ 40) : GD B (nFir R f) := by
  unfold nFir
  refine GD_te (GD_hd h (by decide) (by decide) (by decide)) (te_b h3 (by decide)) ?_
  rw [rup_ne (by omega)]
  exact h9
theorem GD_nx {B : Nat} {R : gW} (h : GD B R) (h3 : 0 ≤ R 3 ∧ R 3 ≤ 20) (hb : ¬ fBest R < 0) : GD B (fNx R) ∧ fNx R 3 = R 3 ∧ fNx R 209 = R 209 := by
  have hn := (nM_of h3).2
  rcases fBest_of R with q | ⟨a, b, ha, hb2, q⟩
  · rw [q] at hb; exact absurd (by decide) hb
  · obtain ⟨d1, d2, -⟩ := dm100 a (by omega) b (by omega)
    have e : fNx R = rsw R a b := by
      unfold fNx
      rw [q, d2, d1, iN_nat (by omega), iN_nat (by omega)]
    rw [e]
    exact ⟨GD_rsw h ha hb2, rsw_3 _ _ _, by rw [rsw_eq, if_neg (by omega), if_neg (by omega)]⟩
theorem GD_St {B : Nat} : ∀ {d : Nat} {R : gW}, GD B R → (0 ≤ R 3 ∧ R 3 ≤ 20) → GD B (fSt d R).2 ∧ (fSt d R).2 3 = R 3 ∧ (fSt d R).2 209 = R 209
  | 0, R, h, _ => ⟨h, rfl, rfl⟩
  | d + 1, R, h, h3 => by
    by_cases hb : fBest R < 0
    · rw [fSt_lt hb]
      exact ⟨h, rfl, rfl⟩
    · rw [fSt_ge hb]
      obtain ⟨x1, x2, x3⟩ := GD_nx h h3 hb
      obtain ⟨i1, i2, i3⟩ := GD_St (d := d) x1 (by rw [x2]; exact h3)
      exact ⟨i1, i2.trans x2, i3.trans x3⟩
theorem GD_stl {B : Nat} {R : gW} (h : GD B R) (h3 : 0 ≤ R 3 ∧ R 3 ≤ 20) (h9 : 0 ≤ R 209 ∧ R 209 ≤ 40) : GD B (nStl R) := by
  obtain ⟨x1, x2, x3⟩ := GD_St (d := 99) h h3
  unfold nStl radd
  refine GD_te (GD_hd x1 (by decide) (by decide) (by decide)) (te_b (by rw [x2]; exact h3) (by decide)) ?_
  rw [rup_ne (by omega), x3]
  exact h9
