section
-- text 63
/-! ROWS: numbers within their bounds, kept by each call -/
def smN (f : Nat → Nat) : Nat → Nat
  | 0 => 0
  | n + 1 => smN f n + f n
theorem smN_cg {f g : Nat → Nat} : ∀ {n : Nat}, (∀ j, j < n → f j = g j) → smN f n = smN g n
  | 0, _ => rfl
  | n + 1, h => by
    show smN f n + f n = smN g n + g n
    rw [smN_cg (n := n) (fun j hj => h j (by omega)), h n (by omega)]
theorem smN_up {f g : Nat → Nat} {t : Nat} : ∀ {n : Nat}, t < n → (∀ j, j < n → j ≠ t → g j = f j) → smN g n + f t = smN f n + g t
  | 0, h, _ => absurd h (Nat.not_lt_zero _)
  | n + 1, h, hg => by
    show smN g n + g n + f t = smN f n + f n + g t
    by_cases e : t = n
    · subst e
      rw [smN_cg (f := g) (g := f) (n := t) (fun j hj => hg j (by omega) (by omega))]
      omega
    · have := smN_up (f := f) (g := g) (t := t) (n := n) (by omega) (fun j hj => hg j (by omega))
      rw [hg n (by omega) (fun q => e q.symm)]
      omega
theorem smN_le {f : Nat → Nat} {t : Nat} : ∀ {n : Nat}, t < n → f t ≤ smN f n
  | 0, h => absurd h (Nat.not_lt_zero _)
  | n + 1, h => by
    show f t ≤ smN f n + f n
    by_cases e : t = n
    · subst e; omega
    · have := smN_le (f := f) (t := t) (n := n) (by omega)
      omega
theorem smN_del {f : Nat → Nat} {t : Nat} : ∀ {n : Nat}, t ≤ n → smN (fun j => f (if j < t then j else j + 1)) n + f t = smN f (n + 1)
  | 0, h => by
    have : t = 0 := by omega
    subst this
    rfl
  | n + 1, h => by
    by_cases e : t = n + 1
    · subst e
      have : smN (fun j => f (if j < n + 1 then j else j + 1)) (n + 1) = smN f (n + 1) := smN_cg (fun j hj => by show f (if j < n + 1 then j else j + 1) = f j; rw [if_pos hj])
      rw [this]
      rfl
    · have i := smN_del (f := f) (t := t) (n := n) (by omega)
      show smN (fun j => f (if j < t then j else j + 1)) n + f (if n < t then n else n + 1) + f t = smN f (n + 1) + f (n + 1)
      rw [if_neg (show ¬ n < t by omega)]
      omega
/-- a traveller's sweets -/
def swN (R : gW) (t : Nat) : Nat := (fld R t 7).toNatClampNeg
/-- a good row: likes, rows, pulls within bounds; no sweets below none; no more than B sweets together; 2 to 10 rows -/
def GD (B : Nat) (R : gW) : Prop := bF R ∧ bW R ∧ smN (swN R) (nM R) ≤ B ∧ (2 ≤ R 0 ∧ R 0 ≤ 10)
theorem GD_mono {B B' : Nat} {R : gW} (h : GD B R) (hB : B ≤ B') : GD B' R := ⟨h.1, h.2.1, by have := h.2.2.1; omega, h.2.2.2⟩
theorem GD_cg {B : Nat} {R S : gW} (h : GD B R) (hN : nM S = nM R) (h0 : S 0 = R 0) (hf : ∀ t, t < nM R → ∀ f, 3 ≤ f → f < 8 → fld S t f = fld R t f) : GD B S := by
  obtain ⟨g1, g2, g3, g4⟩ := h
  refine ⟨fun t ht => ?_, fun t ht => ?_, ?_, by rw [h0]; exact g4⟩
  · rw [hN] at ht
    rw [hf t ht 3 (by decide) (by decide), hf t ht 4 (by decide) (by decide), hf t ht 5 (by decide) (by decide), hf t ht 6 (by decide) (by decide)]
    exact g1 t ht
  · rw [hN] at ht
    rw [hf t ht 7 (by decide) (by decide)]
    exact g2 t ht
  · rw [hN, smN_cg (g := swN R) (fun j hj => by unfold swN; rw [hf j hj 7 (by decide) (by decide)])]
    exact g3
theorem GD_te {B : Nat} {R : gW} {w a b : Int32} (h : GD B R) (h3 : 0 ≤ R 3 ∧ R 3 ≤ 20) (h9 : 0 ≤ R 209 ∧ R 209 ≤ 40) : GD B (fTe R w a b) := by
  have hn := (nM_of h3).2
  refine GD_cg h ?_ (fTe_ne h9 (by omega)) (fun t ht f f1 f2 => ?_)
  · unfold nM; rw [fTe_ne h9 (by omega)]
  · exact fTe_ne h9 (by omega)
theorem GD_hd {B k : Nat} {R : gW} {x : Int32} (h : GD B R) (hk : k < 9) (h0 : ¬ k = 0) (h3 : ¬ k = 3) : GD B (rup R k x) :=
  GD_cg h (by unfold nM; rw [rup_ne (by omega)]) (rup_ne (by omega)) (fun t ht f f1 f2 => rup_ne (by omega))
theorem GD_rsw {B a b : Nat} {R : gW} (h : GD B R) : GD B (rsw R a b) :=
  GD_cg h nM_rsw (by rw [rsw_eq, if_neg (by omega), if_neg (by omega)]) (fun t ht f f1 f2 => by rw [fld_rsw _ _ _ _ _ (by omega), if_neg (by omega)])
theorem GD_rtu {B a b c : Nat} {R : gW} (h : GD B R) (hd : a ≠ b ∧ b ≠ c ∧ a ≠ c) : GD B (rtu R a b c) :=
  GD_cg h (nM_rtu hd) (by rw [rtu_eq hd, if_neg (by omega), if_neg (by omega), if_neg (by omega)]) (fun t ht f f1 f2 => by rw [fld_rtu hd _ _ (by omega), if_neg (by omega)])
theorem GD_seat {B t : Nat} {R : gW} {x : Int32} (h : GD B R) : GD B (rup R (9 + 10 * t + 0) x) :=
  GD_cg h nM_rup (rup_ne (by omega)) (fun s hs f f1 f2 => rup_ne (by omega))
-- text 64
/-! ROWS: kept within their bounds by swap, move, ring, first, set, settle -/
theorem sw_of {R : gW} {t : Nat} (h : 0 ≤ fld R t 7) : fld R t 7 = iN (swN R t) := (iN_of h).1
theorem te_b {R : gW} {k : Nat} {x : Int32} (h : 0 ≤ R 3 ∧ R 3 ≤ 20) (h3 : ¬ k = 3) : 0 ≤ rup R k x 3 ∧ rup R k x 3 ≤ 20 := by rw [rup_ne (by omega)]; exact h
theorem GD_swa {B a b : Nat} {R : gW} {x : Int32} (h : GD B R) (h3 : 0 ≤ R 3 ∧ R 3 ≤ 20) (h9 : 0 ≤ R 209 ∧ R 209 ≤ 40) (hB : B ≤ 1000000) (ha : a < nM R) (hb : b < nM R) (hne : a ≠ b) (hx : 0 ≤ x ∧ x ≤ 9) (hs : ¬ fld R a 7 < x) : GD B (nSwa R (iN a) (iN b) x) := by
  have hn := (nM_of h3).2
  obtain ⟨g1, g2, g3, g4⟩ := h
  have la := smN_le (f := swN R) ha
  have lb := smN_le (f := swN R) hb
  obtain ⟨ex, lx⟩ := iN_of hx.1
  obtain ⟨y, hy⟩ : ∃ y, x.toNatClampNeg = y := ⟨_, rfl⟩
  rw [hy] at ex lx
  have y9 : y ≤ 9 := by
    have := hx.2
    rw [ex] at this
    exact (iN_le (m := 9) lx (by decide)).mp this
  have ea := sw_of (g2 a ha)
  have eb := sw_of (g2 b hb)
  have lya : y ≤ swN R a := by
    rw [ea, ex, iN_lt (by omega) lx] at hs
    omega
  have na : fld R a 7 + -x = iN (swN R a - y) := by
    rw [ea, ex, ← Int32.sub_eq_add_neg]
    exact iN_sub (by omega) (by omega)
  have nb : fld R b 7 + x = iN (swN R b + y) := by rw [eb, ex, iN_add]
  unfold nSwa
  rw [iN_nat (by omega), iN_nat (by omega)]
  obtain ⟨T, hT⟩ : ∃ T, radd (radd (rsw R a b) (9 + 10 * a + 7) (-x)) (9 + 10 * b + 7) x = T := ⟨_, rfl⟩
  rw [hT]
  have vT : ∀ j, T j = if j = 9 + 10 * b + 7 then iN (swN R b + y) else if j = 9 + 10 * a + 7 then iN (swN R a - y) else rsw R a b j := by
    intro j
    have r1 : rsw R a b (9 + 10 * a + 7) = fld R a 7 := by rw [rsw_eq, if_neg (by omega), if_neg (by omega)]; rfl
    have r2 : rsw R a b (9 + 10 * b + 7) = fld R b 7 := by rw [rsw_eq, if_neg (by omega), if_neg (by omega)]; rfl
    rw [← hT]
    by_cases q : j = 9 + 10 * b + 7
    · subst q
      rw [if_pos rfl, radd_at, radd_ne (by omega), r2, nb]
    · rw [if_neg q, radd_ne q]
      by_cases q2 : j = 9 + 10 * a + 7
      · subst q2
        rw [if_pos rfl, radd_at, r1, na]
      · rw [if_neg q2, radd_ne q2]
  have T3 : T 3 = R 3 := by rw [vT, if_neg (by omega), if_neg (by omega), rsw_3]
  have T0 : T 0 = R 0 := by rw [vT, if_neg (by omega), if_neg (by omega), rsw_eq, if_neg (by omega), if_neg (by omega)]
  have TN : nM T = nM R := by unfold nM; rw [T3]
  have T9 : T 209 = R 209 := by rw [vT, if_neg (by omega), if_neg (by omega), rsw_eq, if_neg (by omega), if_neg (by omega)]
  have fT : ∀ t f, 3 ≤ f → f < 7 → fld T t f = fld R t f := by
    intro t f f1 f2
    show T (9 + 10 * t + f) = _
    rw [vT, if_neg (by omega), if_neg (by omega)]
    exact (fld_rsw R a b t f (by omega)).trans (if_neg (by omega))
  have f7 : ∀ t, fld T t 7 = iN (if t = b then swN R b + y else if t = a then swN R a - y else swN R t) ∨ ¬ t < nM R := by
    intro t
    by_cases ht : t < nM R
    · refine Or.inl ?_
      show T (9 + 10 * t + 7) = _
      rw [vT]
      by_cases q : t = b
      · subst q; rw [if_pos rfl, if_pos rfl]
      · rw [if_neg (by omega), if_neg q]
        by_cases q2 : t = a
        · subst q2; rw [if_pos rfl, if_pos rfl]
        · rw [if_neg (by omega), if_neg q2, ← sw_of (g2 t ht)]
          exact (fld_rsw R a b t 7 (by omega)).trans (if_neg (by omega))
    · exact Or.inr ht
  have f7' : ∀ t, t < nM R → fld T t 7 = iN (if t = b then swN R b + y else if t = a then swN R a - y else swN R t) := fun t ht => (f7 t).resolve_right (fun q => q ht)
  have lt7 : ∀ t, t < nM R → (if t = b then swN R b + y else if t = a then swN R a - y else swN R t) ≤ 1000009 := by
    intro t ht
    have := smN_le (f := swN R) ht
    split
    · omega
    · split <;> omega
  have sT : ∀ t, t < nM R → swN T t = if t = b then swN R b + y else if t = a then swN R a - y else swN R t := by
    intro t ht
    unfold swN
    rw [f7' t ht, iN_nat (by have := lt7 t ht; omega)]
    rfl
  have gT : GD B T := by
    refine ⟨fun t ht => ?_, fun t ht => ?_, ?_, by rw [T0]; exact g4⟩
    · rw [TN] at ht
      rw [fT t 3 (by decide) (by decide), fT t 4 (by decide) (by decide), fT t 5 (by decide) (by decide), fT t 6 (by decide) (by decide)]
      exact g1 t ht
    · rw [TN] at ht
      rw [f7' t ht]
      exact (iN_le (k := 0) (by decide) (by have := lt7 t ht; omega)).mpr (by omega)
    · rw [TN, smN_cg sT]
      have u1 := smN_up (f := swN R) (g := fun t => if t = a then swN R a - y else swN R t) (t := a) ha (fun j hj q => if_neg q)
      have u2 := smN_up (f := fun t => if t = a then swN R a - y else swN R t) (g := fun t => if t = b then swN R b + y else if t = a then swN R a - y else swN R t) (t := b) hb (fun j hj q => if_neg q)
      simp only [if_pos] at u1 u2
      rw [if_neg (fun q => hne q.symm)] at u2
      omega
  have hT3 : 0 ≤ T 3 ∧ T 3 ≤ 20 := by rw [T3]; exact h3
  have hT9 : 0 ≤ T 209 ∧ T 209 ≤ 40 := by rw [T9]; exact h9
  unfold radd
  refine GD_te (GD_hd (GD_hd gT (by decide) (by decide) (by decide)) (by decide) (by decide) (by decide)) (te_b (te_b hT3 (by decide)) (by decide)) ?_
  rw [rup_ne (by omega), rup_ne (by omega)]
  exact hT9
theorem GD_mov {B a : Nat} {R : gW} {x : Int32} (h : GD B R) (h3 : 0 ≤ R 3 ∧ R 3 ≤ 20) (h9 : 0 ≤ R 209 ∧ R 209 ≤ 40) (ha : a < nM R) : GD B (nMov R (iN a) x) := by
  have hn := (nM_of h3).2
  unfold nMov radd
  rw [iN_nat (by omega)]
  refine GD_te (GD_hd (GD_seat h) (by decide) (by decide) (by decide)) (te_b (te_b h3 (by omega)) (by decide)) ?_
  rw [rup_ne (by omega), rup_ne (by omega)]
  exact h9
theorem GD_rin {B a b c : Nat} {R : gW} (h : GD B R) (h3 : 0 ≤ R 3 ∧ R 3 ≤ 20) (h9 : 0 ≤ R 209 ∧ R 209 ≤ 40) (ha : a < nM R) (hb : b < nM R) (hc : c < nM R) (hd : a ≠ b ∧ b ≠ c ∧ a ≠ c) : GD B (nRin R (iN a) (iN b) (iN c)) := by
  have hn := (nM_of h3).2
  unfold nRin radd
  rw [iN_nat (by omega), iN_nat (by omega), iN_nat (by omega)]
  refine GD_te (GD_hd (GD_rtu h hd) (by decide) (by decide) (by decide)) (te_b (by rw [rtu_3 hd]; exact h3) (by decide)) ?_
  rw [rup_ne (by omega), rtu_eq hd, if_neg (by omega), if_neg (by omega), if_neg (by omega)]
  exact h9
theorem GD_fir {B : Nat} {R : gW} {f : Int32} (h : GD B R) (h3 : 0 ≤ R 3 ∧ R 3 ≤ 20) (h9 : 0 ≤ R 209 ∧ R 209 ≤ 40) : GD B (nFir R f) := by
  unfold nFir
  refine GD_te (GD_hd h (by decide) (by decide) (by decide)) (te_b h3 (by decide)) ?_
  rw [rup_ne (by omega)]
  exact h9
theorem GD_nx {B : Nat} {R : gW} (h : GD B R) (h3 : 0 ≤ R 3 ∧ R 3 ≤ 20) (hb : ¬ fBest R < 0) : GD B (fNx R) ∧ fNx R 3 = R 3 ∧ fNx R 209 = R 209 := by
  have hn := (nM_of h3).2
  rcases fBest_of R with q | ⟨a, b, ha, hb2, q⟩
  · rw [q] at hb; exact absurd (by decide) hb
  · obtain ⟨d1, d2, -⟩ := dm100 a (by omega) b (by omega)
    have e : fNx R = rsw R a b := by
      unfold fNx
      rw [q, d2, d1, iN_nat (by omega), iN_nat (by omega)]
    rw [e]
    exact ⟨GD_rsw h, rsw_3 _ _ _, by rw [rsw_eq, if_neg (by omega), if_neg (by omega)]⟩
theorem GD_St {B : Nat} : ∀ {d : Nat} {R : gW}, GD B R → (0 ≤ R 3 ∧ R 3 ≤ 20) → GD B (fSt d R).2 ∧ (fSt d R).2 3 = R 3 ∧ (fSt d R).2 209 = R 209
  | 0, R, h, _ => ⟨h, rfl, rfl⟩
  | d + 1, R, h, h3 => by
    by_cases hb : fBest R < 0
    · rw [fSt_lt hb]
      exact ⟨h, rfl, rfl⟩
    · rw [fSt_ge hb]
      obtain ⟨x1, x2, x3⟩ := GD_nx h h3 hb
      obtain ⟨i1, i2, i3⟩ := GD_St (d := d) x1 (by rw [x2]; exact h3)
      exact ⟨i1, i2.trans x2, i3.trans x3⟩
theorem GD_stl {B : Nat} {R : gW} (h : GD B R) (h3 : 0 ≤ R 3 ∧ R 3 ≤ 20) (h9 : 0 ≤ R 209 ∧ R 209 ≤ 40) : GD B (nStl R) := by
  obtain ⟨x1, x2, x3⟩ := GD_St (d := 99) h h3
  unfold nStl radd
  refine GD_te (GD_hd x1 (by decide) (by decide) (by decide)) (te_b (by rw [x2]; exact h3) (by decide)) ?_
  rw [rup_ne (by omega), x3]
  exact h9
end
section
-- text 65
/-! ROWS: kept within their bounds by set, stations, come -/
theorem inR_b {R : gW} {w v : Int32} (h0 : 2 ≤ R 0 ∧ R 0 ≤ 10) (h : inR R w v) : (fof w = 3 → -9 ≤ v ∧ v ≤ 9) ∧ (fof w = 4 → -9 ≤ v ∧ v ≤ 9) ∧ (fof w = 5 → 0 ≤ v ∧ v ≤ 9) ∧ (fof w = 6 → 0 ≤ v ∧ v ≤ 3) := by
  have f0 : fof 0 = 3 := by decide
  have f1 : fof 1 = 4 := by decide
  have f2 : fof 2 = 5 := by decide
  have f3 : fof 3 = 6 := by decide
  have f4 : fof 4 = 1 := by decide
  have a1 := h0.1
  have a2 := h0.2
  rcases h with z | z | z | z
  · rcases z.1 with e | e <;> subst e
    · rw [f0]; exact ⟨fun _ => z.2, fun q => absurd q (by decide), fun q => absurd q (by decide), fun q => absurd q (by decide)⟩
    · rw [f1]; exact ⟨fun q => absurd q (by decide), fun _ => z.2, fun q => absurd q (by decide), fun q => absurd q (by decide)⟩
  · obtain ⟨e, z1, z2⟩ := z
    subst e
    rw [f2]
    exact ⟨fun q => absurd q (by decide), fun q => absurd q (by decide), fun _ => ⟨z1, by grind⟩, fun q => absurd q (by decide)⟩
  · obtain ⟨e, z1⟩ := z
    subst e
    rw [f3]
    exact ⟨fun q => absurd q (by decide), fun q => absurd q (by decide), fun q => absurd q (by decide), fun _ => z1⟩
  · obtain ⟨e, z1⟩ := z
    subst e
    rw [f4]
    exact ⟨fun q => absurd q (by decide), fun q => absurd q (by decide), fun q => absurd q (by decide), fun q => absurd q (by decide)⟩
theorem GD_set {B t : Nat} {R : gW} {w v : Int32} (h : GD B R) (h3 : 0 ≤ R 3 ∧ R 3 ≤ 20) (h9 : 0 ≤ R 209 ∧ R 209 ≤ 40) (ht : t < nM R) (hw : inR R w v) : GD B (nSet R (iN t) w v) := by
  have hn := (nM_of h3).2
  have fl := fof_le hw
  obtain ⟨b3, b4, b5, b6⟩ := inR_b h.2.2.2 hw
  unfold nSet
  rw [iN_nat (by omega)]
  have vf : ∀ s f, f < 10 → fld (rup R (9 + 10 * t + fof w) v) s f = if s = t ∧ f = fof w then v else fld R s f := by
    intro s f hf
    unfold fld rup
    by_cases q : s = t ∧ f = fof w
    · rw [if_pos q, if_pos (by omega)]
    · rw [if_neg q, if_neg (by omega)]
  have eN : nM (rup R (9 + 10 * t + fof w) v) = nM R := by unfold nM; rw [rup_ne (by omega)]
  refine GD_te ?_ (te_b h3 (by omega)) (by rw [rup_ne (by omega)]; exact h9)
  obtain ⟨g1, g2, g3, g4⟩ := h
  refine ⟨fun s hs => ?_, fun s hs => ?_, ?_, by rw [rup_ne (by omega)]; exact g4⟩
  · rw [eN] at hs
    rw [vf s 3 (by decide), vf s 4 (by decide), vf s 5 (by decide), vf s 6 (by decide)]
    obtain ⟨q3, q4, q5, q6⟩ := g1 s hs
    refine ⟨?_, ?_, ?_, ?_⟩
    · split
      · rename_i z; exact b3 z.2.symm
      · exact q3
    · split
      · rename_i z; exact b4 z.2.symm
      · exact q4
    · split
      · rename_i z; exact b5 z.2.symm
      · exact q5
    · split
      · rename_i z; exact b6 z.2.symm
      · exact q6
  · rw [eN] at hs
    rw [vf s 7 (by decide), if_neg (by omega)]
    exact g2 s hs
  · rw [eN, smN_cg (g := swN R) (fun j hj => by unfold swN; rw [vf j 7 (by decide), if_neg (by omega)])]
    exact g3
/-- one gets off -/
theorem fOff_f {R : gW} {t s f : Nat} (hb : bN R) (ht : t < nM R) (hs : s < nM R - 1) (hf : f < 10) : fld (fOff R t) s f = fld R (if s < t then s else s + 1) f := by
  obtain ⟨e, l⟩ := nM_of hb.1
  unfold fOff fld
  rw [radd_ne (by omega)]
  unfold csh
  by_cases q : s < t
  · rw [if_pos q, if_neg (by omega), radd_ne (by omega), fTe_ne hb.2 (by omega)]
  · rw [if_neg q, if_pos (by omega), radd_ne (by omega), fTe_ne hb.2 (by omega), show 9 + 10 * s + f + 10 = 9 + 10 * (s + 1) + f by omega]
theorem GD_off {B t : Nat} {R : gW} (h : GD B R) (hb : bN R) (ht : t < nM R) : GD B (fOff R t) := by
  obtain ⟨e, l⟩ := nM_of hb.1
  obtain ⟨g1, g2, g3, g4⟩ := h
  have eN : nM (fOff R t) = nM R - 1 := nM_iN (fOff_3 hb ht) (by omega)
  have e0 : fOff R t 0 = R 0 := by
    unfold fOff
    rw [radd_ne (by decide), csh_lo (by omega), radd_ne (by decide), fTe_ne hb.2 (by omega)]
  have lo : ∀ s, s < nM R - 1 → (if s < t then s else s + 1) < nM R := fun s hs => by split <;> omega
  refine ⟨fun s hs => ?_, fun s hs => ?_, ?_, by rw [e0]; exact g4⟩
  · rw [eN] at hs
    rw [fOff_f hb ht hs (by decide), fOff_f hb ht hs (by decide), fOff_f hb ht hs (by decide), fOff_f hb ht hs (by decide)]
    exact g1 _ (lo s hs)
  · rw [eN] at hs
    rw [fOff_f hb ht hs (by decide)]
    exact g2 _ (lo s hs)
  · rw [eN, smN_cg (g := fun j => swN R (if j < t then j else j + 1)) (fun j hj => by unfold swN; rw [fOff_f hb ht hj (by decide)])]
    have d := smN_del (f := swN R) (t := t) (n := nM R - 1) (by omega)
    rw [show nM R - 1 + 1 = nM R by omega] at d
    omega
theorem GD_stpN {B : Nat} : ∀ {k : Nat} {R : gW}, GD B R → bN R → k ≤ nM R → GD B (stpN k R) ∧ bN (stpN k R)
  | 0, R, h, hb, _ => ⟨h, hb⟩
  | k + 1, R, h, hb, hk => by
    obtain ⟨b1, b2⟩ := stp1_b hb (k := k) (by omega)
    have g : GD B (stp1 R k) := by
      unfold stp1
      split
      · exact GD_off h hb (by omega)
      · exact h
    exact GD_stpN (k := k) g b1 b2
theorem GD_stm {B : Nat} {R : gW} (h : GD B R) (hb : bN R) : ∀ k, GD B (stm k R) ∧ bN (stm k R)
  | 0 => ⟨h, hb⟩
  | k + 1 => by
    obtain ⟨i1, i2⟩ := GD_stm h hb k
    have b2 : bN (radd (stm k R) 2 1) := ⟨by rw [radd_ne (by decide)]; exact i2.1, by rw [radd_ne (by decide)]; exact i2.2⟩
    exact GD_stpN (GD_hd i1 (by decide) (by decide) (by decide)) b2 (by rw [nM_radd2]; exact Nat.le_refl _)
-- text 66
/-! ROWS: kept within their bounds by come; the relation of the heaps -/
theorem GD_com {B : Nat} {R : gW} {x k f w s nm : Int32} (h : GD B R) (h3 : 0 ≤ R 3 ∧ R 3 ≤ 20) (h9 : 0 ≤ R 209 ∧ R 209 ≤ 40) (h20 : R 3 < 20) (hw : 0 ≤ w ∧ w ≤ 99) : GD (B + 99) (nCom R x k f w s nm) := by
  obtain ⟨n, hN⟩ : ∃ n, nM R = n := ⟨_, rfl⟩
  have e3 : R 3 = iN n := by rw [← hN]; exact (nM_of h3).1
  have n20' : n < 20 := by
    have hn := (nM_of h3).2
    rw [e3] at h20
    exact (iN_lt (m := 20) (by omega) (by decide)).mp h20
  obtain ⟨S, hS⟩ : ∃ S, radd (rup (rup (rup (rup (fNew R x nm) (9 + 10 * n + 1) k) (9 + 10 * n + 2) f) (9 + 10 * n + 7) w) (9 + 10 * n + 8) s) 3 1 = S := ⟨_, rfl⟩
  have vS : ∀ j, ¬ j = 3 → S j = if j = 9 + 10 * n + 8 then s else if j = 9 + 10 * n + 7 then w else if j = 9 + 10 * n + 2 then f else if j = 9 + 10 * n + 1 then k else if j = 9 + 10 * n + 9 then nm else if j = 9 + 10 * n + 0 then x else if 9 + 10 * n ≤ j ∧ j < 9 + 10 * n + 10 then 0 else R j := by
    intro j hj
    rw [← hS, radd_ne hj]
    unfold fNew zsh rup
    rw [hN]
    grind (splits := 40)
  have S3 : S 3 = iN (n + 1) := by
    rw [← hS, radd_at, rup_ne (by omega), rup_ne (by omega), rup_ne (by omega), rup_ne (by omega), fNew_ne (by omega), e3]
    exact iN_one n
  have SN : nM S = n + 1 := nM_iN S3 (by omega)
  have old : ∀ t, t < n → ∀ g, g < 10 → fld S t g = fld R t g := by
    intro t ht g hg
    show S (9 + 10 * t + g) = R (9 + 10 * t + g)
    rw [vS _ (by omega), if_neg (by omega), if_neg (by omega), if_neg (by omega), if_neg (by omega), if_neg (by omega), if_neg (by omega), if_neg (by omega)]
  have new : ∀ g, 3 ≤ g → g < 7 → fld S n g = 0 := by
    intro g h1 h2
    show S (9 + 10 * n + g) = 0
    rw [vS _ (by omega), if_neg (by omega), if_neg (by omega), if_neg (by omega), if_neg (by omega), if_neg (by omega), if_neg (by omega), if_pos (by omega)]
  have n7 : fld S n 7 = w := by
    show S (9 + 10 * n + 7) = w
    rw [vS _ (by omega), if_neg (by omega), if_pos rfl]
  have S0 : S 0 = R 0 := by
    rw [vS _ (by omega), if_neg (by omega), if_neg (by omega), if_neg (by omega), if_neg (by omega), if_neg (by omega), if_neg (by omega), if_neg (by omega)]
  have S9 : S 209 = R 209 := by
    rw [vS _ (by omega), if_neg (by omega), if_neg (by omega), if_neg (by omega), if_neg (by omega), if_neg (by omega), if_neg (by omega), if_neg (by omega)]
  obtain ⟨g1, g2, g3, g4⟩ := h
  rw [hN] at g3
  have gS : GD (B + 99) S := by
    refine ⟨fun t ht => ?_, fun t ht => ?_, ?_, by rw [S0]; exact g4⟩
    · rw [SN] at ht
      by_cases q : t < n
      · rw [old t q 3 (by decide), old t q 4 (by decide), old t q 5 (by decide), old t q 6 (by decide)]
        exact g1 t (by omega)
      · have : t = n := by omega
        subst this
        rw [new 3 (by decide) (by decide), new 4 (by decide) (by decide), new 5 (by decide) (by decide), new 6 (by decide) (by decide)]
        decide
    · rw [SN] at ht
      by_cases q : t < n
      · rw [old t q 7 (by decide)]
        exact g2 t (by omega)
      · have : t = n := by omega
        subst this
        rw [n7]
        exact hw.1
    · rw [SN]
      show smN (swN S) n + swN S n ≤ B + 99
      rw [smN_cg (g := swN R) (fun j hj => by unfold swN; rw [old j hj 7 (by decide)])]
      have : swN S n ≤ 99 := by
        unfold swN
        rw [n7]
        obtain ⟨ew, lw⟩ := iN_of hw.1
        have h2 := hw.2
        rw [ew] at h2
        exact (iN_le (m := 99) lw (by decide)).mp h2
      omega
  unfold nCom
  rw [hN, hS]
  refine GD_te gS ?_ (by rw [S9]; exact h9)
  rw [S3]
  exact ⟨(iN_le (k := 0) (by decide) (by omega)).mpr (by omega), (iN_le (m := 20) (by omega) (by decide)).mpr (by omega)⟩
/-- the slots: what is kept is kept in both -/
def SL (B : Nat) (σ : gS) : Prop := (∀ s, s < 2 → σ 112 s = σ 329 s ∧ (0 ≤ σ (60 + 26 * s) 7 ∧ σ (60 + 26 * s) 7 ≤ 20) ∧ (¬ σ 112 s = 0 → SV σ (60 + 26 * s) (rowAt (σ 328) s) ∧ GD B (rowAt (σ 328) s)))
/-- what was: both remember the same, and it is good -/
def PG (B : Nat) (σ : gS) : Prop := PR σ ∧ (∀ u, u < (σ 113 2).toNatClampNeg → GD B (rowAt (σ 327) u)) ∧ ∀ j, j < 8 → 0 ≤ σ (115 + 26 * j) 7 ∧ σ (115 + 26 * j) 7 ≤ 20
/-- the relation of class and reference between two calls -/
def GR (B : Nat) (σ : gS) : Prop := SV σ 6 (σ 324) ∧ GD B (σ 324) ∧ PG B σ ∧ SL B σ ∧ TP σ ∧ σ 0 9 = σ 323 9 ∧ RS σ ∧ RZ σ ∧ RT σ
end
section
-- text 67
/-! RELATION: kept by a call that is remembered -/
theorem fKe_row {N E : gW} {C i : Nat} (hC : C ≤ 8) (hi : i < if C = 8 then 8 else C + 1) : (∃ j, j < C ∧ ∀ x, x < 330 → rowAt (fKe N E (iN C)) i x = rowAt E j x) ∨ ∀ x, x < 330 → rowAt (fKe N E (iN C)) i x = N x := by
  unfold fKe
  by_cases h8 : C = 8
  · subst h8
    rw [if_pos rfl] at hi
    rw [if_pos (show (iN 8 : Int32) = 8 from rfl)]
    by_cases q : i = 7
    · refine Or.inr (fun x hx => ?_)
      rw [rowAt_lt hx, q]
      exact rla_in (b := 2310) hx
    · refine Or.inl ⟨i + 1, by omega, fun x hx => ?_⟩
      rw [rowAt_lt hx, rowAt_lt hx, rla_hi (by omega)]
      unfold esh
      rw [if_pos (by omega), show 330 * i + x + 330 = 330 * (i + 1) + x by omega]
  · rw [if_neg h8] at hi
    rw [if_neg (show ¬ iN C = (8 : Int32) from iN_eq (a := C) (b := 8) (by omega) (by decide) h8), iN_nat (by omega)]
    by_cases q : i = C
    · refine Or.inr (fun x hx => ?_)
      rw [rowAt_lt hx, q]
      exact rla_in hx
    · refine Or.inl ⟨i, by omega, fun x hx => ?_⟩
      rw [rowAt_lt hx, rowAt_lt hx, rla_hi (by omega)]
theorem GD_row {B : Nat} {R S : gW} (h : GD B R) (h3 : 0 ≤ R 3 ∧ R 3 ≤ 20) (hs : ∀ j, j < 330 → S j = R j) : GD B S := by
  have hn := (nM_of h3).2
  exact GD_cg h (by unfold nM; rw [hs 3 (by decide)]) (hs 0 (by decide)) (fun t ht f f1 f2 => hs _ (by omega))
theorem cRem_7 {σ : gS} (hp : bPa σ) (h7 : 0 ≤ σ 6 7 ∧ σ 6 7 ≤ 20) (h : ∀ j, j < 8 → 0 ≤ σ (115 + 26 * j) 7 ∧ σ (115 + 26 * j) 7 ≤ 20) : ∀ j, j < 8 → 0 ≤ cRem σ (115 + 26 * j) 7 ∧ cRem σ (115 + 26 * j) 7 ≤ 20 := by
  have n7 := (c20 h7).2
  intro j hj
  have key : 0 ≤ cCo σ (cPl σ (σ 113 2).toNatClampNeg) 6 (115 + 26 * j) 7 ∧ cCo σ (cPl σ (σ 113 2).toNatClampNeg) 6 (115 + 26 * j) 7 ≤ 20 := by
    unfold cPl
    have hm : ((σ 113 1).toNatClampNeg + (σ 113 2).toNatClampNeg) % 8 < 8 := Nat.mod_lt _ (by decide)
    by_cases q : j = ((σ 113 1).toNatClampNeg + (σ 113 2).toNatClampNeg) % 8
    · rw [← q, cCo_hd (Or.inl (by omega)) n7 (by decide) (by decide)]
      exact h7
    · rw [cCo_far (by omega) n7]
      exact h j hj
  unfold cRem
  split
  · rw [gup_ne (by omega)]; exact key
  · rw [gup_ne (by omega)]; exact key
/-- what was stays good when the train of now is remembered -/
theorem PG_keep {B B' : Nat} {σ τ : gS} (hB : B ≤ B') (h : PG B σ) (h6 : SV σ 6 (σ 324)) (hG : GD B (σ 324)) (hq : ∀ q, 113 ≤ q → q < 323 → τ q = cRem σ q) (hE : τ 327 = fKe (σ 324) (σ 327) (σ 323 6)) (hU : τ 323 6 = fKu (σ 323 6)) : PG B' τ := by
  obtain ⟨hP, hg, h7⟩ := h
  have nP := PR_keep hP h6 hq hE hU
  obtain ⟨b3, bn, e7⟩ := SV_3 h6
  obtain ⟨hp, hu, hs⟩ := hP
  obtain ⟨O, C, eo, ec, lo, lc, no, nc⟩ := bPa_n hp
  have eU : σ 323 6 = iN C := by rw [← hu]; exact ec
  refine ⟨nP, fun u hu2 => ?_, fun j hj => ?_⟩
  · have eC : (τ 113 2).toNatClampNeg = if C = 8 then 8 else C + 1 := by
      rw [nP.2.1, hU, eU]
      unfold fKu
      by_cases h8 : C = 8
      · subst h8
        rw [if_pos rfl, if_pos (show (iN 8 : Int32) = 8 from rfl)]
        rfl
      · rw [if_neg h8, if_neg (show ¬ iN C = (8 : Int32) from iN_eq (a := C) (b := 8) (by omega) (by decide) h8), iN_one, iN_nat (by omega)]
    rw [eC] at hu2
    rw [hE, eU]
    rcases fKe_row (N := σ 324) (E := σ 327) lc hu2 with ⟨j, hj, e⟩ | e
    · have gj := hg j (by rw [nc]; exact hj)
      have sj := hs j (by rw [nc]; exact hj)
      exact GD_mono (GD_row gj (SV_3 sj).1 e) hB
    · exact GD_mono (GD_row hG b3 e) hB
  · rw [hq _ (by omega) (by omega)]
    exact cRem_7 hp (by rw [e7]; exact b3) h7 j hj
/-- the slots stay as they are -/
theorem SL_same {B B' : Nat} {σ τ : gS} (hB : B ≤ B') (h : SL B σ) (hq : ∀ q, 60 ≤ q → q < 113 → τ q = σ q) (h8 : τ 328 = σ 328) (h9 : τ 329 = σ 329) : SL B' τ := by
  intro s hs
  obtain ⟨a1, a2, a3⟩ := h s hs
  rw [hq 112 (by decide) (by decide), h9, h8, hq (60 + 26 * s) (by omega) (by omega)]
  refine ⟨a1, a2, fun q => ?_⟩
  obtain ⟨c1, c2⟩ := a3 q
  exact ⟨SV_blk c1 (fun q q1 q2 => hq q (by omega) (by omega)), GD_mono c2 hB⟩
theorem SV_bN {σ : gS} {p : Nat} {R : gW} (h : SV σ p R) : bN R := SV_b h
theorem fKu_b {u : Int32} (h : 0 ≤ u ∧ u ≤ 8) : 0 ≤ fKu u ∧ fKu u ≤ 8 := by
  unfold fKu
  have := h.1
  have := h.2
  grind
/-- a call that goes through and is remembered: the relation is kept -/
theorem GR_op {B B' : Nat} {σ τ : gS} {N : gW} (h : GR B σ) (hB : B ≤ B') (hS : SV τ 6 N) (hG : GD B' N) (hz : zR N) (hN : τ 324 = N) (hpast : ∀ q, 113 ≤ q → q < 323 → τ q = cRem σ q) (hslot : ∀ q, 60 ≤ q → q < 113 → τ q = σ q) (h0 : τ 0 9 = σ 0 9)
    (hE : τ 327 = fKe (σ 324) (σ 327) (σ 323 6)) (hU : τ 323 6 = fKu (σ 323 6)) (h9 : τ 323 9 = σ 323 9) (h28 : τ 328 = σ 328) (h29 : τ 329 = σ 329) (h25 : τ 325 = σ 325) (h26 : τ 326 = σ 326 ∨ zR (τ 326)) (hT : TP τ) (hRT : RT τ) : GR B' τ := by
  obtain ⟨g1, g2, g3, g4, g5, g6, g7, g8, g9⟩ := h
  refine ⟨by rw [hN]; exact hS, by rw [hN]; exact hG, PG_keep hB g3 g1 g2 hpast hE hU, SL_same hB g4 hslot h28 h29, hT, by rw [h0, h9]; exact g6, ⟨by rw [hN]; exact SV_b hS, by rw [hU]; exact fKu_b g7.2⟩, ⟨by rw [hN]; exact hz, by rw [h25]; exact g8.2.1, ?_⟩, hRT⟩
  rcases h26 with q | q
  · rw [q]; exact g8.2.2
  · exact q
-- text 68
/-! RELATION: swaps -/
theorem zR_rup {R : gW} {k : Nat} {x : Int32} (h : zR R) (hk : k < 330) : zR (rup R k x) := fun j hj => by rw [rup_ne (by omega)]; exact h j hj
theorem zR_te {R : gW} {w a b : Int32} (h : zR R) (h9 : 0 ≤ R 209 ∧ R 209 ≤ 40) : zR (fTe R w a b) := fun j hj => by rw [fTe_ne h9 (Or.inr hj)]; exact h j hj
theorem zR_rsw {R : gW} {a b : Nat} (h : zR R) (ha : a < 20) (hb : b < 20) : zR (rsw R a b) := fun j hj => by rw [rsw_eq, if_neg (by omega), if_neg (by omega)]; exact h j hj
theorem zR_rtu {R : gW} {a b c : Nat} (h : zR R) (hd : a ≠ b ∧ b ≠ c ∧ a ≠ c) (ha : a < 20) (hb : b < 20) (hc : c < 20) : zR (rtu R a b c) := fun j hj => by rw [rtu_eq hd, if_neg (by omega), if_neg (by omega), if_neg (by omega)]; exact h j hj
/-- what a call needs of the class -/
theorem GR_SC {B : Nat} {σ : gS} (h : GR B σ) : SC σ ∧ bF (cR σ 6) := by
  obtain ⟨g1, g2, g3, g4, g5, g6, g7, g8, g9⟩ := h
  refine ⟨⟨g1.2.1, g3.1.1, g1.2.2.1.1, ?_⟩, fun t ht => ?_⟩
  · rw [g1.1.1 0 (by decide)]
    exact g2.2.2.2
  · rw [g1.1.2 t ht 3 (by decide), g1.1.2 t ht 4 (by decide), g1.1.2 t ht 5 (by decide), g1.1.2 t ht 6 (by decide)]
    exact g2.1 t (by rw [← agr_n g1.1]; exact ht)
/-- a remembered call, the class first, then the reference -/
theorem GR_call {B B' : Nat} {σ ρ : gS} {N : gW} (h : GR B σ) (hB : B ≤ B') (hρ : ∀ q, q < 6 ∨ 32 ≤ q → ρ q = cRem σ q) (hS : SV ρ 6 N) (hG : GD B' N) (hz : zR N) : GR B' (grow (hKe ρ) 324 N) := by
  have h' := h
  obtain ⟨g1, g2, g3, g4, g5, g6, g7, g8, g9⟩ := h'
  obtain ⟨b3, bn, e7⟩ := SV_3 g1
  have h7 : 0 ≤ σ 6 7 ∧ σ 6 7 ≤ 20 := by rw [e7]; exact b3
  have hi : ∀ q, 323 ≤ q → ρ q = σ q := fun q hq => by rw [hρ q (by omega), cRem_far (Or.inr hq) h7]
  have lo : ∀ q, q < 6 ∨ (32 ≤ q ∧ q < 113) → ρ q = σ q := fun q hq => by rw [hρ q (by omega), cRem_far (Or.inl (by omega)) h7]
  have t : ∀ q, ¬ q = 323 → ¬ q = 324 → ¬ q = 327 → grow (hKe ρ) 324 N q = ρ q := fun q q1 q2 q3 => by rw [grow_ne q2, hKe_ne q1 q3]
  have e323 : grow (hKe ρ) 324 N 323 = rup (σ 323) 6 (fKu (σ 323 6)) := by
    rw [grow_ne (by decide)]
    unfold hKe
    rw [grow_at, hi 323 (by decide)]
  refine GR_op (N := N) h hB (SV_blk hS (fun q q1 q2 => t q (by omega) (by omega) (by omega))) hG hz (grow_at _ _ _) (fun q q1 q2 => ?_) (fun q q1 q2 => ?_) ?_ ?_ ?_ ?_ ?_ ?_ ?_ (Or.inl ?_) ?_ ?_
  · rw [t q (by omega) (by omega) (by omega)]; exact hρ q (by omega)
  · rw [t q (by omega) (by omega) (by omega)]; exact lo q (by omega)
  · rw [t 0 (by decide) (by decide) (by decide), lo 0 (by decide)]
  · rw [grow_ne (by decide)]
    unfold hKe
    rw [grow_ne (by decide), grow_at, hi 324 (by decide), hi 327 (by decide), hi 323 (by decide)]
  · rw [e323, rup_at]
  · rw [e323, rup_ne (by decide)]
  · rw [t 328 (by decide) (by decide) (by decide), hi 328 (by decide)]
  · rw [t 329 (by decide) (by decide) (by decide), hi 329 (by decide)]
  · rw [t 325 (by decide) (by decide) (by decide), hi 325 (by decide)]
  · rw [t 326 (by decide) (by decide) (by decide), hi 326 (by decide)]
  · obtain ⟨q1, q2, q3⟩ := g5
    unfold TP
    rw [t 2 (by decide) (by decide) (by decide), lo 2 (by decide), t 3 (by decide) (by decide) (by decide), lo 3 (by decide), t 330 (by decide) (by decide) (by decide), hi 330 (by decide), e323, rup_ne (by decide)]
    exact ⟨q1, q2, q3⟩
  · show 0 ≤ _ ∧ _
    rw [e323, rup_ne (by decide)]
    exact g9
theorem cSit_far {σ : gS} {p t q : Nat} {x : Int32} (h : ¬ q = p + 23) (h2 : ¬ q = p + 2 + t) : cSit σ p t x q = σ q := by
  unfold cSit
  rw [cCnt_off h]
  funext j
  rw [gup_ne (by omega), cCnt_off h]
theorem cExS_far {σ : gS} {p a b q : Nat} (h : q < p ∨ p + 26 ≤ q) (ha : a < 20) (hb : b < 20) : cExS σ p a b q = σ q := by
  unfold cExS
  rw [cSit_far (by omega) (by omega), cSit_far (by omega) (by omega)]
theorem cDsw_far {σ : gS} {a b q : Nat} {x : Int32} (h : q < 6 ∨ 32 ≤ q) (ha : a < 20) (hb : b < 20) : cDsw σ a b x q = σ q := by
  unfold cDsw
  rw [cAdd_far (by omega) (by omega)]
  funext j
  rw [gad_ne (by omega), gad_ne (by omega), gad_ne (by omega), gad_ne (by omega), cExS_far (by omega) ha hb]
/-- the class remembers: the train is as it was -/
theorem SV_rem {σ : gS} {R : gW} (h : SV σ 6 R) : SV (cRem σ) 6 R := by
  obtain ⟨b3, bn, e7⟩ := SV_3 h
  exact SV_blk h (fun q q1 q2 => cRem_far (Or.inl (by omega)) (by rw [e7]; exact b3))
theorem isT_n {R : gW} {t : Int32} (h3 : 0 ≤ R 3 ∧ R 3 ≤ 20) (h : isT R t) : t = iN t.toNatClampNeg ∧ t.toNatClampNeg < nM R := by
  have ht := isT_of h3 h
  obtain ⟨e, l⟩ := t20 ht
  have h2 : t < R 3 := by have := h.2; have := h3.1; have := h3.2; grind
  rw [e] at h2
  exact ⟨e, (nM_lt h3 (by omega)).mp h2⟩
theorem agr_isT {R S : gW} (h : agr R S) (t : Int32) : isT R t ↔ isT S t := by unfold isT; rw [h.1 3 (by decide)]
theorem agr_isP {R S : gW} (h : agr R S) (a b : Int32) : isP R a b ↔ isP S a b := by unfold isP; rw [agr_isT h a, agr_isT h b]
end
section
-- text 69
/-! RELATION: swap, move, ring, first keep it, with equal answers -/
/-- both sides of one call -/
def clS (σ : gS) (a b x : Int32) : gS := if gSwa (cR σ 6) a b x then cDsw (cRem σ) a.toNatClampNeg b.toNatClampNeg x else σ
theorem agr_swa {R S : gW} (h3 : 0 ≤ R 3 ∧ R 3 ≤ 20) (h : agr R S) (a b x : Int32) : (gSwa R a b x ↔ gSwa S a b x) ∧ aSwa R a b x = aSwa S a b x := by
  have eP := agr_isP h a b
  by_cases hp : isP R a b
  · have na := (isT_n h3 hp.1.1).2
    have nb := (isT_n h3 hp.1.2).2
    have w := agr_Why h na nb x
    have r1 := agr_Rise h na nb na
    have r2 := agr_Rise h na nb nb
    have eG : gSwa R a b x ↔ gSwa S a b x := by
      unfold gSwa
      rw [w, eP]
    refine ⟨eG, ?_⟩
    unfold aSwa
    rw [w, r1, r2]
    by_cases q : isP R a b ∧ 0 ≤ x ∧ x ≤ 9
    · rw [if_pos q, if_pos (show isP S a b ∧ 0 ≤ x ∧ x ≤ 9 from ⟨eP.mp q.1, q.2⟩)]
    · rw [if_neg q, if_neg (show ¬ (isP S a b ∧ 0 ≤ x ∧ x ≤ 9) from fun z => q ⟨eP.mpr z.1, z.2⟩)]
  · have hp2 : ¬ isP S a b := fun q => hp (eP.mpr q)
    refine ⟨⟨fun q => absurd q.1.1 hp, fun q => absurd q.1.1 hp2⟩, ?_⟩
    unfold aSwa
    rw [if_neg (fun q => hp q.1), if_neg (fun q => hp2 q.1)]
theorem GR_swap {B : Nat} {σ : gS} {a b x : Int32} (h : GR B σ) (hB : B ≤ 1000000) : clS σ a b x 324 = σ 324 ∧ RS (clS σ a b x) ∧ aSwa (cR σ 6) a b x = aSwa (σ 324) a b x ∧ GR B (hOp (clS σ a b x) (gSwa (σ 324) a b x) (nSwa (σ 324) a b x)) := by
  have h' := h
  obtain ⟨g1, g2, g3, g4, g5, g6, g7, g8, g9⟩ := h'
  obtain ⟨b3, bn, e7⟩ := SV_3 g1
  have h7 : 0 ≤ σ 6 7 ∧ σ 6 7 ≤ 20 := by rw [e7]; exact b3
  obtain ⟨eG, eA⟩ := agr_swa g1.2.1.1 g1.1 a b x
  unfold clS hOp
  by_cases hg : gSwa (σ 324) a b x
  · have hg' := eG.mpr hg
    rw [if_pos hg', if_pos hg]
    obtain ⟨ea, la⟩ := isT_n b3 hg.1.1.1.1
    obtain ⟨eb, lb⟩ := isT_n b3 hg.1.1.1.2
    have hd : a.toNatClampNeg ≠ b.toNatClampNeg := fun q => hg.1.1.2 (by rw [ea, eb, q])
    obtain ⟨m, hm⟩ : ∃ m, a.toNatClampNeg = m := ⟨_, rfl⟩
    obtain ⟨k, hk⟩ : ∃ k, b.toNatClampNeg = k := ⟨_, rfl⟩
    have hs : ¬ fld (σ 324) m 7 < x := by
      intro q
      apply hg.2
      rw [hm]
      unfold fWhy
      split
      · decide
      · first
        | decide
        | (rw [if_pos q]; decide)
    rw [hm] at ea la hd
    rw [hk] at eb lb hd
    rw [hm, hk]
    subst ea eb
    have far : ∀ q, q < 6 ∨ 32 ≤ q → cDsw (cRem σ) m k x q = cRem σ q := fun q hq => cDsw_far hq (by omega) (by omega)
    have hi : ∀ q, 323 ≤ q → cDsw (cRem σ) m k x q = σ q := fun q hq => by rw [far q (by omega), cRem_far (Or.inr hq) h7]
    have sN := SV_swa (x := x) (SV_rem g1) la lb
    have gN := GD_swa (x := x) g2 b3 g7.1.2 hB la lb hd hg.1.2 hs
    have zN : zR (nSwa (σ 324) (iN m) (iN k) x) := by
      unfold nSwa radd
      rw [iN_nat (by omega), iN_nat (by omega)]
      refine zR_te (zR_rup (zR_rup (zR_rup (zR_rup (zR_rsw g8.1 (by omega) (by omega)) (by omega)) (by omega)) (by decide)) (by decide)) ?_
      rw [rup_ne (by omega), rup_ne (by omega), rup_ne (by omega), rup_ne (by omega), rsw_eq, if_neg (by omega), if_neg (by omega)]
      exact g7.1.2
    refine ⟨hi 324 (by decide), ?_, eA, ?_⟩
    · unfold RS
      rw [hi 324 (by decide), hi 323 (by decide)]
      exact g7
    · exact GR_call h (Nat.le_refl _) far sN gN zN
  · have hg' : ¬ gSwa (cR σ 6) a b x := fun q => hg (eG.mp q)
    rw [if_neg hg', if_neg hg]
    exact ⟨rfl, g7, eA, h⟩
-- text 70
/-! RELATION: move, ring, first -/
def clM (σ : gS) (a x : Int32) : gS := if gMov (cR σ 6) a x then cDmo (cRem σ) a.toNatClampNeg x else σ
theorem agr_isS {R S : gW} (h : agr R S) (x : Int32) : isS R x ↔ isS S x := by unfold isS; rw [h.1 0 (by decide)]
theorem agr_mov {R S : gW} (h3 : 0 ≤ R 3 ∧ R 3 ≤ 20) (h : agr R S) (a x : Int32) : (gMov R a x ↔ gMov S a x) ∧ aMov R a x = aMov S a x := by
  have eT := agr_isT h a
  have eS := agr_isS h x
  by_cases ht : isT R a
  · have na := (isT_n h3 ht).2
    have w := agr_WhyM h na x
    have j1 := agr_Joy h na x
    have j2 := agr_Jo h na
    refine ⟨by unfold gMov; rw [w, eT, eS], ?_⟩
    unfold aMov
    rw [w, j1, j2]
    by_cases q : isT R a ∧ isS R x
    · rw [if_pos q, if_pos (show isT S a ∧ isS S x from ⟨eT.mp q.1, eS.mp q.2⟩)]
    · rw [if_neg q, if_neg (show ¬ (isT S a ∧ isS S x) from fun z => q ⟨eT.mpr z.1, eS.mpr z.2⟩)]
  · have ht2 : ¬ isT S a := fun q => ht (eT.mpr q)
    refine ⟨⟨fun q => absurd q.1.1 ht, fun q => absurd q.1.1 ht2⟩, ?_⟩
    unfold aMov
    rw [if_neg (fun q => ht q.1), if_neg (fun q => ht2 q.1)]
theorem cDmo_far {σ : gS} {a q : Nat} {x : Int32} (h : q < 6 ∨ 32 ≤ q) (ha : a < 20) : cDmo σ a x q = σ q := by
  unfold cDmo
  rw [cAdd_far (by omega) (by omega)]
  funext j
  rw [gad_ne (by omega), cSit_far (by omega) (by omega)]
theorem GR_move {B : Nat} {σ : gS} {a x : Int32} (h : GR B σ) : clM σ a x 324 = σ 324 ∧ RS (clM σ a x) ∧ aMov (cR σ 6) a x = aMov (σ 324) a x ∧ GR B (hOp (clM σ a x) (gMov (σ 324) a x) (nMov (σ 324) a x)) := by
  have h' := h
  obtain ⟨g1, g2, g3, g4, g5, g6, g7, g8, g9⟩ := h'
  obtain ⟨b3, bn, e7⟩ := SV_3 g1
  have h7 : 0 ≤ σ 6 7 ∧ σ 6 7 ≤ 20 := by rw [e7]; exact b3
  obtain ⟨eG, eA⟩ := agr_mov g1.2.1.1 g1.1 a x
  unfold clM hOp
  by_cases hg : gMov (σ 324) a x
  · have hg' := eG.mpr hg
    rw [if_pos hg', if_pos hg]
    obtain ⟨ea, la⟩ := isT_n b3 hg.1.1
    have hx := isS_of g2.2.2.2 hg.1.2
    obtain ⟨m, hm⟩ : ∃ m, a.toNatClampNeg = m := ⟨_, rfl⟩
    rw [hm] at ea la
    rw [hm]
    subst ea
    have far : ∀ q, q < 6 ∨ 32 ≤ q → cDmo (cRem σ) m x q = cRem σ q := fun q hq => cDmo_far hq (by omega)
    have hi : ∀ q, 323 ≤ q → cDmo (cRem σ) m x q = σ q := fun q hq => by rw [far q (by omega), cRem_far (Or.inr hq) h7]
    have sN := SV_mov (SV_rem g1) la hx
    have gN := GD_mov (x := x) g2 b3 g7.1.2 la
    have zN : zR (nMov (σ 324) (iN m) x) := by
      unfold nMov radd
      rw [iN_nat (by omega)]
      refine zR_te (zR_rup (zR_rup g8.1 (by omega)) (by decide)) ?_
      rw [rup_ne (by omega), rup_ne (by omega)]
      exact g7.1.2
    refine ⟨hi 324 (by decide), ?_, eA, ?_⟩
    · unfold RS
      rw [hi 324 (by decide), hi 323 (by decide)]
      exact g7
    · exact GR_call h (Nat.le_refl _) far sN gN zN
  · have hg' : ¬ gMov (cR σ 6) a x := fun q => hg (eG.mp q)
    rw [if_neg hg', if_neg hg]
    exact ⟨rfl, g7, eA, h⟩
def clR (σ : gS) (a b c : Int32) : gS := if gRin (cR σ 6) a b c then cDri (cRem σ) a.toNatClampNeg b.toNatClampNeg c.toNatClampNeg else σ
theorem agr_R3 {R S : gW} (h : agr R S) (a b c : Int32) : isR3 R a b c ↔ isR3 S a b c := by unfold isR3; rw [agr_isP h a b, agr_isP h b c]
theorem R3_n {R : gW} {a b c : Int32} (h3 : 0 ≤ R 3 ∧ R 3 ≤ 20) (h : isR3 R a b c) : (a = iN a.toNatClampNeg ∧ a.toNatClampNeg < nM R) ∧ (b = iN b.toNatClampNeg ∧ b.toNatClampNeg < nM R) ∧ (c = iN c.toNatClampNeg ∧ c.toNatClampNeg < nM R) ∧ (a.toNatClampNeg ≠ b.toNatClampNeg ∧ b.toNatClampNeg ≠ c.toNatClampNeg ∧ a.toNatClampNeg ≠ c.toNatClampNeg) := by
  have pa := isT_n h3 h.1.1.1.1
  have pb := isT_n h3 h.1.1.1.2
  have pc := isT_n h3 h.1.2.1.2
  refine ⟨pa, pb, pc, fun q => h.1.1.2 ?_, fun q => h.1.2.2 ?_, fun q => h.2 ?_⟩
  · rw [pa.1, pb.1, q]
  · rw [pb.1, pc.1, q]
  · rw [pa.1, pc.1, q]
theorem agr_rin {R S : gW} (h3 : 0 ≤ R 3 ∧ R 3 ≤ 20) (h : agr R S) (a b c : Int32) : (gRin R a b c ↔ gRin S a b c) ∧ aRin R a b c = aRin S a b c := by
  have e3 := agr_R3 h a b c
  by_cases hr : isR3 R a b c
  · obtain ⟨⟨-, la⟩, ⟨-, lb⟩, ⟨-, lc⟩, hd⟩ := R3_n h3 hr
    have w := agr_WhyR h la lb lc hd
    have r := agr_ROR h la lb lc hd
    refine ⟨by unfold gRin; rw [w, e3], ?_⟩
    unfold aRin
    rw [w, r, if_pos hr, if_pos (e3.mp hr)]
  · have hr2 : ¬ isR3 S a b c := fun q => hr (e3.mpr q)
    refine ⟨⟨fun q => absurd q.1 hr, fun q => absurd q.1 hr2⟩, ?_⟩
    unfold aRin
    rw [if_neg hr, if_neg hr2]
theorem cDri_far {σ : gS} {a b c q : Nat} (h : q < 6 ∨ 32 ≤ q) (ha : a < 20) (hb : b < 20) (hc : c < 20) : cDri σ a b c q = σ q := by
  unfold cDri
  rw [cAdd_far (by omega) (by omega)]
  funext j
  rw [gad_ne (by omega)]
  unfold cPas
  rw [cSit_far (by omega) (by omega), cSit_far (by omega) (by omega), cSit_far (by omega) (by omega)]
theorem GR_ring {B : Nat} {σ : gS} {a b c : Int32} (h : GR B σ) : clR σ a b c 324 = σ 324 ∧ RS (clR σ a b c) ∧ aRin (cR σ 6) a b c = aRin (σ 324) a b c ∧ GR B (hOp (clR σ a b c) (gRin (σ 324) a b c) (nRin (σ 324) a b c)) := by
  have h' := h
  obtain ⟨g1, g2, g3, g4, g5, g6, g7, g8, g9⟩ := h'
  obtain ⟨b3, bn, e7⟩ := SV_3 g1
  have h7 : 0 ≤ σ 6 7 ∧ σ 6 7 ≤ 20 := by rw [e7]; exact b3
  obtain ⟨eG, eA⟩ := agr_rin g1.2.1.1 g1.1 a b c
  unfold clR hOp
  by_cases hg : gRin (σ 324) a b c
  · have hg' := eG.mpr hg
    rw [if_pos hg', if_pos hg]
    obtain ⟨⟨ea, la⟩, ⟨eb, lb⟩, ⟨ec, lc⟩, hd⟩ := R3_n b3 hg.1
    obtain ⟨m, hm⟩ : ∃ m, a.toNatClampNeg = m := ⟨_, rfl⟩
    obtain ⟨k, hk⟩ : ∃ k, b.toNatClampNeg = k := ⟨_, rfl⟩
    obtain ⟨l, hl⟩ : ∃ l, c.toNatClampNeg = l := ⟨_, rfl⟩
    rw [hm] at ea la hd
    rw [hk] at eb lb hd
    rw [hl] at ec lc hd
    rw [hm, hk, hl]
    subst ea eb ec
    have far : ∀ q, q < 6 ∨ 32 ≤ q → cDri (cRem σ) m k l q = cRem σ q := fun q hq => cDri_far hq (by omega) (by omega) (by omega)
    have hi : ∀ q, 323 ≤ q → cDri (cRem σ) m k l q = σ q := fun q hq => by rw [far q (by omega), cRem_far (Or.inr hq) h7]
    have sN := SV_rin (SV_rem g1) la lb lc hd
    have gN := GD_rin g2 b3 g7.1.2 la lb lc hd
    have zN : zR (nRin (σ 324) (iN m) (iN k) (iN l)) := by
      unfold nRin radd
      rw [iN_nat (by omega), iN_nat (by omega), iN_nat (by omega)]
      refine zR_te (zR_rup (zR_rtu g8.1 hd (by omega) (by omega) (by omega)) (by decide)) ?_
      rw [rup_ne (by omega), rtu_eq hd, if_neg (by omega), if_neg (by omega), if_neg (by omega)]
      exact g7.1.2
    refine ⟨hi 324 (by decide), ?_, eA, ?_⟩
    · unfold RS
      rw [hi 324 (by decide), hi 323 (by decide)]
      exact g7
    · exact GR_call h (Nat.le_refl _) far sN gN zN
  · have hg' : ¬ gRin (cR σ 6) a b c := fun q => hg (eG.mp q)
    rw [if_neg hg', if_neg hg]
    exact ⟨rfl, g7, eA, h⟩
def clF (σ : gS) (f : Int32) : gS := if gFir (cR σ 6) f then cAdd (gup (cRem σ) 6 5 f) 7 0 (σ 6 5) else σ
theorem agr_fir {R S : gW} (h : agr R S) (f : Int32) : (gFir R f ↔ gFir S f) ∧ aFir R f = aFir S f := by
  have e0 := h.1 0 (by decide)
  have e1 := h.1 1 (by decide)
  have eB := agr_Bar h f
  refine ⟨by unfold gFir; rw [e0, e1, eB], ?_⟩
  unfold aFir
  rw [e0, e1, eB]
theorem GR_first {B : Nat} {σ : gS} {f : Int32} (h : GR B σ) : clF σ f 324 = σ 324 ∧ RS (clF σ f) ∧ aFir (cR σ 6) f = aFir (σ 324) f ∧ GR B (hOp (clF σ f) (gFir (σ 324) f) (nFir (σ 324) f)) := by
  have h' := h
  obtain ⟨g1, g2, g3, g4, g5, g6, g7, g8, g9⟩ := h'
  obtain ⟨b3, bn, e7⟩ := SV_3 g1
  have h7 : 0 ≤ σ 6 7 ∧ σ 6 7 ≤ 20 := by rw [e7]; exact b3
  obtain ⟨eG, eA⟩ := agr_fir g1.1 f
  unfold clF hOp
  by_cases hg : gFir (σ 324) f
  · have hg' := eG.mpr hg
    rw [if_pos hg', if_pos hg]
    have far : ∀ q, q < 6 ∨ 32 ≤ q → cAdd (gup (cRem σ) 6 5 f) 7 0 (σ 6 5) q = cRem σ q := fun q hq => by
      rw [cAdd_far (by omega) (by omega)]
      funext j
      rw [gup_ne (by omega)]
    have hi : ∀ q, 323 ≤ q → cAdd (gup (cRem σ) 6 5 f) 7 0 (σ 6 5) q = σ q := fun q hq => by rw [far q (by omega), cRem_far (Or.inr hq) h7]
    have sN := SV_fir (f := f) (SV_rem g1)
    rw [cRem_far (Or.inl (by decide)) h7] at sN
    have gN := GD_fir (f := f) g2 b3 g7.1.2
    have zN : zR (nFir (σ 324) f) := by
      unfold nFir
      refine zR_te (zR_rup g8.1 (by decide)) ?_
      rw [rup_ne (by omega)]
      exact g7.1.2
    refine ⟨hi 324 (by decide), ?_, eA, ?_⟩
    · unfold RS
      rw [hi 324 (by decide), hi 323 (by decide)]
      exact g7
    · exact GR_call h (Nat.le_refl _) far sN gN zN
  · have hg' : ¬ gFir (cR σ 6) f := fun q => hg (eG.mp q)
    rw [if_neg hg', if_neg hg]
    exact ⟨rfl, g7, eA, h⟩
end
section
-- text 71
/-! RELATION: set, settle -/
def clE (σ : gS) (t w v : Int32) : gS := if gSet (cR σ 6) t w v then cAdd (gup (cRem σ) (6 + 2 + t.toNatClampNeg) (fof w + 1) v) 6 (10 * t + w) (σ (6 + 2 + t.toNatClampNeg) (fof w + 1)) else σ
theorem agr_inR {R S : gW} (h : agr R S) (w v : Int32) : inR R w v ↔ inR S w v := by unfold inR; rw [h.1 0 (by decide)]
theorem agr_set {R S : gW} (h3 : 0 ≤ R 3 ∧ R 3 ≤ 20) (h : agr R S) (t w v : Int32) : (gSet R t w v ↔ gSet S t w v) ∧ aSet R t w v = aSet S t w v := by
  have eT := agr_isT h t
  have eI := agr_inR h w v
  by_cases ht : isT R t ∧ inR R w v
  · have na := (isT_n h3 ht.1).2
    have fl := fof_le ht.2
    have e1 := h.2 _ na (fof w) (by omega)
    have e2 := h.2 _ na 0 (by decide)
    have e3 := h.1 1 (by decide)
    refine ⟨by unfold gSet; rw [e1, e2, e3, eT, eI], ?_⟩
    unfold aSet
    rw [e1, e2, e3, if_pos ht, if_pos (show isT S t ∧ inR S w v from ⟨eT.mp ht.1, eI.mp ht.2⟩)]
  · have ht2 : ¬ (isT S t ∧ inR S w v) := fun q => ht ⟨eT.mpr q.1, eI.mpr q.2⟩
    refine ⟨⟨fun q => absurd q.1.1 ht, fun q => absurd q.1.1 ht2⟩, ?_⟩
    unfold aSet
    rw [if_neg ht, if_neg ht2]
theorem GR_set {B : Nat} {σ : gS} {t w v : Int32} (h : GR B σ) : clE σ t w v 324 = σ 324 ∧ RS (clE σ t w v) ∧ aSet (cR σ 6) t w v = aSet (σ 324) t w v ∧ GR B (hOp (clE σ t w v) (gSet (σ 324) t w v) (nSet (σ 324) t w v)) := by
  have h' := h
  obtain ⟨g1, g2, g3, g4, g5, g6, g7, g8, g9⟩ := h'
  obtain ⟨b3, bn, e7⟩ := SV_3 g1
  have h7 : 0 ≤ σ 6 7 ∧ σ 6 7 ≤ 20 := by rw [e7]; exact b3
  obtain ⟨eG, eA⟩ := agr_set g1.2.1.1 g1.1 t w v
  unfold clE hOp
  by_cases hg : gSet (σ 324) t w v
  · have hg' := eG.mpr hg
    rw [if_pos hg', if_pos hg]
    obtain ⟨et, lt⟩ := isT_n b3 hg.1.1.1
    have hw := hg.1.1.2
    have fl := fof_le hw
    obtain ⟨m, hm⟩ : ∃ m, t.toNatClampNeg = m := ⟨_, rfl⟩
    rw [hm] at et lt
    rw [hm]
    subst et
    have far : ∀ q, q < 6 ∨ 32 ≤ q → cAdd (gup (cRem σ) (6 + 2 + m) (fof w + 1) v) 6 (10 * iN m + w) (σ (6 + 2 + m) (fof w + 1)) q = cRem σ q := fun q hq => by
      rw [cAdd_far (by omega) (by omega)]
      funext j
      rw [gup_ne (by omega)]
    have hi : ∀ q, 323 ≤ q → cAdd (gup (cRem σ) (6 + 2 + m) (fof w + 1) v) 6 (10 * iN m + w) (σ (6 + 2 + m) (fof w + 1)) q = σ q := fun q hq => by rw [far q (by omega), cRem_far (Or.inr hq) h7]
    have sN := SV_set (SV_rem g1) lt hw
    rw [cRem_far (q := 6 + 2 + m) (Or.inl (by omega)) h7] at sN
    have gN := GD_set g2 b3 g7.1.2 lt hw
    have zN : zR (nSet (σ 324) (iN m) w v) := by
      unfold nSet
      rw [iN_nat (by omega)]
      refine zR_te (zR_rup g8.1 (by omega)) ?_
      rw [rup_ne (by omega)]
      exact g7.1.2
    refine ⟨hi 324 (by decide), ?_, eA, ?_⟩
    · unfold RS
      rw [hi 324 (by decide), hi 323 (by decide)]
      exact g7
    · exact GR_call h (Nat.le_refl _) far sN gN zN
  · have hg' : ¬ gSet (cR σ 6) t w v := fun q => hg (eG.mp q)
    rw [if_neg hg', if_neg hg]
    exact ⟨rfl, g7, eA, h⟩
/-- the drafts are free -/
theorem GR_scr {B : Nat} {σ τ : gS} (h : GR B σ) (hq : ∀ q, (q < 32 ∨ 58 ≤ q) → ¬ q = 326 → τ q = σ q) (hz : zR (τ 326)) : GR B τ := by
  obtain ⟨g1, g2, g3, g4, g5, g6, g7, g8, g9⟩ := h
  have e := fun q (h1 : q < 32 ∨ 58 ≤ q) (h2 : ¬ q = 326) => hq q h1 h2
  have e324 := e 324 (by decide) (by decide)
  have e323 := e 323 (by decide) (by decide)
  refine ⟨?_, by rw [e324]; exact g2, ?_, SL_same (Nat.le_refl _) g4 (fun q q1 q2 => e q (by omega) (by omega)) (e 328 (by decide) (by decide)) (e 329 (by decide) (by decide)), ?_, ?_, ?_, ?_, ?_⟩
  · rw [e324]
    exact SV_blk g1 (fun q q1 q2 => e q (by omega) (by omega))
  · obtain ⟨⟨p1, p2, p3⟩, p4, p5⟩ := g3
    have e113 := e 113 (by decide) (by decide)
    have e327 := e 327 (by decide) (by decide)
    have eP : ∀ u, cPl τ u = cPl σ u := fun u => by unfold cPl; rw [e113]
    have hm : ∀ u, ((σ 113 1).toNatClampNeg + u) % 8 < 8 := fun u => Nat.mod_lt _ (by decide)
    refine ⟨⟨by unfold bPa; rw [e113]; exact p1, by rw [e113, e323]; exact p2, fun u hu => ?_⟩, fun u hu => ?_, fun j hj => ?_⟩
    · rw [e113] at hu
      rw [eP, e327]
      refine SV_blk (p3 u hu) (fun q q1 q2 => ?_)
      have := hm u
      unfold cPl at q1 q2
      exact e q (by omega) (by omega)
    · rw [e113] at hu
      rw [e327]
      exact p4 u hu
    · rw [e _ (by omega) (by omega)]
      exact p5 j hj
  · unfold TP
    rw [e 2 (by decide) (by decide), e 3 (by decide) (by decide), e323, e 330 (by decide) (by decide)]
    exact g5
  · rw [e 0 (by decide) (by decide), e323]
    exact g6
  · unfold RS
    rw [e324, e323]
    exact g7
  · unfold RZ
    rw [e324, e 325 (by decide) (by decide)]
    exact ⟨g8.1, g8.2.1, hz⟩
  · unfold RT
    rw [e323]
    exact g9
-- text 72
/-! RELATION: settle -/
def clT (σ : gS) : gS := if (cSt 99 (cCo σ 32 6)).1 = 0 then (cSt 99 (cCo σ 32 6)).2 else cStl (cSt 99 (cCo σ 32 6))
/-- what settle needs of the class -/
theorem GR_dr {σ : gS} {R : gW} (h : SV σ 6 R) : TC (cCo σ 32 6) 32 ∧ bLg (cCo σ 32 6) 56 := by
  have s := cCo_ok (p := 32) (q := 6) (by omega) h
  exact ⟨s.2.1, s.2.2.1.1⟩
theorem GR_settle {B : Nat} {σ : gS} (h : GR B σ) : clT σ 324 = σ 324 ∧ RS (clT σ) ∧ RZ (clT σ) ∧ (if (cSt 99 (cCo σ 32 6)).1 = 0 then -2 else iN (cSt 99 (cCo σ 32 6)).1) = aStl (σ 324) ∧ GR B (hOp (grow (clT σ) 326 (fSt 99 (σ 324)).2) (gStl (σ 324)) (nStl (σ 324))) := by
  have h' := h
  obtain ⟨g1, g2, g3, g4, g5, g6, g7, g8, g9⟩ := h'
  obtain ⟨b3, bn, e7⟩ := SV_3 g1
  have h7 : 0 ≤ σ 6 7 ∧ σ 6 7 ≤ 20 := by rw [e7]; exact b3
  have n7 := (c20 h7).2
  obtain ⟨k1, sN⟩ := SV_stl g1 g2.1 g2.2.1
  obtain ⟨t1, l1, f1⟩ := cSt_tc (d := 99) (GR_dr g1).1
  have zS := fSt_z (d := 99) b3 g8.1
  obtain ⟨x3, x9⟩ := (GD_St (d := 99) g2 b3).2
  unfold clT
  obtain ⟨x, hx⟩ : ∃ x, cSt 99 (cCo σ 32 6) = x := ⟨_, rfl⟩
  rw [hx] at k1 sN t1 l1 f1 ⊢
  have fs : ∀ q, q < 32 ∨ 58 ≤ q → x.2 q = σ q := fun q hq => by
    rw [f1 q (by omega)]
    funext j
    exact cCo_far (by omega) n7
  have eA : (if x.1 = 0 then -2 else iN x.1) = aStl (σ 324) := by unfold aStl; rw [← k1]
  unfold hOp
  by_cases hz : x.1 = 0
  · have hg : ¬ gStl (σ 324) := fun q => q (by rw [← k1]; exact hz)
    rw [if_pos hz, if_neg hg]
    refine ⟨fs 324 (by decide), ?_, ?_, ?_, ?_⟩
    · unfold RS
      rw [fs 324 (by decide), fs 323 (by decide)]
      exact g7
    · unfold RZ
      rw [fs 324 (by decide), fs 325 (by decide), fs 326 (by decide)]
      exact g8
    · rw [if_pos hz] at eA; rw [if_pos hz]; exact eA
    · refine GR_scr h (fun q q1 q2 => ?_) (by rw [grow_at]; exact zS)
      rw [grow_ne q2]
      exact fs q q1
  · have hg : gStl (σ 324) := fun q => hz (by rw [k1]; exact q)
    rw [if_neg hz, if_pos hg]
    have x7 : 0 ≤ x.2 6 7 ∧ x.2 6 7 ≤ 20 := by rw [fs 6 (by decide)]; exact h7
    have x32 : 0 ≤ x.2 32 7 ∧ x.2 32 7 ≤ 20 := by have := t1.1; rw [cR_3] at this; exact this
    have n32 : (cRem x.2 32 7).toNatClampNeg ≤ 20 := by rw [cRem_far (Or.inl (by decide)) x7]; exact (c20 x32).2
    have far : ∀ q, q < 6 ∨ 32 ≤ q → cStl x q = cRem x.2 q := fun q hq => by
      unfold cStl
      rw [cAdd_far (by omega) (by omega)]
      funext j
      rw [gup_ne (by omega), cCo_far (by omega) n32]
    have hi : ∀ q, 323 ≤ q → cStl x q = σ q := fun q hq => by rw [far q (by omega), cRem_far (Or.inr hq) x7, fs q (by omega)]
    have gX : GR B x.2 := GR_scr h (fun q q1 _ => fs q q1) (by rw [fs 326 (by decide)]; exact g8.2.2)
    have gN := GD_stl g2 b3 g7.1.2
    have zN : zR (nStl (σ 324)) := by
      unfold nStl radd
      refine zR_te (zR_rup zS (by decide)) ?_
      rw [rup_ne (by omega), x9]
      exact g7.1.2
    have gC := GR_call gX (Nat.le_refl _) far sN gN zN
    refine ⟨hi 324 (by decide), ?_, ?_, ?_, ?_⟩
    · unfold RS
      rw [hi 324 (by decide), hi 323 (by decide)]
      exact g7
    · unfold RZ
      rw [hi 324 (by decide), hi 325 (by decide), hi 326 (by decide)]
      exact g8
    · rw [if_neg hz] at eA; rw [if_neg hz]; exact eA
    · refine GR_scr gC (fun q q1 q2 => ?_) ?_
      · unfold hKe
        by_cases a : q = 324
        · subst a; rw [grow_at, grow_at]
        · rw [grow_ne a, grow_ne a]
          by_cases b : q = 323
          · subst b
            rw [grow_at, grow_at, grow_ne (show ¬ 323 = 326 by decide)]
          · rw [grow_ne b, grow_ne b]
            by_cases c : q = 327
            · subst c
              rw [grow_at, grow_at, grow_ne (show ¬ 324 = 326 by decide), grow_ne (show ¬ 327 = 326 by decide), grow_ne (show ¬ 323 = 326 by decide)]
            · rw [grow_ne c, grow_ne c, grow_ne q2]
      · rw [grow_ne (by decide), hKe_ne (by decide) (by decide), grow_at]
        exact zS
end
section
-- text 73
/-! RELATION: come -/
/-- reader, writer, guest, drafts are free -/
theorem GR_fre {B : Nat} {σ τ : gS} (h : GR B σ) (hq : ∀ q, (q = 0 ∨ q = 2 ∨ q = 3 ∨ (6 ≤ q ∧ q < 32) ∨ 60 ≤ q) → ¬ q = 326 → τ q = σ q) (hz : zR (τ 326)) : GR B τ := by
  obtain ⟨g1, g2, g3, g4, g5, g6, g7, g8, g9⟩ := h
  have e := fun q (h1 : q = 0 ∨ q = 2 ∨ q = 3 ∨ (6 ≤ q ∧ q < 32) ∨ 60 ≤ q) (h2 : ¬ q = 326) => hq q h1 h2
  have e324 := e 324 (by decide) (by decide)
  have e323 := e 323 (by decide) (by decide)
  refine ⟨?_, by rw [e324]; exact g2, ?_, SL_same (Nat.le_refl _) g4 (fun q q1 q2 => e q (by omega) (by omega)) (e 328 (by decide) (by decide)) (e 329 (by decide) (by decide)), ?_, ?_, ?_, ?_, ?_⟩
  · rw [e324]
    exact SV_blk g1 (fun q q1 q2 => e q (by omega) (by omega))
  · obtain ⟨⟨p1, p2, p3⟩, p4, p5⟩ := g3
    have e113 := e 113 (by decide) (by decide)
    have e327 := e 327 (by decide) (by decide)
    have eP : ∀ u, cPl τ u = cPl σ u := fun u => by unfold cPl; rw [e113]
    have hm : ∀ u, ((σ 113 1).toNatClampNeg + u) % 8 < 8 := fun u => Nat.mod_lt _ (by decide)
    refine ⟨⟨by unfold bPa; rw [e113]; exact p1, by rw [e113, e323]; exact p2, fun u hu => ?_⟩, fun u hu => ?_, fun j hj => ?_⟩
    · rw [e113] at hu
      rw [eP, e327]
      refine SV_blk (p3 u hu) (fun q q1 q2 => ?_)
      have := hm u
      unfold cPl at q1 q2
      exact e q (by omega) (by omega)
    · rw [e113] at hu
      rw [e327]
      exact p4 u hu
    · rw [e _ (by omega) (by omega)]
      exact p5 j hj
  · unfold TP
    rw [e 2 (by decide) (by decide), e 3 (by decide) (by decide), e323, e 330 (by decide) (by decide)]
    exact g5
  · rw [e 0 (by decide) (by decide), e323]
    exact g6
  · unfold RS
    rw [e324, e323]
    exact g7
  · unfold RZ
    rw [e324, e 325 (by decide) (by decide)]
    exact ⟨g8.1, g8.2.1, hz⟩
  · unfold RT
    rw [e323]
    exact g9
def clC (σ : gS) (x k f w s : Int32) : gS := if okK σ x k f w s then (if cTN σ ∧ σ 6 7 < 20 ∧ okF σ x k then cCom σ x k f w s else cBeg σ) else σ
theorem GR_come {B : Nat} {σ : gS} {x k f w s : Int32} (h : GR B σ) : (∀ q, 323 ≤ q → clC σ x k f w s q = σ q) ∧ (if okK σ x k f w s ∧ cTN σ then (if σ 6 7 < 20 then (if okF σ x k then σ 6 7 else -4) else -3) else -1) = aCom σ x k f w s ∧ GR (B + 99) (hCom (clC σ x k f w s) x k f w s) := by
  have h' := h
  obtain ⟨g1, g2, g3, g4, g5, g6, g7, g8, g9⟩ := h'
  obtain ⟨b3, bn, e7⟩ := SV_3 g1
  have h7 : 0 ≤ σ 6 7 ∧ σ 6 7 ≤ 20 := by rw [e7]; exact b3
  have b7 : 0 ≤ cBeg σ 6 7 ∧ cBeg σ 6 7 ≤ 20 := by rw [cBeg_ne (by decide)]; exact h7
  obtain ⟨tn1, tn2⟩ := tn_ok g5
  have eS := agr_isS g1.1 x
  have eW := agr_Who g1.1 x
  have e1 := g1.1.1 1 (by decide)
  have hok : (okK σ x k f w s ∧ cTN σ) ↔ okC σ x k f w s := by
    unfold okK okC
    rw [eS, tn1]
  have h20 : σ 6 7 < 20 ↔ ¬ σ 324 3 = 20 := by
    rw [e7]
    have := b3.2
    grind
  have hF : okF σ x k ↔ (fWho (σ 324) x < 0 ∧ (k = 1 ∨ σ 324 1 ≤ x / 4)) := by
    unfold okF
    rw [eW, e1]
    have hc := fWho_c (σ 324) x b3
    have : fWho (σ 324) x = -2 ↔ fWho (σ 324) x < 0 := by
      rcases hc with q | q
      · rw [q]; decide
      · grind
    rw [this]
  have gB : GR B (cBeg σ) := GR_fre h (fun q q1 _ => cBeg_ne (by omega)) (by rw [cBeg_ne (by decide)]; exact g8.2.2)
  have up : ∀ τ, GR B τ → GR (B + 99) τ := by
    intro τ ⟨i1, i2, i3, i4, i5, i6, i7, i8, i9⟩
    exact ⟨i1, GD_mono i2 (by omega), ⟨i3.1, fun u hu => GD_mono (i3.2.1 u hu) (by omega), i3.2.2⟩, SL_same (by omega) i4 (fun q _ _ => rfl) rfl rfl, i5, i6, i7, i8, i9⟩
  have hCo : ∀ q, 323 ≤ q → cCom σ x k f w s q = σ q := by
    intro q hq
    have u7 : 0 ≤ cGu0 σ x k f w s 6 7 ∧ (okF σ x k → cGu0 σ x k f w s 6 7 ≤ 20) := by
      rw [cGu0_ne h7 (by decide) (by decide) (by decide)]; exact ⟨h7.1, fun _ => h7.2⟩
    unfold cCom
    have a1 : ∀ j, gup (cAdd (cAdm (cGu0 σ x k f w s) 6 58) 0 (σ 6 7) x) 2 1 0 q j = cAdm (cGu0 σ x k f w s) 6 58 q j := fun j => by rw [gup_ne (by omega), cAdd_far (by omega) (by omega)]
    funext j
    rw [a1]
    have l : (cGu0 σ x k f w s 6 7).toNatClampNeg ≤ 20 := by rw [cGu0_ne h7 (by decide) (by decide) (by decide)]; exact (c20 h7).2
    unfold cAdm
    rw [gup_ne (by omega), cCnt_off (by omega)]
    show (if q = 6 + 2 + (cGu0 σ x k f w s 6 7).toNatClampNeg ∧ j < 10 then _ else _) = _
    rw [if_neg (by omega)]
    unfold cGu0
    rw [cGue_ne (by omega) (by omega), cZr_ne (by omega), cRem_far (Or.inr hq) b7, cBeg_ne (by omega)]
  have hi : ∀ q, 323 ≤ q → clC σ x k f w s q = σ q := by
    intro q hq
    unfold clC
    split
    · split
      · exact hCo q hq
      · exact cBeg_ne (by omega)
    · rfl
  have eg : ∀ τ : gS, (∀ q, 323 ≤ q → τ q = σ q) → (gCom τ x k f w s ↔ gCom σ x k f w s) := by
    intro τ ht
    unfold gCom okC
    rw [ht 324 (by decide), ht 330 (by decide), ht 323 (by decide)]
  refine ⟨hi, ?_, ?_⟩
  · unfold aCom
    by_cases q : okC σ x k f w s
    · rw [if_pos q, if_pos (hok.mpr q)]
      by_cases q2 : σ 324 3 = 20
      · rw [if_pos q2, if_neg (fun z => h20.mp z q2)]
      · rw [if_neg q2, if_pos (h20.mpr q2)]
        by_cases q3 : okF σ x k
        · rw [if_pos q3, if_pos (hF.mp q3), e7]
        · rw [if_neg q3, if_neg (fun z => q3 (hF.mpr z))]
    · rw [if_neg q, if_neg (fun z => q (hok.mp z))]
  · unfold hCom
    by_cases hg : gCom σ x k f w s
    · have hK := hok.mpr hg.1.1
      have hFF := hF.mpr hg.2
      have h27 := h20.mpr hg.1.2
      rw [if_pos ((eg _ hi).mpr hg)]
      unfold clC
      rw [if_pos hK.1, if_pos ⟨hK.2, h27, hFF⟩, hCo 324 (by decide), hCo 330 (by decide), hCo 323 (by decide)]
      have h20' : σ 324 3 < 20 := by rw [← e7]; exact h27
      have hx := isS_of g2.2.2.2 hg.1.1.1.1.1.1.1
      have hk : k = 0 ∨ k = 1 := by
        have := hg.1.1.1.1.1.1.2
        have a1 := this.1
        have a2 := this.2
        grind
      have sN := SV_com (w := w) (s := s) g1 h20' hx hk hg.1.1.1.1.1.2 (tn2 hK.2)
      have gN := GD_com (x := x) (k := k) (f := f) (s := s) (nm := fTn (σ 330) (σ 323 8)) g2 b3 g7.1.2 h20' hg.1.1.1.1.2
      obtain ⟨N, hN⟩ : ∃ N, nCom (σ 324) x k f w s (fTn (σ 330) (σ 323 8)) = N := ⟨_, rfl⟩
      rw [hN] at sN gN ⊢
      have zN : zR N := by
        rw [← hN]
        unfold nCom radd
        have e3n : nM (σ 324) < 20 := by
          have := (nM_of b3).1
          rw [this] at h20'
          exact (iN_lt (m := 20) (by omega) (by decide)).mp h20'
        refine zR_te (zR_rup (zR_rup (zR_rup (zR_rup (zR_rup ?_ (by omega)) (by omega)) (by omega)) (by omega)) (by decide)) ?_
        · intro j hj
          rw [fNew_ne (by omega)]
          exact g8.1 j hj
        · rw [rup_ne (by omega), rup_ne (by omega), rup_ne (by omega), rup_ne (by omega), rup_ne (by omega), fNew_ne (by omega)]
          exact g7.1.2
      have u7 : 0 ≤ cGu0 σ x k f w s 6 7 ∧ cGu0 σ x k f w s 6 7 < 20 := by rw [cGu0_ne h7 (by decide) (by decide) (by decide)]; exact ⟨h7.1, h27⟩
      have cq : ∀ q, (32 ≤ q ∧ ¬ q = 58) ∨ q = 0 → cCom σ x k f w s q = cRem (cBeg σ) q := by
        intro q hq
        unfold cCom
        funext j
        rw [gup_ne (by omega), cAdd_far (by omega) (by omega), cAdm_far u7 (by omega)]
        unfold cGu0
        rw [cGue_ne (by omega) (by omega), cZr_ne (by omega)]
      have t : ∀ q, ¬ q = 323 → ¬ q = 324 → ¬ q = 327 → grow (grow (hKe (cCom σ x k f w s)) 323 (rup (hKe (cCom σ x k f w s) 323) 8 0)) 324 N q = cCom σ x k f w s q := fun q q1 q2 q3 => by rw [grow_ne q2, grow_ne q1, hKe_ne q1 q3]
      have e323 : grow (grow (hKe (cCom σ x k f w s)) 323 (rup (hKe (cCom σ x k f w s) 323) 8 0)) 324 N 323 = rup (rup (σ 323) 6 (fKu (σ 323 6))) 8 0 := by
        rw [grow_ne (by decide), grow_at]
        unfold hKe
        rw [grow_at, hCo 323 (by decide)]
      have bq : ∀ q, ¬ q = 1 → cBeg σ q = σ q := fun q hq => cBeg_ne hq
      refine GR_op (σ := cBeg σ) (N := N) gB (by omega) (SV_blk sN (fun q q1 q2 => t q (by omega) (by omega) (by omega))) gN zN (grow_at _ _ _) (fun q q1 q2 => ?_) (fun q q1 q2 => ?_) ?_ ?_ ?_ ?_ ?_ ?_ ?_ (Or.inl ?_) ?_ ?_
      · rw [t q (by omega) (by omega) (by omega)]; exact cq q (by omega)
      · rw [t q (by omega) (by omega) (by omega), cq q (by omega), cRem_far (Or.inl q2) b7]
      · rw [t 0 (by decide) (by decide) (by decide), cq 0 (by omega), cRem_far (Or.inl (by decide)) b7]
      · rw [grow_ne (by decide), grow_ne (by decide)]
        unfold hKe
        rw [grow_ne (by decide), grow_at, hCo 324 (by decide), hCo 327 (by decide), hCo 323 (by decide), bq 324 (by decide), bq 327 (by decide), bq 323 (by decide)]
      · rw [e323, rup_ne (by decide), rup_at, bq 323 (by decide)]
      · rw [e323, rup_ne (by decide), rup_ne (by decide), bq 323 (by decide)]
      · rw [t 328 (by decide) (by decide) (by decide), hCo 328 (by decide), bq 328 (by decide)]
      · rw [t 329 (by decide) (by decide) (by decide), hCo 329 (by decide), bq 329 (by decide)]
      · rw [t 325 (by decide) (by decide) (by decide), hCo 325 (by decide), bq 325 (by decide)]
      · rw [t 326 (by decide) (by decide) (by decide), hCo 326 (by decide), bq 326 (by decide)]
      · have z2 : grow (grow (hKe (cCom σ x k f w s)) 323 (rup (hKe (cCom σ x k f w s) 323) 8 0)) 324 N 2 1 = 0 := by
          rw [t 2 (by decide) (by decide) (by decide)]
          exact gup_at _ _ _
        unfold TP
        rw [z2, e323, rup_at]
        exact ⟨by decide, rfl, fun i hi => absurd hi (Nat.not_lt_zero _)⟩
      · show 0 ≤ _ ∧ _
        rw [e323, rup_at]
        decide
    · rw [if_neg (fun q => hg ((eg _ hi).mp q))]
      apply up
      unfold clC
      split
      · split
        · rename_i q1 q2
          exact absurd ⟨⟨hok.mp ⟨q1, q2.1⟩, h20.mp q2.2.1⟩, hF.mp q2.2.2⟩ hg
        · exact gB
      · exact h
-- text 74
/-! RELATION: append, truncate -/
/-- the tapes alone change -/
theorem GR_tap {B : Nat} {σ τ : gS} (h : GR B σ) (hq : ∀ q, ¬ q = 2 → ¬ q = 3 → ¬ q = 323 → ¬ q = 330 → τ q = σ q) (h323 : ∀ j, ¬ j = 8 → τ 323 j = σ 323 j) (hT : TP τ) : GR B τ := by
  obtain ⟨g1, g2, g3, g4, g5, g6, g7, g8, g9⟩ := h
  have e := fun q (h1 : ¬ q = 2) (h2 : ¬ q = 3) (h3 : ¬ q = 323) (h4 : ¬ q = 330) => hq q h1 h2 h3 h4
  have e324 := e 324 (by decide) (by decide) (by decide) (by decide)
  refine ⟨?_, by rw [e324]; exact g2, ?_, SL_same (Nat.le_refl _) g4 (fun q q1 q2 => e q (by omega) (by omega) (by omega) (by omega)) (e 328 (by decide) (by decide) (by decide) (by decide)) (e 329 (by decide) (by decide) (by decide) (by decide)), hT, ?_, ?_, ?_, ?_⟩
  · rw [e324]
    exact SV_blk g1 (fun q q1 q2 => e q (by omega) (by omega) (by omega) (by omega))
  · obtain ⟨⟨p1, p2, p3⟩, p4, p5⟩ := g3
    have e113 := e 113 (by decide) (by decide) (by decide) (by decide)
    have e327 := e 327 (by decide) (by decide) (by decide) (by decide)
    have eP : ∀ u, cPl τ u = cPl σ u := fun u => by unfold cPl; rw [e113]
    have hm : ∀ u, ((σ 113 1).toNatClampNeg + u) % 8 < 8 := fun u => Nat.mod_lt _ (by decide)
    refine ⟨⟨by unfold bPa; rw [e113]; exact p1, by rw [e113, h323 6 (by decide)]; exact p2, fun u hu => ?_⟩, fun u hu => ?_, fun j hj => ?_⟩
    · rw [e113] at hu
      rw [eP, e327]
      refine SV_blk (p3 u hu) (fun q q1 q2 => ?_)
      have := hm u
      unfold cPl at q1 q2
      exact e q (by omega) (by omega) (by omega) (by omega)
    · rw [e113] at hu
      rw [e327]
      exact p4 u hu
    · rw [e _ (by omega) (by omega) (by omega) (by omega)]
      exact p5 j hj
  · rw [e 0 (by decide) (by decide) (by decide) (by decide), h323 9 (by decide)]
    exact g6
  · unfold RS
    rw [e324, h323 6 (by decide)]
    exact g7
  · unfold RZ
    rw [e324, e 325 (by decide) (by decide) (by decide) (by decide), e 326 (by decide) (by decide) (by decide) (by decide)]
    exact g8
  · unfold RT
    rw [hT.2.1]
    exact hT.1
def clA (σ : gS) (Bt : Nat → Int32) : gS := if 1000 < σ 2 1 + 20 then σ else cApp σ (σ 2 1).toNatClampNeg Bt 20
theorem GR_append {B : Nat} {σ : gS} {Bt : Nat → Int32} (h : GR B σ) : (∀ q, 323 ≤ q → clA σ Bt q = σ q) ∧ (if 1000 < σ 2 1 + 20 then -1 else σ 2 1 + 20) = (if 1000 < σ 323 8 + 20 then -1 else σ 323 8 + 20) ∧ GR B (hAp (clA σ Bt) Bt) := by
  have g5 := h.2.2.2.2.1
  obtain ⟨hL, h8, hT⟩ := g5
  obtain ⟨eL, l⟩ := l1000 hL
  obtain ⟨L, hLL⟩ : ∃ L, (σ 2 1).toNatClampNeg = L := ⟨_, rfl⟩
  have hi : ∀ q, 323 ≤ q → clA σ Bt q = σ q := by
    intro q hq
    unfold clA
    split
    · rfl
    · unfold cApp
      rw [grow_ne (by omega), grow_ne (by omega)]
  refine ⟨hi, by rw [h8], ?_⟩
  unfold hAp
  rw [hi 323 (by decide), hi 330 (by decide), h8]
  unfold clA
  by_cases hc : 1000 < σ 2 1 + 20
  · rw [if_pos hc, if_pos hc]; exact h
  · rw [if_neg hc, if_neg hc]
    rw [hLL] at eL l hT ⊢
    have l980 : L ≤ 980 := by
      rw [eL, show (20 : Int32) = iN 20 from rfl, iN_add, show (1000 : Int32) = iN 1000 from rfl, iN_lt (by omega) (by omega)] at hc
      omega
    obtain ⟨τ, hτ⟩ : ∃ τ, grow (grow (cApp σ L Bt 20) 330 (fAp (σ 330) L Bt 20)) 323 (rup (σ 323) 8 (σ 2 1 + 20)) = τ := ⟨_, rfl⟩
    rw [hτ]
    have t2 : τ 2 1 = iN (L + 20) := by
      rw [← hτ, grow_ne (by decide), grow_ne (by decide), cApp_2]
    have t3 : τ 3 = fAp (σ 3) L Bt 20 := by
      rw [← hτ, grow_ne (by decide), grow_ne (by decide)]
      unfold cApp
      rw [grow_ne (by decide), grow_at]
    have t330 : τ 330 = fAp (σ 330) L Bt 20 := by rw [← hτ, grow_ne (by decide), grow_at]
    have t323 : τ 323 = rup (σ 323) 8 (σ 2 1 + 20) := by rw [← hτ, grow_at]
    refine GR_tap h (fun q q2 q3 q4 q5 => ?_) (fun j hj => by rw [t323, rup_ne hj]) ⟨?_, ?_, fun i hi2 => ?_⟩
    · rw [← hτ, grow_ne q4, grow_ne q5]
      unfold cApp
      rw [grow_ne q2, grow_ne q3]
    · rw [t2]
      exact ⟨(iN_le (k := 0) (by decide) (by omega)).mpr (by omega), (iN_le (m := 1000) (by omega) (by decide)).mpr (by omega)⟩
    · rw [t2, t323, rup_at, eL, show (20 : Int32) = iN 20 from rfl, iN_add]
    · rw [t2, iN_nat (by omega)] at hi2
      rw [t330, t3]
      unfold fAp
      by_cases q : L ≤ i ∧ i < L + 20
      · rw [if_pos q, if_pos q]
      · rw [if_neg q, if_neg q]
        exact hT i (by omega)
def clU (σ : gS) (n : Int32) : gS := if 0 ≤ n ∧ n ≤ σ 2 1 then gup σ 2 1 (σ 2 1 - n) else σ
end
