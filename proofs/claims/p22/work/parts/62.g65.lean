-- text 65
/-! ROWS: kept within their bounds by set, stations, come -/
theorem inR_b {R : gW} {w v : Int32} (h0 : 2 ≤ R 0 ∧ R 0 ≤ 10) (h : inR R w v) : (fof w = 3 → -9 ≤ v ∧ v ≤ 9) ∧ (fof w = 4 → -9 ≤ v ∧ v ≤ 9) ∧ (fof w = 5 → 0 ≤ v ∧ v ≤ 9) ∧ (fof w = 6 → 0 ≤ v ∧ v ≤ 3) := by
  have f0 : fof 0 = 3 := by decide
  have f1 : fof 1 = 4 := by decide
  have f2 : fof 2 = 5 := by decide
  have f3 : fof 3 = 6 := by decide
  have f4 : fof 4 = 1 := by decide
  have a1 := h0.1
  have a2 := h0.2
  rcases h with z | z | z | z
  · rcases z.1 with e | e <;> subst e
    · rw [f0]; exact ⟨fun _ => z.2, fun q => absurd q (by decide), fun q => absurd q (by decide), fun q => absurd q (by decide)⟩
    · rw [f1]; exact ⟨fun q => absurd q (by decide), fun _ => z.2, fun q => absurd q (by decide), fun q => absurd q (by decide)⟩
  · obtain ⟨e, z1, z2⟩ := z
    subst e
    rw [f2]
    exact ⟨fun q => absurd q (by decide), fun q => absurd q (by decide), fun _ => ⟨z1, by grind⟩, fun q => absurd q (by decide)⟩
  · obtain ⟨e, z1⟩ := z
    subst e
    rw [f3]
    exact ⟨fun q => absurd q (by decide), fun q => absurd q (by decide), fun q => absurd q (by decide), fun _ => z1⟩
  · obtain ⟨e, z1⟩ := z
    subst e
    rw [f4]
    exact ⟨fun q => absurd q (by decide), fun q => absurd q (by decide), fun q => absurd q (by decide), fun q => absurd q (by decide)⟩
theorem GD_set {B t : Nat} {R : gW} {w v : Int32} (h : GD B R) (h3 : 0 ≤ R 3 ∧ R 3 ≤ 20) (h9 : 0 ≤ R 209 ∧ R 209 ≤ 40) (ht : t < nM R) (hw : inR R w v) : GD B (nSet R (iN t) w v) := by
  have hn := (nM_of h3).2
  have fl := fof_le hw
  obtain ⟨b3, b4, b5, b6⟩ := inR_b h.2.2.2 hw
  unfold nSet
  rw [iN_nat (by omega)]
  have vf : ∀ s f, f < 10 → fld (rup R (9 + 10 * t + fof w) v) s f = if s = t ∧ f = fof w then v else fld R s f := by
    intro s f hf
    unfold fld rup
    by_cases q : s = t ∧ f = fof w
    · rw [if_pos q, if_pos (by omega)]
    · rw [if_neg q, if_neg (by omega)]
  have eN : nM (rup R (9 + 10 * t + fof w) v) = nM R := by unfold nM; rw [rup_ne (by omega)]
  refine GD_te ?_ (te_b h3 (by omega)) (by rw [rup_ne (by omega)]; exact h9)
  obtain ⟨g1, g2, ⟨g3, gs⟩, g4⟩ := h
  refine ⟨fun s hs => ?_, fun s hs => ?_, ⟨?_, qSt_cg gs eN (rup_ne (by omega)) (fun s hs => by rw [vf s 0 (by decide), if_neg (by omega)])⟩, by rw [rup_ne (by omega)]; exact g4⟩
  · rw [eN] at hs
    rw [vf s 3 (by decide), vf s 4 (by decide), vf s 5 (by decide), vf s 6 (by decide)]
    obtain ⟨q3, q4, q5, q6⟩ := g1 s hs
    refine ⟨?_, ?_, ?_, ?_⟩
    · split
      · rename_i z; exact b3 z.2.symm
      · exact q3
    · split
      · rename_i z; exact b4 z.2.symm
      · exact q4
    · split
      · rename_i z; exact b5 z.2.symm
      · exact q5
    · split
      · rename_i z; exact b6 z.2.symm
      · exact q6
  · rw [eN] at hs
    rw [vf s 7 (by decide), if_neg (by omega)]
    exact g2 s hs
  · rw [eN, smN_cg (g := swN R) (fun j hj => by unfold swN; rw [vf j 7 (by decide), if_neg (by omega)])]
    exact g3
/-- one gets off -/
theorem fOff_f {R : gW} {t s f : Nat} (hb : bN R) (ht : t < nM R) (hs : s < nM R - 1) (hf : f < 10) : fld (fOff R t) s f = fld R (if s < t then s else s + 1) f := by
  obtain ⟨e, l⟩ := nM_of hb.1
  unfold fOff fld
  rw [radd_ne (by omega)]
  unfold csh
  by_cases q : s < t
  · rw [if_pos q, if_neg (by omega), radd_ne (by omega), fTe_ne hb.2 (by omega)]
  · rw [if_neg q, if_pos (by omega), radd_ne (by omega), fTe_ne hb.2 (by omega), show 9 + 10 * s + f + 10 = 9 + 10 * (s + 1) + f by omega]
theorem GD_off {B t : Nat} {R : gW} (h : GD B R) (hb : bN R) (ht : t < nM R) : GD B (fOff R t) := by
  obtain ⟨e, l⟩ := nM_of hb.1
  obtain ⟨g1, g2, ⟨g3, gs⟩, g4⟩ := h
  have eN : nM (fOff R t) = nM R - 1 := nM_iN (fOff_3 hb ht) (by omega)
  have e0 : fOff R t 0 = R 0 := by
    unfold fOff
    rw [radd_ne (by decide), csh_lo (by omega), radd_ne (by decide), fTe_ne hb.2 (by omega)]
  have lo : ∀ s, s < nM R - 1 → (if s < t then s else s + 1) < nM R := fun s hs => by split <;> omega
  have sO : qSt (fOff R t) := by
    intro s hs
    rw [eN] at hs
    rw [fOff_f hb ht hs (by decide), e0]
    exact gs _ (lo s hs)
  refine ⟨fun s hs => ?_, fun s hs => ?_, ⟨?_, sO⟩, by rw [e0]; exact g4⟩
  · rw [eN] at hs
    rw [fOff_f hb ht hs (by decide), fOff_f hb ht hs (by decide), fOff_f hb ht hs (by decide), fOff_f hb ht hs (by decide)]
    exact g1 _ (lo s hs)
  · rw [eN] at hs
    rw [fOff_f hb ht hs (by decide)]
    exact g2 _ (lo s hs)
  · rw [eN, smN_cg (g := fun j => swN R (if j < t then j else j + 1)) (fun j hj => by unfold swN; rw [fOff_f hb ht hj (by decide)])]
    have d := smN_del (f := swN R) (t := t) (n := nM R - 1) (by omega)
    rw [show nM R - 1 + 1 = nM R by omega] at d
    omega
theorem GD_stpN {B : Nat} : ∀ {k : Nat} {R : gW}, GD B R → bN R → k ≤ nM R → GD B (stpN k R) ∧ bN (stpN k R)
  | 0, R, h, hb, _ => ⟨h, hb⟩
  | k + 1, R, h, hb, hk => by
    obtain ⟨b1, b2⟩ := stp1_b hb (k := k) (by omega)
    have g : GD B (stp1 R k) := by
      unfold stp1
      split
      · exact GD_off h hb (by omega)
      · exact h
    exact GD_stpN (k := k) g b1 b2
theorem GD_stm {B : Nat} {R : gW} (h : GD B R) (hb : bN R) : ∀ k, GD B (stm k R) ∧ bN (stm k R)
  | 0 => ⟨h, hb⟩
  | k + 1 => by
    obtain ⟨i1, i2⟩ := GD_stm h hb k
    have b2 : bN (radd (stm k R) 2 1) := ⟨by rw [radd_ne (by decide)]; exact i2.1, by rw [radd_ne (by decide)]; exact i2.2⟩
    exact GD_stpN (GD_hd i1 (by decide) (by decide) (by decide)) b2 (by rw [nM_radd2]; exact Nat.le_refl _)
-- text 66
/-! ROWS: kept within their bounds by come; the relation of the heaps -/
theorem GD_com {B : Nat} {R : gW} {x k f w s nm : Int32} (h : GD B R) (h3 : 0 ≤ R 3 ∧ R 3 ≤ 20) (h9 : 0 ≤ R 209 ∧ R 209 ≤ 40) (h20 : R 3 < 20) (hw : 0 ≤ w ∧ w ≤ 99) (hx : x < 4 * R 0) : GD (B + 99) (nCom R x k f w s nm) := by
  obtain ⟨n, hN⟩ : ∃ n, nM R = n := ⟨_, rfl⟩
  have e3 : R 3 = iN n := by rw [← hN]; exact (nM_of h3).1
  have n20' : n < 20 := by
    have hn := (nM_of h3).2
    rw [e3] at h20
    exact (iN_lt (m := 20) (by omega) (by decide)).mp h20
  obtain ⟨S, hS⟩ : ∃ S, radd (rup (rup (rup (rup (fNew R x nm) (9 + 10 * n + 1) k) (9 + 10 * n + 2) f) (9 + 10 * n + 7) w) (9 + 10 * n + 8) s) 3 1 = S := ⟨_, rfl⟩
  have vS : ∀ j, ¬ j = 3 → S j = if j = 9 + 10 * n + 8 then s else if j = 9 + 10 * n + 7 then w else if j = 9 + 10 * n + 2 then f else if j = 9 + 10 * n + 1 then k else if j = 9 + 10 * n + 9 then nm else if j = 9 + 10 * n + 0 then x else if 9 + 10 * n ≤ j ∧ j < 9 + 10 * n + 10 then 0 else R j := by
    intro j hj
    rw [← hS, radd_ne hj]
    unfold fNew zsh rup
    rw [hN]
    grind (splits := 40)
  have S3 : S 3 = iN (n + 1) := by
    rw [← hS, radd_at, rup_ne (by omega), rup_ne (by omega), rup_ne (by omega), rup_ne (by omega), fNew_ne (by omega), e3]
    exact iN_one n
  have SN : nM S = n + 1 := nM_iN S3 (by omega)
  have old : ∀ t, t < n → ∀ g, g < 10 → fld S t g = fld R t g := by
    intro t ht g hg
    show S (9 + 10 * t + g) = R (9 + 10 * t + g)
    rw [vS _ (by omega), if_neg (by omega), if_neg (by omega), if_neg (by omega), if_neg (by omega), if_neg (by omega), if_neg (by omega), if_neg (by omega)]
  have new : ∀ g, 3 ≤ g → g < 7 → fld S n g = 0 := by
    intro g h1 h2
    show S (9 + 10 * n + g) = 0
    rw [vS _ (by omega), if_neg (by omega), if_neg (by omega), if_neg (by omega), if_neg (by omega), if_neg (by omega), if_neg (by omega), if_pos (by omega)]
  have n7 : fld S n 7 = w := by
    show S (9 + 10 * n + 7) = w
    rw [vS _ (by omega), if_neg (by omega), if_pos rfl]
  have S0 : S 0 = R 0 := by
    rw [vS _ (by omega), if_neg (by omega), if_neg (by omega), if_neg (by omega), if_neg (by omega), if_neg (by omega), if_neg (by omega), if_neg (by omega)]
  have S9 : S 209 = R 209 := by
    rw [vS _ (by omega), if_neg (by omega), if_neg (by omega), if_neg (by omega), if_neg (by omega), if_neg (by omega), if_neg (by omega), if_neg (by omega)]
  obtain ⟨g1, g2, ⟨g3, gs⟩, g4⟩ := h
  rw [hN] at g3
  have sC : qSt S := by
    intro t ht
    rw [SN] at ht
    rw [S0]
    by_cases q : t < n
    · rw [old t q 0 (by decide)]
      exact gs t (by omega)
    · have : t = n := by omega
      subst this
      have e0 : fld S t 0 = x := by
        show S (9 + 10 * t + 0) = x
        rw [vS _ (by omega), if_neg (by omega), if_neg (by omega), if_neg (by omega), if_neg (by omega), if_neg (by omega), if_pos rfl]
      rw [e0]
      exact hx
  have gS : GD (B + 99) S := by
    refine ⟨fun t ht => ?_, fun t ht => ?_, ⟨?_, sC⟩, by rw [S0]; exact g4⟩
    · rw [SN] at ht
      by_cases q : t < n
      · rw [old t q 3 (by decide), old t q 4 (by decide), old t q 5 (by decide), old t q 6 (by decide)]
        exact g1 t (by omega)
      · have : t = n := by omega
        subst this
        rw [new 3 (by decide) (by decide), new 4 (by decide) (by decide), new 5 (by decide) (by decide), new 6 (by decide) (by decide)]
        decide
    · rw [SN] at ht
      by_cases q : t < n
      · rw [old t q 7 (by decide)]
        exact g2 t (by omega)
      · have : t = n := by omega
        subst this
        rw [n7]
        exact hw.1
    · rw [SN]
      show smN (swN S) n + swN S n ≤ B + 99
      rw [smN_cg (g := swN R) (fun j hj => by unfold swN; rw [old j hj 7 (by decide)])]
      have : swN S n ≤ 99 := by
        unfold swN
        rw [n7]
        obtain ⟨ew, lw⟩ := iN_of hw.1
        have h2 := hw.2
        rw [ew] at h2
        exact (iN_le (m := 99) lw (by decide)).mp h2
      omega
  unfold nCom
  rw [hN, hS]
  refine GD_te gS ?_ (by rw [S9]; exact h9)
  rw [S3]
  exact ⟨(iN_le (k := 0) (by decide) (by omega)).mpr (by omega), (iN_le (m := 20) (by omega) (by decide)).mpr (by omega)⟩
/-- the slots: what is kept is kept in both -/
def SL (B : Nat) (σ : gS) : Prop := (∀ s, s < 2 → σ 112 s = σ 329 s ∧ (0 ≤ σ (60 + 26 * s) 7 ∧ σ (60 + 26 * s) 7 ≤ 20) ∧ (¬ σ 112 s = 0 → SV σ (60 + 26 * s) (rowAt (σ 328) s) ∧ GD B (rowAt (σ 328) s)))
/-- what was: both remember the same, and it is good -/
def PG (B : Nat) (σ : gS) : Prop := PR σ ∧ (∀ u, u < (σ 113 2).toNatClampNeg → GD B (rowAt (σ 327) u)) ∧ ∀ j, j < 8 → 0 ≤ σ (115 + 26 * j) 7 ∧ σ (115 + 26 * j) 7 ≤ 20
/-- the relation of class and reference between two calls -/
def GR (B : Nat) (σ : gS) : Prop := SV σ 6 (σ 324) ∧ GD B (σ 324) ∧ PG B σ ∧ SL B σ ∧ TP σ ∧ σ 0 9 = σ 323 9 ∧ RS σ ∧ RZ σ ∧ RT σ
