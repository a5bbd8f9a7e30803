-- text 61
/-! RELATION: what swaps, moves, rings, first and set make of the row -/
theorem SV_gf {σ : gS} {p t f : Nat} {R : gW} {x : Int32} (h : SV σ p R) (ht : t < nM R) (hf : f < 9) (h3 : 3 ≤ f) : SV (gad σ (p + 2 + t) (f + 1) x) p (radd R (9 + 10 * t + f) x) := by
  have e : σ (p + 2 + t) (f + 1) = R (9 + 10 * t + f) := by
    have hn := (SV_3 h).2.1
    rw [← cR_f (σ := σ) (p := p) (t := t) (f := f) (by omega) hf]
    exact h.1.2 t (by rw [agr_n h.1]; exact ht) f hf
  unfold gad radd
  rw [e]
  exact SV_fld h ht hf (by omega) (by omega) (fun q => by omega)
theorem SV_gh {σ : gS} {p k : Nat} {R : gW} {x : Int32} (h : SV σ p R) (hk : k < 9) (h3 : ¬ k = 3) : SV (gad σ p (k + 4) x) p (radd R k x) := by
  have e : σ p (k + 4) = R k := by
    rw [← cR_h (σ := σ) (p := p) hk]
    exact h.1.1 k hk
  unfold gad radd
  rw [e]
  exact SV_hdr h hk h3
theorem radd_cm (R : gW) {i j : Nat} (x y : Int32) (h : ¬ i = j) : radd (radd R i x) j y = radd (radd R j y) i x := by
  funext q
  unfold radd rup
  grind
theorem nM_radd {R : gW} {k : Nat} {x : Int32} (h : ¬ k = 3) : nM (radd R k x) = nM R := by unfold nM; rw [radd_ne (by omega)]
theorem SV_swa {σ : gS} {R : gW} {a b : Nat} {x : Int32} (h : SV σ 6 R) (ha : a < nM R) (hb : b < nM R) : SV (cDsw σ a b x) 6 (nSwa R (iN a) (iN b) x) := by
  have bn := (SV_3 h).2.1
  unfold cDsw nSwa
  rw [iN_nat (by omega), iN_nat (by omega), radd_cm _ _ _ (by decide)]
  have s1 := SV_ex h ha hb
  have s2 := SV_gf (t := a) (f := 7) (x := -x) s1 (by rw [nM_rsw]; exact ha) (by decide) (by decide)
  have s3 := SV_gf (t := b) (f := 7) (x := x) s2 (by rw [nM_radd (by omega), nM_rsw]; exact hb) (by decide) (by decide)
  have s4 := SV_gh (k := 4) (x := 1) s3 (by decide) (by decide)
  have s5 := SV_gh (k := 7) (x := x) s4 (by decide) (by decide)
  exact SV_add s5
theorem SV_mov {σ : gS} {R : gW} {a : Nat} {x : Int32} (h : SV σ 6 R) (ha : a < nM R) (hx : 0 ≤ x ∧ x < 40) : SV (cDmo σ a x) 6 (nMov R (iN a) x) := by
  have bn := (SV_3 h).2.1
  unfold cDmo nMov
  rw [iN_nat (by omega)]
  have e : σ (6 + 2 + a) 1 = fld R a 0 := by
    rw [← cR_f (σ := σ) (p := 6) (t := a) (f := 0) (by omega) (by decide)]
    exact h.1.2 a (by rw [agr_n h.1]; exact ha) 0 (by decide)
  rw [e]
  exact SV_add (SV_gh (k := 5) (x := 1) (SV_sit h ha hx) (by decide) (by decide))
theorem SV_rin {σ : gS} {R : gW} {a b c : Nat} (h : SV σ 6 R) (ha : a < nM R) (hb : b < nM R) (hc : c < nM R) (hd : a ≠ b ∧ b ≠ c ∧ a ≠ c) : SV (cDri σ a b c) 6 (nRin R (iN a) (iN b) (iN c)) := by
  have bn := (SV_3 h).2.1
  unfold cDri nRin
  rw [iN_nat (by omega), iN_nat (by omega), iN_nat (by omega)]
  exact SV_add (SV_gh (k := 6) (x := 1) (SV_pas h ha hb hc hd) (by decide) (by decide))
theorem SV_fir {σ : gS} {R : gW} {f : Int32} (h : SV σ 6 R) : SV (cAdd (gup σ 6 5 f) 7 0 (σ 6 5)) 6 (nFir R f) := by
  have e : σ 6 5 = R 1 := by
    rw [← cR_h (σ := σ) (p := 6) (j := 1) (by decide)]
    exact h.1.1 1 (by decide)
  unfold nFir
  rw [e]
  exact SV_add (SV_hdr (k := 1) h (by decide) (by decide))
-- text 62
/-! RELATION: what set and settle make of the row -/
theorem SV_set {σ : gS} {R : gW} {t : Nat} {w v : Int32} (h : SV σ 6 R) (ht : t < nM R) (hw : inR R w v) : SV (cAdd (gup σ (6 + 2 + t) (fof w + 1) v) 6 (10 * iN t + w) (σ (6 + 2 + t) (fof w + 1))) 6 (nSet R (iN t) w v) := by
  have bn := (SV_3 h).2.1
  have fl := fof_le hw
  have e : σ (6 + 2 + t) (fof w + 1) = fld R t (fof w) := by
    rw [← cR_f (σ := σ) (p := 6) (t := t) (f := fof w) (by omega) (by omega)]
    exact h.1.2 t (by rw [agr_n h.1]; exact ht) _ (by omega)
  have f2 : ¬ fof w = 2 := by
    rcases inR_cases hw with e | e | e | e | e <;> subst e <;> decide
  have f1 : fof w = 1 → v = 0 ∨ v = 1 := by
    intro q
    rcases hw with z | z | z | z
    · rcases z.1 with e | e <;> subst e <;> exact absurd q (by decide)
    · rw [z.1] at q; exact absurd q (by decide)
    · rw [z.1] at q; exact absurd q (by decide)
    · have h1 := z.2.1
      have h2 := z.2.2
      grind
  unfold nSet
  rw [iN_nat (by omega), e]
  exact SV_add (SV_fld h ht (by omega) (by omega) f2 f1)
theorem fld_radd {R : gW} {k t f : Nat} {x : Int32} (h : k < 9) : fld (radd R k x) t f = fld R t f := by
  unfold fld
  exact radd_ne (by omega)
theorem fJa_radd {R : gW} {k : Nat} {x : Int32} (h : k < 9) (h3 : ¬ k = 3) : fJa (radd R k x) = fJa R := by
  unfold fJa
  rw [nM_radd h3]
  refine sm_congr (fun t ht => ?_)
  unfold fJo fJoy kin
  have e : kinP (radd R k x) t (fld R t 0 / 8) = kinP R t (fld R t 0 / 8) := by
    funext j
    unfold kinP
    simp only [fld_radd h]
  simp only [fld_radd h, nM_radd h3, e]
/-- settling: class and reference -/
theorem SV_stl {σ : gS} {R : gW} (h : SV σ 6 R) (hF : bF R) (hW : bW R) : (cSt 99 (cCo σ 32 6)).1 = (fSt 99 R).1 ∧ SV (cStl (cSt 99 (cCo σ 32 6))) 6 (nStl R) := by
  obtain ⟨b3, bn, e7⟩ := SV_3 h
  have n7 : (σ 6 7).toNatClampNeg ≤ 20 := by rw [e7]; exact bn
  have s32 : SV (cCo σ 32 6) 32 R := cCo_ok (by omega) h
  obtain ⟨k1, k2, k3, k4⟩ := cSt_ok (d := 99) s32 hF hW
  obtain ⟨t1, l1, f1⟩ := cSt_tc (d := 99) s32.2.1
  refine ⟨k1, ?_⟩
  obtain ⟨x, hx⟩ : ∃ x, cSt 99 (cCo σ 32 6) = x := ⟨_, rfl⟩
  rw [hx] at k1 k2 t1 l1 f1 ⊢
  have f6 : ∀ q, q < 32 → x.2 q = σ q := fun q hq => by
    rw [f1 q (Or.inl hq)]
    funext j
    exact cCo_far (by omega) n7
  have x7 : 0 ≤ x.2 6 7 ∧ x.2 6 7 ≤ 20 := by rw [f6 6 (by decide), e7]; exact b3
  have r32 : SV (cRem x.2) 32 (fSt 99 R).2 := SV_blk k2 (fun q q1 q2 => cRem_far (Or.inl (by omega)) x7)
  have s6 : SV (cCo (cRem x.2) 6 32) 6 (fSt 99 R).2 := cCo_ok (by omega) r32
  have s7 := SV_gh (k := 4) (x := iN x.1) s6 (by decide) (by decide)
  have a32 : fJa (cR x.2 32) = fJa (fSt 99 R).2 := agr_Ja k2.1
  have a6 : fJa (cR x.2 6) = fJa R := by
    rw [cR_blk (σ := σ) (τ := x.2) (fun q q1 q2 => f6 q (by omega))]
    exact agr_Ja h.1
  have s8 := SV_add (w := 5) (a := iN x.1) (b := fJa (fSt 99 R).2 - fJa R) s7
  unfold cStl nStl
  rw [a32, a6, fJa_radd (by decide) (by decide), ← k1]
  exact s8
