/-! RELATION: what set and settle make of the row -/
theorem SV_set {σ : gS} {R : gW} {t : Nat} {w v : Int32} (h : SV σ 6 R) (ht : t < nM R) (hw : inR R w v) : SV (cAdd (gup σ (6 + 2 + t) (fof w + 1) v) 6 (10 * iN t + w) (σ (6 + 2 + t) (fof w + 1))) 6 (nSet R (iN t) w v) := by
  have bn := (SV_3 h).2.1
  have fl := fof_le hw
  have e : σ (6 + 2 + t) (fof w + 1) = fld R t (fof w) := by
    rw [← cR_f (σ := σ) (p := 6) (t := t) (f := fof w) (by omega) (by omega)]
    exact h.1.2 t (by rw [agr_n h.1]; exact ht) _ (by omega)
  have f2 : ¬ fof w = 2 := by
    rcases inR_cases hw with e | e | e | e | e <;> subst e <;> decide
  have f1 : fof w = 1 → v = 0 ∨ v = 1 := by
    intro q
    rcases hw with z | z | z | z
    · rcases z.1 with e | e <;> subst e <;> exact absurd q (by decide)
    · rw [z.1] at q; exact absurd q (by decide)
    · rw [z.1] at q; exact absurd q (by decide)
    · have h1 := z.2.1
      have h2 := z.2.2
      grind
  unfold nSet
  rw [iN_nat (by omega), e]
  exact SV_add (SV_fld h ht (by omega) (by omega) f2 f1)
theorem fld_radd {R : gW} {k t f : Nat} {x : Int32} (h : k < 9) : fld (radd R k x) t f = fld R t f := by
  unfold fld
  exact radd_ne (by omega)
theorem fJa_radd {R : gW} {k : Nat} {x : Int32} (h : k < 9) (h3 : ¬ k = 3) : fJa (radd R k x) = fJa R := by
  unfold fJa
  rw [nM_radd h3]
  refine sm_congr (fun t ht => ?_)
  unfold fJo fJoy kin
  have e : kinP (radd R k x) t (fld R t 0 / 8) = kinP R t (fld R t 0 / 8) := by
    funext j
    unfold kinP
    simp only [fld_radd h]
  simp only [fld_radd h, nM_radd h3, e]
/-- settling: class and reference -/
theorem SV_stl {σ : gS} {R : gW} (h : SV σ 6 R) (hF : bF R) (hW : bW R) : (cSt 99 (cCo σ 32 6)).1 = (fSt 99 R).1 ∧ SV (cStl (cSt 99 (cCo σ 32 6))) 6 (nStl R) := by
  obtain ⟨b3, bn, e7⟩ := SV_3 h
  have n7 : (σ 6 7).toNatClampNeg ≤ 20 := by rw [e7]; exact bn
  have s32 : SV (cCo σ 32 6) 32 R := cCo_ok (by omega) h
  obtain ⟨k1, k2, k3, k4⟩ := cSt_ok (d := 99) s32 hF hW
  obtain ⟨t1, l1, f1⟩ := cSt_tc (d := 99) s32.2.1
  refine ⟨k1, ?_⟩
  obtain ⟨x, hx⟩ : ∃ x, cSt 99 (cCo σ 32 6) = x := ⟨_, rfl⟩
  rw [hx] at k1 k2 t1 l1 f1 ⊢
  have f6 : ∀ q, q < 32 → x.2 q = σ q := fun q hq => by
    rw [f1 q (Or.inl hq)]
    funext j
    exact cCo_far (by omega) n7
  have x7 : 0 ≤ x.2 6 7 ∧ x.2 6 7 ≤ 20 := by rw [f6 6 (by decide), e7]; exact b3
  have r32 : SV (cRem x.2) 32 (fSt 99 R).2 := SV_blk k2 (fun q q1 q2 => cRem_far (Or.inl (by omega)) x7)
  have s6 : SV (cCo (cRem x.2) 6 32) 6 (fSt 99 R).2 := cCo_ok (by omega) r32
  have s7 := SV_gh (k := 4) (x := iN x.1) s6 (by decide) (by decide)
  have a32 : fJa (cR x.2 32) = fJa (fSt 99 R).2 := agr_Ja k2.1
  have a6 : fJa (cR x.2 6) = fJa R := by
    rw [cR_blk (σ := σ) (τ := x.2) (fun q q1 q2 => f6 q (by omega))]
    exact agr_Ja h.1
  have s8 := SV_add (w := 5) (a := iN x.1) (b := fJa (fSt 99 R).2 - fJa R) s7
  unfold cStl nStl
  rw [a32, a6, fJa_radd (by decide) (by decide), ← k1]
  exact s8
