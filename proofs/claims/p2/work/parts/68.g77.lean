-- text 77
/-! RELATION: undo -/
def clW (σ : gS) : gS := if σ 113 2 = 0 then σ else cBk σ
theorem GR_undo {B : Nat} {σ : gS} (h : GR B σ) : (∀ q, 323 ≤ q → clW σ q = σ q) ∧ (if σ 113 2 = 0 then -1 else σ 113 2 - 1) = (if σ 323 6 = 0 then -1 else σ 323 6 - 1) ∧ GR B (hUn (clW σ)) := by
  have h' := h
  obtain ⟨g1, g2, g3, g4, g5, g6, g7, g8, g9⟩ := h'
  obtain ⟨⟨p1, p2, p3⟩, p4, p5⟩ := g3
  obtain ⟨O, C, eo, ec, lo, lc, no, nc⟩ := bPa_n p1
  have eU : σ 323 6 = iN C := by rw [← p2]; exact ec
  have hpl : ∀ u, cPl σ u = 115 + 26 * ((O + u) % 8) := fun u => by unfold cPl; rw [no]
  have hm : ∀ u, (O + u) % 8 < 8 := fun u => Nat.mod_lt _ (by decide)
  by_cases hz : σ 113 2 = 0
  · have hz2 : σ 323 6 = 0 := by rw [← p2]; exact hz
    unfold clW hUn
    rw [if_pos hz, if_pos hz, if_pos hz2, if_pos hz2]
    exact ⟨fun q _ => rfl, rfl, h⟩
  · have hz2 : ¬ σ 323 6 = 0 := by rw [← p2]; exact hz
    have C1 : 1 ≤ C := by
      rw [ec] at hz
      have : C ≠ 0 := fun q => hz (by rw [q]; rfl)
      omega
    have eD : iN C - 1 = iN (C - 1) := iN_sub (d := 1) (by omega) (by omega)
    have sU := p3 (C - 1) (by rw [nc]; omega)
    have gU := p4 (C - 1) (by rw [nc]; omega)
    rw [hpl] at sU
    have mU := hm (C - 1)
    have eW : clW σ = cCo (gup σ 113 2 (iN (C - 1))) 6 (115 + 26 * ((O + (C - 1)) % 8)) := by
      unfold clW cBk
      rw [if_neg hz, nc, hpl, ec, eD]
    have s1 : SV (gup σ 113 2 (iN (C - 1))) (115 + 26 * ((O + (C - 1)) % 8)) (rowAt (σ 327) (C - 1)) := SV_blk sU (fun q q1 q2 => funext fun j => gup_ne (by omega))
    have nU : (gup σ 113 2 (iN (C - 1)) (115 + 26 * ((O + (C - 1)) % 8)) 7).toNatClampNeg ≤ 20 := by
      rw [(SV_3 s1).2.2]
      exact (SV_3 s1).2.1
    have sC := cCo_ok (p := 6) (q := 115 + 26 * ((O + (C - 1)) % 8)) (by omega) s1
    have fW : ∀ q j, q < 6 ∨ 32 ≤ q → ¬ (q = 113 ∧ j = 2) → clW σ q j = σ q j := fun q j hq hj => by
      rw [eW, cCo_far (by omega) nU, gup_ne hj]
    have w2 : clW σ 113 2 = iN (C - 1) := by rw [eW, cCo_far (by omega) nU, gup_at]
    have hi : ∀ q, 323 ≤ q → clW σ q = σ q := fun q hq => funext fun j => fW q j (by omega) (by omega)
    refine ⟨hi, by rw [if_neg hz, if_neg hz2, p2], ?_⟩
    unfold hUn
    rw [hi 323 (by decide), hi 327 (by decide), if_neg hz2, eU, eD, iN_nat (by omega)]
    obtain ⟨τ, hτ⟩ : ∃ τ, grow (grow (clW σ) 323 (rup (σ 323) 6 (iN (C - 1)))) 324 (rowAt (σ 327) (C - 1)) = τ := ⟨_, rfl⟩
    rw [hτ]
    have t : ∀ q, ¬ q = 323 → ¬ q = 324 → τ q = clW σ q := fun q q1 q2 => by rw [← hτ, grow_ne q2, grow_ne q1]
    have t324 : τ 324 = rowAt (σ 327) (C - 1) := by rw [← hτ, grow_at]
    have t323 : τ 323 = rup (σ 323) 6 (iN (C - 1)) := by rw [← hτ, grow_ne (by decide), grow_at]
    have tq : ∀ q, q < 6 ∨ 32 ≤ q → ¬ q = 113 → ¬ q = 323 → ¬ q = 324 → τ q = σ q := fun q hq q1 q2 q3 => by
      rw [t q q2 q3]
      exact funext fun j => fW q j hq (by omega)
    have t1 : τ 113 1 = σ 113 1 := by rw [t 113 (by decide) (by decide)]; exact fW 113 1 (by decide) (by decide)
    have t2 : τ 113 2 = iN (C - 1) := by rw [t 113 (by decide) (by decide)]; exact w2
    have eP : ∀ u, cPl τ u = cPl σ u := fun u => by unfold cPl; rw [t1]
    have b8 : 0 ≤ iN (C - 1) ∧ iN (C - 1) ≤ 8 := ⟨(iN_le (k := 0) (by decide) (by omega)).mpr (by omega), (iN_le (m := 8) (by omega) (by decide)).mpr (by omega)⟩
    have e327 := tq 327 (by decide) (by decide) (by decide) (by decide)
    refine ⟨?_, by rw [t324]; exact gU, ⟨⟨?_, ?_, fun u hu => ?_⟩, fun u hu => ?_, fun j hj => ?_⟩, SL_same (Nat.le_refl _) g4 (fun q q1 q2 => tq q (by omega) (by omega) (by omega) (by omega)) (tq 328 (by decide) (by decide) (by decide) (by decide)) (tq 329 (by decide) (by decide) (by decide) (by decide)), ?_, ?_, ?_, ?_, ?_⟩
    · rw [t324]
      rw [← eW] at sC
      exact SV_blk sC (fun q q1 q2 => t q (by omega) (by omega))
    · unfold bPa
      rw [t1, t2]
      exact ⟨p1.1, b8⟩
    · rw [t2, t323, rup_at]
    · rw [t2, iN_nat (by omega)] at hu
      rw [eP, e327, hpl]
      have := p3 u (by rw [nc]; omega)
      rw [hpl] at this
      have mu := hm u
      exact SV_blk this (fun q q1 q2 => tq q (by omega) (by omega) (by omega) (by omega))
    · rw [t2, iN_nat (by omega)] at hu
      rw [e327]
      exact p4 u (by rw [nc]; omega)
    · rw [tq _ (by omega) (by omega) (by omega) (by omega)]
      exact p5 j hj
    · unfold TP
      rw [tq 2 (by decide) (by decide) (by decide) (by decide), tq 3 (by decide) (by decide) (by decide) (by decide), tq 330 (by decide) (by decide) (by decide) (by decide), t323, rup_ne (by decide)]
      exact g5
    · rw [tq 0 (by decide) (by decide) (by decide) (by decide), t323, rup_ne (by decide)]
      exact g6
    · unfold RS
      rw [t324, t323, rup_at]
      have sb := SV_b sU
      exact ⟨sb, b8⟩
    · unfold RZ
      rw [t324, tq 325 (by decide) (by decide) (by decide) (by decide), tq 326 (by decide) (by decide) (by decide) (by decide)]
      exact ⟨zR_rowAt _ _, g8.2.1, g8.2.2⟩
    · unfold RT
      rw [t323, rup_ne (by decide)]
      exact g9
