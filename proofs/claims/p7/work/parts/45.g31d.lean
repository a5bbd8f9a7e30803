/-- the past of class and reference -/
def PR (σ : gS) : Prop := bPa σ ∧ σ 113 2 = σ 323 6 ∧ ∀ u, u < (σ 113 2).toNatClampNeg → SV σ (cPl σ u) (rowAt (σ 327) u)
theorem rowAt_lt {E : gW} {u j : Nat} (h : j < 330) : rowAt E u j = E (330 * u + j) := by unfold rowAt; rw [if_pos h]
theorem rla_hi {S T : gW} {b k j : Nat} (h : j < b) : rla S T 0 b k j = T j := by unfold rla; rw [if_neg (by omega)]
theorem rla_in {S T : gW} {b k j : Nat} (h : j < k) : rla S T 0 b k (b + j) = S j := by unfold rla; rw [if_pos (by omega), Nat.zero_add, Nat.add_sub_cancel_left]
theorem cPl_mod (O i : Nat) : (O + i) % 8 < 8 := Nat.mod_lt _ (by decide)
theorem PR_keep {σ τ : gS} (h : PR σ) (h6 : SV σ 6 (σ 324)) (hq : ∀ q, 113 ≤ q → q < 323 → τ q = cRem σ q) (hE : τ 327 = fKe (σ 324) (σ 327) (σ 323 6)) (hU : τ 323 6 = fKu (σ 323 6)) : PR τ := by
  obtain ⟨hp, hu, hs⟩ := h
  obtain ⟨O, C, eo, ec, lo, lc, no, nc⟩ := bPa_n hp
  obtain ⟨b3, bn, e7⟩ := SV_3 h6
  have n7 : (σ 6 7).toNatClampNeg ≤ 20 := by rw [e7]; exact bn
  have eU : σ 323 6 = iN C := by rw [← hu]; exact ec
  have eP : cPl σ (σ 113 2).toNatClampNeg = 115 + 26 * ((O + C) % 8) := by unfold cPl; rw [no, nc]
  have hm := cPl_mod O C
  rw [nc] at hs
  have hpl : ∀ u, cPl σ u = 115 + 26 * ((O + u) % 8) := fun u => by unfold cPl; rw [no]
  -- the copy
  have hcp := cCo_ok (p := 115 + 26 * ((O + C) % 8)) (q := 6) (Or.inl (by omega)) h6
  have old : ∀ u, u < C → (O + u) % 8 ≠ (O + C) % 8 → SV (cCo σ (115 + 26 * ((O + C) % 8)) 6) (115 + 26 * ((O + u) % 8)) (rowAt (σ 327) u) := by
    intro u hu2 hne
    have h2 := hs u hu2
    rw [hpl] at h2
    refine SV_blk h2 (fun q q1 q2 => ?_)
    funext j
    exact cCo_far (by omega) n7
  by_cases h8 : C < 8
  · have c8 : σ 113 2 < 8 := by rw [ec]; exact (iN_lt (m := 8) (by omega) (by decide)).mpr h8
    have eR : cRem σ = gup (cCo σ (115 + 26 * ((O + C) % 8)) 6) 113 2 (iN (C + 1)) := by
      unfold cRem
      rw [if_pos c8, eP, ec, iN_one]
    have t2 : τ 113 2 = iN (C + 1) := by rw [hq 113 (by decide) (by decide), eR, gup_at]
    have t1 : τ 113 1 = iN O := by rw [hq 113 (by decide) (by decide), eR, gup_ne (by omega), cCo_far (by omega) n7]; exact eo
    have nt1 : (τ 113 1).toNatClampNeg = O := by rw [t1, iN_nat (by omega)]
    have blk : ∀ x, x < 8 → ∀ q, 115 + 26 * x ≤ q → q < 115 + 26 * x + 26 → τ q = cCo σ (115 + 26 * ((O + C) % 8)) 6 q := by
      intro x hx q q1 q2
      rw [hq q (by omega) (by omega), eR]
      funext j
      rw [gup_ne (by omega)]
    have nE : fKe (σ 324) (σ 327) (σ 323 6) = rla (σ 324) (σ 327) 0 (330 * C) 330 := by
      unfold fKe
      rw [eU, if_neg (show ¬ iN C = (8 : Int32) from iN_eq (a := C) (b := 8) (by omega) (by decide) (by omega)), iN_nat (by omega)]
    refine ⟨⟨?_, ?_⟩, ?_, ?_⟩
    · rw [t1, ← eo]; exact hp.1
    · rw [t2]
      exact ⟨(iN_le (k := 0) (by decide) (by omega)).mpr (by omega), (iN_le (m := 8) (by omega) (by decide)).mpr (by omega)⟩
    · rw [t2, hU]
      unfold fKu
      rw [eU, if_neg (show ¬ iN C = (8 : Int32) from iN_eq (a := C) (b := 8) (by omega) (by decide) (by omega)), iN_one]
    · intro u hu2
      rw [t2, iN_nat (by omega)] at hu2
      have ep : cPl τ u = 115 + 26 * ((O + u) % 8) := by unfold cPl; rw [nt1]
      rw [ep, hE, nE]
      refine SV_blk ?_ (blk _ (cPl_mod O u))
      by_cases q : u = C
      · rw [q]
        refine SV_row hcp (fun j hj => ?_)
        rw [rowAt_lt hj, rla_in hj]
      · refine SV_row (old u (by omega) (by omega)) (fun j hj => ?_)
        rw [rowAt_lt hj, rowAt_lt hj, rla_hi (by omega)]
  · have e8 : C = 8 := by omega
    subst e8
    have c8 : ¬ σ 113 2 < 8 := by rw [ec]; decide
    have eR : cRem σ = gup (cCo σ (115 + 26 * ((O + 8) % 8)) 6) 113 1 (iN ((O + 1) % 8)) := by
      unfold cRem
      rw [if_neg c8, eP, no]
    have lo1 : (O + 1) % 8 < 8 := Nat.mod_lt _ (by decide)
    have t2 : τ 113 2 = iN 8 := by rw [hq 113 (by decide) (by decide), eR, gup_ne (by omega), cCo_far (by omega) n7]; exact ec
    have t1 : τ 113 1 = iN ((O + 1) % 8) := by rw [hq 113 (by decide) (by decide), eR, gup_at]
    have nt1 : (τ 113 1).toNatClampNeg = (O + 1) % 8 := by rw [t1, iN_nat (by omega)]
    have blk : ∀ x, x < 8 → ∀ q, 115 + 26 * x ≤ q → q < 115 + 26 * x + 26 → τ q = cCo σ (115 + 26 * ((O + 8) % 8)) 6 q := by
      intro x hx q q1 q2
      rw [hq q (by omega) (by omega), eR]
      funext j
      rw [gup_ne (by omega)]
    have nE : fKe (σ 324) (σ 327) (σ 323 6) = rla (σ 324) (esh (σ 327) 7) 0 2310 330 := by
      unfold fKe
      rw [eU, if_pos (show iN 8 = (8 : Int32) from rfl)]
    refine ⟨⟨?_, ?_⟩, ?_, ?_⟩
    · rw [t1]
      exact ⟨(iN_le (k := 0) (by decide) (by omega)).mpr (by omega), (iN_lt (m := 8) (by omega) (by decide)).mpr (by omega)⟩
    · rw [t2]; decide
    · rw [t2, hU]
      unfold fKu
      rw [eU, if_pos (show iN 8 = (8 : Int32) from rfl)]
      rfl
    · intro u hu2
      rw [t2, iN_nat (by omega)] at hu2
      have ep : cPl τ u = 115 + 26 * (((O + 1) % 8 + u) % 8) := by unfold cPl; rw [nt1]
      have em : ((O + 1) % 8 + u) % 8 = (O + (u + 1)) % 8 := by omega
      rw [ep, em, hE, nE]
      refine SV_blk ?_ (blk _ (cPl_mod O (u + 1)))
      by_cases q : u = 7
      · subst q
        refine SV_row hcp (fun j hj => ?_)
        rw [rowAt_lt hj]
        exact rla_in hj
      · refine SV_row (old (u + 1) (by omega) (by omega)) (fun j hj => ?_)
        rw [rowAt_lt hj, rowAt_lt hj, rla_hi (by omega)]
        unfold esh
        rw [if_pos (by omega), show 330 * (u + 1) + j = 330 * u + j + 330 by omega]

