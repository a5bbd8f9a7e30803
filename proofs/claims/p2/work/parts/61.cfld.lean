/-! CLASS AND REFERENCE: copies, the past -/
theorem cLc_ne {σ : gS} {d s b j : Nat} (h : ¬ b = d) (h2 : ¬ b = d + 1) : cLc σ d s b j = σ b j := by
  unfold cLc
  rw [gup_ne (by omega), gup_ne (by omega)]
  unfold cA1
  rw [if_neg (by omega)]
theorem cCo_hd {σ : gS} {p q j : Nat} (hpq : q + 26 ≤ p ∨ p + 26 ≤ q) (hn : (σ q 7).toNatClampNeg ≤ 20) (h : 4 ≤ j) (h2 : j < 13) : cCo σ p q p j = σ q j := by
  unfold cCo cHd
  rw [if_pos (by omega), cLc_ne (by omega) (by omega)]
  unfold cA1
  rw [if_neg (by omega)]
  unfold cT1
  rw [if_neg (by omega)]
theorem cCo_tr {σ : gS} {p q t j : Nat} (hn : (σ q 7).toNatClampNeg ≤ 20) (ht : t < (σ q 7).toNatClampNeg) (hj : j < 10) : cCo σ p q (p + 2 + t) j = σ (q + 2 + t) j := by
  unfold cCo cHd
  rw [if_neg (by omega), cLc_ne (by omega) (by omega)]
  unfold cA1
  rw [if_neg (by omega)]
  unfold cT1
  rw [if_pos (by omega), show q + (p + 2 + t - p) = q + 2 + t by omega]
theorem cCo_me {σ : gS} {p q j : Nat} (hpq : q + 26 ≤ p ∨ p + 26 ≤ q) (hn : (σ q 7).toNatClampNeg ≤ 20) (hj : j < 50) : cCo σ p q (p + 23) j = σ (q + 23) j := by
  unfold cCo cHd
  rw [if_neg (by omega), cLc_ne (by omega) (by omega)]
  unfold cA1
  rw [if_pos (by omega)]
  unfold cT1
  rw [if_neg (by omega)]
theorem cA1_ne {σ : gS} {d s k b j : Nat} (h : ¬ b = d) : cA1 σ d s k b j = σ b j := by unfold cA1; rw [if_neg (by omega)]
theorem cT1_ne {σ : gS} {p q k b j : Nat} (h : b < p + 2 ∨ p + 2 + k ≤ b) : cT1 σ p q k b j = σ b j := by unfold cT1; rw [if_neg (by omega)]
theorem cCo_lg {σ : gS} {p q : Nat} (hpq : q + 26 ≤ p ∨ p + 26 ≤ q) (hn : (σ q 7).toNatClampNeg ≤ 20) : cCo σ p q (p + 24) 1 = σ (q + 24) 1 ∧ cCo σ p q (p + 24) 2 = σ (q + 24) 2 ∧ ∀ j, j < 120 → cCo σ p q (p + 24 + 1) j = σ (q + 24 + 1) j := by
  have e1 : ∀ b j, b ≠ p → cCo σ p q b j = cLc (cA1 (cT1 σ p q (σ q 7).toNatClampNeg) (p + 23) (q + 23) 50) (p + 24) (q + 24) b j := fun b j h => by
    unfold cCo cHd
    rw [if_neg (by omega)]
  refine ⟨?_, ?_, fun j hj => ?_⟩
  · rw [e1 _ _ (by omega)]
    unfold cLc
    rw [gup_ne (by omega), gup_at, cA1_ne (by omega), cT1_ne (by omega)]
  · rw [e1 _ _ (by omega)]
    unfold cLc
    rw [gup_at, cA1_ne (by omega), cT1_ne (by omega)]
  · rw [e1 _ _ (by omega)]
    unfold cLc
    rw [gup_ne (by omega), gup_ne (by omega)]
    have e2 : cA1 (cA1 (cT1 σ p q (σ q 7).toNatClampNeg) (p + 23) (q + 23) 50) (p + 24 + 1) (q + 24 + 1) 120 (p + 24 + 1) j = cA1 (cT1 σ p q (σ q 7).toNatClampNeg) (p + 23) (q + 23) 50 (q + 24 + 1) j := by
      show (if p + 24 + 1 = p + 24 + 1 ∧ j < 120 then _ else _) = _
      rw [if_pos ⟨rfl, hj⟩]
    rw [e2, cA1_ne (by omega), cT1_ne (by omega)]
theorem mem_agr {R S : gW} (h : agr R S) (b f : Int32) : mem R b f = mem S b f := by
  unfold mem
  rw [← agr_n h]
  refine cnt_congr (fun j hj => ?_)
  unfold memP
  rw [h.2 j hj 0 (by decide), h.2 j hj 2 (by decide)]
theorem bT_agr {R S : gW} (h : agr R S) (hb : bT R) : bT S := by
  intro t ht
  rw [← agr_n h] at ht
  rw [← h.2 t ht 1 (by decide), ← h.2 t ht 0 (by decide), ← h.2 t ht 2 (by decide)]
  exact hb t ht
/-- a copy stands for the same row -/
theorem cCo_ok {σ : gS} {p q : Nat} {R : gW} (hpq : q + 26 ≤ p ∨ p + 26 ≤ q) (h : SV σ q R) : SV (cCo σ p q) p R := by
  obtain ⟨b3, bn, e7⟩ := SV_3 h
  obtain ⟨h1, ⟨t1, t2, t3⟩, h3, h4⟩ := h
  have en : (σ q 7).toNatClampNeg = nM R := by rw [e7]; rfl
  have hn : (σ q 7).toNatClampNeg ≤ 20 := by omega
  have e3 : cR (cCo σ p q) p 3 = cR σ q 3 := by rw [cR_3, cR_3, cCo_hd hpq hn (by decide) (by decide)]
  have eN : nM (cR (cCo σ p q) p) = nM R := by
    unfold nM
    rw [e3, cR_3, e7]
  have ha : agr (cR (cCo σ p q) p) (cR σ q) := by
    refine ⟨fun j hj => ?_, fun t ht f hf => ?_⟩
    · rw [cR_h hj, cR_h hj, cCo_hd hpq hn (by omega) (by omega)]
    · rw [eN] at ht
      rw [cR_f (by omega) hf, cR_f (by omega) hf, cCo_tr hn (by omega) (by omega)]
  refine ⟨agr_trans ha h1, ⟨by rw [e3]; exact t1, bT_agr (agr_symm ha) t2, ?_⟩, ?_, ?_⟩
  · intro a ha2 f hf
    rw [cCo_me hpq hn (by omega), mem_agr ha]
    exact t3 a ha2 f hf
  · obtain ⟨l1, l2, l3⟩ := cCo_lg (σ := σ) hpq hn
    obtain ⟨O, S, eo, es, lo, ls, no, ns⟩ := bLg_n h3.1
    refine ⟨?_, ?_, ?_⟩
    · unfold bLg
      rw [l1, l2]
      exact h3.1
    · rw [l2]; exact h3.2.1
    · intro i hi c hc
      rw [l2] at hi
      rw [l1, l3 _ (by have := Nat.mod_lt ((σ (q + 24) 1).toNatClampNeg + i) (show 0 < 40 by decide); omega)]
      exact h3.2.2 i hi c hc
  · intro t ht
    rw [cCo_tr hn (by omega) (by omega)]
    exact h4 t ht
/-- the past of class and reference -/
def PR (σ : gS) : Prop := bPa σ ∧ σ 113 2 = σ 323 6 ∧ ∀ u, u < (σ 113 2).toNatClampNeg → SV σ (cPl σ u) (rowAt (σ 327) u)
theorem rowAt_lt {E : gW} {u j : Nat} (h : j < 330) : rowAt E u j = E (330 * u + j) := by unfold rowAt; rw [if_pos h]
theorem rla_hi {S T : gW} {b k j : Nat} (h : j < b) : rla S T 0 b k j = T j := by unfold rla; rw [if_neg (by omega)]
theorem rla_in {S T : gW} {b k j : Nat} (h : j < k) : rla S T 0 b k (b + j) = S j := by unfold rla; rw [if_pos (by omega), Nat.zero_add, Nat.add_sub_cancel_left]
theorem cPl_mod (O i : Nat) : (O + i) % 8 < 8 := Nat.mod_lt _ (by decide)
theorem PR_keep {σ τ : gS} (h : PR σ) (h6 : SV σ 6 (σ 324)) (hq : ∀ q, 113 ≤ q → q < 323 → τ q = cRem σ q) (hE : τ 327 = fKe (σ 324) (σ 327) (σ 323 6)) (hU : τ 323 6 = fKu (σ 323 6)) : PR τ := by
  obtain ⟨hp, hu, hs⟩ := h
  obtain ⟨O, C, eo, ec, lo, lc, no, nc⟩ := bPa_n hp
  obtain ⟨b3, bn, e7⟩ := SV_3 h6
  have n7 : (σ 6 7).toNatClampNeg ≤ 20 := by rw [e7]; exact bn
  have eU : σ 323 6 = iN C := by rw [← hu]; exact ec
  have eP : cPl σ (σ 113 2).toNatClampNeg = 115 + 26 * ((O + C) % 8) := by unfold cPl; rw [no, nc]
  have hm := cPl_mod O C
  rw [nc] at hs
  have hpl : ∀ u, cPl σ u = 115 + 26 * ((O + u) % 8) := fun u => by unfold cPl; rw [no]
  -- the copy
  have hcp := cCo_ok (p := 115 + 26 * ((O + C) % 8)) (q := 6) (Or.inl (by omega)) h6
  have old : ∀ u, u < C → (O + u) % 8 ≠ (O + C) % 8 → SV (cCo σ (115 + 26 * ((O + C) % 8)) 6) (115 + 26 * ((O + u) % 8)) (rowAt (σ 327) u) := by
    intro u hu2 hne
    have h2 := hs u hu2
    rw [hpl] at h2
    refine SV_blk h2 (fun q q1 q2 => ?_)
    funext j
    exact cCo_far (by omega) n7
  by_cases h8 : C < 8
  · have c8 : σ 113 2 < 8 := by rw [ec]; exact (iN_lt (m := 8) (by omega) (by decide)).mpr h8
    have eR : cRem σ = gup (cCo σ (115 + 26 * ((O + C) % 8)) 6) 113 2 (iN (C + 1)) := by
      unfold cRem
      rw [if_pos c8, eP, ec, iN_one]
    have t2 : τ 113 2 = iN (C + 1) := by rw [hq 113 (by decide) (by decide), eR, gup_at]
    have t1 : τ 113 1 = iN O := by rw [hq 113 (by decide) (by decide), eR, gup_ne (by omega), cCo_far (by omega) n7]; exact eo
    have nt1 : (τ 113 1).toNatClampNeg = O := by rw [t1, iN_nat (by omega)]
    have blk : ∀ x, x < 8 → ∀ q, 115 + 26 * x ≤ q → q < 115 + 26 * x + 26 → τ q = cCo σ (115 + 26 * ((O + C) % 8)) 6 q := by
      intro x hx q q1 q2
      rw [hq q (by omega) (by omega), eR]
      funext j
      rw [gup_ne (by omega)]
    have nE : fKe (σ 324) (σ 327) (σ 323 6) = rla (σ 324) (σ 327) 0 (330 * C) 330 := by
      unfold fKe
      rw [eU, if_neg (show ¬ iN C = (8 : Int32) from iN_eq (a := C) (b := 8) (by omega) (by decide) (by omega)), iN_nat (by omega)]
    refine ⟨⟨?_, ?_⟩, ?_, ?_⟩
    · rw [t1, ← eo]; exact hp.1
    · rw [t2]
      exact ⟨(iN_le (k := 0) (by decide) (by omega)).mpr (by omega), (iN_le (m := 8) (by omega) (by decide)).mpr (by omega)⟩
    · rw [t2, hU]
      unfold fKu
      rw [eU, if_neg (show ¬ iN C = (8 : Int32) from iN_eq (a := C) (b := 8) (by omega) (by decide) (by omega)), iN_one]
    · intro u hu2
      rw [t2, iN_nat (by omega)] at hu2
      have ep : cPl τ u = 115 + 26 * ((O + u) % 8) := by unfold cPl; rw [nt1]
      rw [ep, hE, nE]
      refine SV_blk ?_ (blk _ (cPl_mod O u))
      by_cases q : u = C
      · rw [q]
        refine SV_row hcp (fun j hj => ?_)
        rw [rowAt_lt hj, rla_in hj]
      · refine SV_row (old u (by omega) (by omega)) (fun j hj => ?_)
        rw [rowAt_lt hj, rowAt_lt hj, rla_hi (by omega)]
  · have e8 : C = 8 := by omega
    subst e8
    have c8 : ¬ σ 113 2 < 8 := by rw [ec]; decide
    have eR : cRem σ = gup (cCo σ (115 + 26 * ((O + 8) % 8)) 6) 113 1 (iN ((O + 1) % 8)) := by
      unfold cRem
      rw [if_neg c8, eP, no]
    have lo1 : (O + 1) % 8 < 8 := Nat.mod_lt _ (by decide)
    have t2 : τ 113 2 = iN 8 := by rw [hq 113 (by decide) (by decide), eR, gup_ne (by omega), cCo_far (by omega) n7]; exact ec
    have t1 : τ 113 1 = iN ((O + 1) % 8) := by rw [hq 113 (by decide) (by decide), eR, gup_at]
    have nt1 : (τ 113 1).toNatClampNeg = (O + 1) % 8 := by rw [t1, iN_nat (by omega)]
    have blk : ∀ x, x < 8 → ∀ q, 115 + 26 * x ≤ q → q < 115 + 26 * x + 26 → τ q = cCo σ (115 + 26 * ((O + 8) % 8)) 6 q := by
      intro x hx q q1 q2
      rw [hq q (by omega) (by omega), eR]
      funext j
      rw [gup_ne (by omega)]
    have nE : fKe (σ 324) (σ 327) (σ 323 6) = rla (σ 324) (esh (σ 327) 7) 0 2310 330 := by
      unfold fKe
      rw [eU, if_pos (show iN 8 = (8 : Int32) from rfl)]
    refine ⟨⟨?_, ?_⟩, ?_, ?_⟩
    · rw [t1]
      exact ⟨(iN_le (k := 0) (by decide) (by omega)).mpr (by omega), (iN_lt (m := 8) (by omega) (by decide)).mpr (by omega)⟩
    · rw [t2]; decide
    · rw [t2, hU]
      unfold fKu
      rw [eU, if_pos (show iN 8 = (8 : Int32) from rfl)]
      rfl
    · intro u hu2
      rw [t2, iN_nat (by omega)] at hu2
      have ep : cPl τ u = 115 + 26 * (((O + 1) % 8 + u) % 8) := by unfold cPl; rw [nt1]
      have em : ((O + 1) % 8 + u) % 8 = (O + (u + 1)) % 8 := by omega
      rw [ep, em, hE, nE]
      refine SV_blk ?_ (blk _ (cPl_mod O (u + 1)))
      by_cases q : u = 7
      · subst q
        refine SV_row hcp (fun j hj => ?_)
        rw [rowAt_lt hj]
        exact rla_in hj
      · refine SV_row (old (u + 1) (by omega) (by omega)) (fun j hj => ?_)
        rw [rowAt_lt hj, rowAt_lt hj, rla_hi (by omega)]
        unfold esh
        rw [if_pos (by omega), show 330 * (u + 1) + j = 330 * u + j + 330 by omega]
