theorem cLc_ne {σ : gS} {d s b j : Nat} (h : ¬ b = d) (h2 : ¬ b = d + 1) : cLc σ d s b j = σ b j := by
  unfold cLc
  rw [gup_ne (by omega), gup_ne (by omega)]
  unfold cA1
  rw [if_neg (by omega)]
theorem cCo_hd {σ : gS} {p q j : Nat} (hpq : q + 26 ≤ p ∨ p + 26 ≤ q) (hn : (σ q 7).toNatClampNeg ≤ 20) (h : 4 ≤ j) (h2 : j < 13) : cCo σ p q p j = σ q j := by
  unfold cCo cHd
  rw [if_pos (by omega), cLc_ne (by omega) (by omega)]
  unfold cA1
  rw [if_neg (by omega)]
  unfold cT1
  rw [if_neg (by omega)]
theorem cCo_tr {σ : gS} {p q t j : Nat} (hn : (σ q 7).toNatClampNeg ≤ 20) (ht : t < (σ q 7).toNatClampNeg) (hj : j < 10) : cCo σ p q (p + 2 + t) j = σ (q + 2 + t) j := by
  unfold cCo cHd
  rw [if_neg (by omega), cLc_ne (by omega) (by omega)]
  unfold cA1
  rw [if_neg (by omega)]
  unfold cT1
  rw [if_pos (by omega), show q + (p + 2 + t - p) = q + 2 + t by omega]
theorem cCo_me {σ : gS} {p q j : Nat} (hpq : q + 26 ≤ p ∨ p + 26 ≤ q) (hn : (σ q 7).toNatClampNeg ≤ 20) (hj : j < 50) : cCo σ p q (p + 23) j = σ (q + 23) j := by
  unfold cCo cHd
  rw [if_neg (by omega), cLc_ne (by omega) (by omega)]
  unfold cA1
  rw [if_pos (by omega)]
  unfold cT1
  rw [if_neg (by omega)]
theorem cA1_ne {σ : gS} {d s k b j : Nat} (h : ¬ b = d) : cA1 σ d s k b j = σ b j := by unfold cA1; rw [if_neg (by omega)]
theorem cT1_ne {σ : gS} {p q k b j : Nat} (h : b < p + 2 ∨ p + 2 + k ≤ b) : cT1 σ p q k b j = σ b j := by unfold cT1; rw [if_neg (by omega)]
theorem cCo_lg {σ : gS} {p q : Nat} (hpq : q + 26 ≤ p ∨ p + 26 ≤ q) (hn : (σ q 7).toNatClampNeg ≤ 20) : cCo σ p q (p + 24) 1 = σ (q + 24) 1 ∧ cCo σ p q (p + 24) 2 = σ (q + 24) 2 ∧ ∀ j, j < 120 → cCo σ p q (p + 24 + 1) j = σ (q + 24 + 1) j := by
  have e1 : ∀ b j, b ≠ p → cCo σ p q b j = cLc (cA1 (cT1 σ p q (σ q 7).toNatClampNeg) (p + 23) (q + 23) 50) (p + 24) (q + 24) b j := fun b j h => by
    unfold cCo cHd
    rw [if_neg (by omega)]
  refine ⟨?_, ?_, fun j hj => ?_⟩
  · rw [e1 _ _ (by omega)]
    unfold cLc
    rw [gup_ne (by omega), gup_at, cA1_ne (by omega), cT1_ne (by omega)]
  · rw [e1 _ _ (by omega)]
    unfold cLc
    rw [gup_at, cA1_ne (by omega), cT1_ne (by omega)]
  · rw [e1 _ _ (by omega)]
    unfold cLc
    rw [gup_ne (by omega), gup_ne (by omega)]
    have e2 : cA1 (cA1 (cT1 σ p q (σ q 7).toNatClampNeg) (p + 23) (q + 23) 50) (p + 24 + 1) (q + 24 + 1) 120 (p + 24 + 1) j = cA1 (cT1 σ p q (σ q 7).toNatClampNeg) (p + 23) (q + 23) 50 (q + 24 + 1) j := by
      show (if p + 24 + 1 = p + 24 + 1 ∧ j < 120 then _ else _) = _
      rw [if_pos ⟨rfl, hj⟩]
    rw [e2, cA1_ne (by omega), cT1_ne (by omega)]
