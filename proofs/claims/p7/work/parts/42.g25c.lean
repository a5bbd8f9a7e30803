theorem cR_gupf {σ : gS} {p t f : Nat} {x : Int32} (ht : t < 20) (hf : f < 9) : cR (gup σ (p + 2 + t) (f + 1) x) p = rup (cR σ p) (9 + 10 * t + f) x := by
  funext j
  unfold rup
  by_cases hj : j = 9 + 10 * t + f
  · rw [if_pos hj, hj]
    have := cR_f (σ := gup σ (p + 2 + t) (f + 1) x) (p := p) ht hf
    unfold fld at this
    rw [this, gup_at]
  · rw [if_neg hj]
    unfold cR
    by_cases h : j < 9
    · rw [if_pos h, if_pos h, gup_ne (by omega)]
    · rw [if_neg h, if_neg h]
      by_cases h2 : j < 209
      · rw [if_pos h2, if_pos h2]
        by_cases h3 : (j - 9) % 10 < 9
        · rw [if_pos h3, if_pos h3, gup_ne (by omega)]
        · rw [if_neg h3, if_neg h3, gup_ne (by omega)]
      · rw [if_neg h2, if_neg h2]
theorem cR_gup0 {σ : gS} {p k : Nat} {x : Int32} (hk : k < 9) : cR (gup σ p (k + 4) x) p = rup (cR σ p) k x := by
  funext j
  unfold rup
  by_cases hj : j = k
  · rw [if_pos hj, hj, cR_h hk, gup_at]
  · rw [if_neg hj]
    unfold cR
    by_cases h : j < 9
    · rw [if_pos h, if_pos h, gup_ne (by omega)]
    · rw [if_neg h, if_neg h]
      by_cases h2 : j < 209
      · rw [if_pos h2, if_pos h2, gup_ne (by omega), gup_ne (by omega)]
      · rw [if_neg h2, if_neg h2]
