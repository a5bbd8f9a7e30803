/-! RELATION: numbers, words, names, signs at a token -/
theorem PT_S {T : gW} {L n : Nat} {σ τ : gS} (hc : PC T L σ τ) (h : PT T L n σ τ) : (σ 1 2).toNatClampNeg = tkS T L n ∧ (σ 1 3).toNatClampNeg = tkE T L n ∧ (σ 2 1).toNatClampNeg = L ∧ tkS T L n ≤ L ∧ tkS T L n < tkE T L n ∧ tkE T L n ≤ L + 1 ∧ σ 1 3 - σ 1 2 = iN (tkE T L n - tkS T L n) := by
  obtain ⟨c1, c2, c3, c4, c5, c6⟩ := hc
  obtain ⟨hn, ⟨a1, a2, a3⟩, b1, b2, b3, b4⟩ := h
  have bS := tkS_b (T := T) hn
  have bE := tkE_b (T := T) hn
  refine ⟨by rw [a1, iN_nat (by omega)], by rw [a2, iN_nat (by omega)], by rw [c2, iN_nat (by omega)], bS.2, bE.1, bE.2, ?_⟩
  rw [a1, a2, iN_sub (by omega) (by omega)]
theorem PT_end {T : gW} {L n : Nat} {σ τ : gS} (hc : PC T L σ τ) (h : PT T L n σ τ) : σ 1 4 = 0 ↔ τ 323 13 = 0 := by
  rw [h.2.1.2.2, h.2.2.2.2.1]
  exact ki_0 h.1 hc.2.2.2.2.2
theorem nsN_ge : ∀ (f j m : Nat), 27 ^ j ≤ m → j < f → j < nsN f m
  | 0, j, m, _, h => absurd h (Nat.not_lt_zero _)
  | f + 1, j, m, h, h2 => by
    have pj : 0 < 27 ^ j := Nat.pow_pos (by decide)
    unfold nsN
    rw [if_neg (by omega)]
    cases j with
    | zero => omega
    | succ j =>
      have : j < nsN f (m / 27) := nsN_ge f j (m / 27) (by rw [Nat.pow_succ] at h; omega) (by omega)
      omega
theorem nRd_ge {d : Nat → Nat} : ∀ {k : Nat}, (∀ i, i < k + 1 → 1 ≤ d i) → 27 ^ k ≤ nRd d (k + 1)
  | 0, h => by
    have := h 0 (by decide)
    show 27 ^ 0 ≤ 27 * nRd d 0 + d 0
    have : (27 : Nat) ^ 0 = 1 := rfl
    omega
  | k + 1, h => by
    have ih := nRd_ge (d := d) (k := k) (fun i hi => h i (by omega))
    show 27 ^ (k + 1) ≤ 27 * nRd d (k + 1) + d (k + 1)
    rw [Nat.pow_succ]
    omega
theorem cPk_of {T : gW} {L S m : Nat} (hE : S + m ≤ L) : ∀ {k : Nat}, k ≤ m → cPk T L S k = cPk (fun i => T (S + i)) m 0 k
  | 0, _ => rfl
  | k + 1, hk => by
    have ih := cPk_of (T := T) hE (k := k) (by omega)
    show cPk T L S k ||| _ = cPk (fun i => T (S + i)) m 0 k ||| _
    have e : cBy T L (S + k) = cBy (fun i => T (S + i)) m (0 + k) := by
      unfold cBy
      rw [if_pos (by omega), if_pos (by omega), Nat.zero_add]
    rw [ih, e]
theorem wvN_of {T : gW} {S : Nat} : ∀ {k : Nat}, wvN T S k = tnm (fun i => T (S + i)) k
  | 0 => rfl
  | k + 1 => by
    have ih := wvN_of (T := T) (S := S) (k := k)
    show 27 * wvN T S k + T (S + k) - 96 = 27 * tnm (fun i => T (S + i)) k + T (S + k) - 96
    rw [ih]
