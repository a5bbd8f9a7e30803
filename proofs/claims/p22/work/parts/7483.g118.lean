-- text 118
/-! THE LAW: pairs of queries, equal answers: family -/
theorem cnt_stop {P : Nat → Bool} {T : Nat} : ∀ {n : Nat}, T ≤ n → (∀ a, T ≤ a → a < n → P a = false) → cnt P n = cnt P T
  | 0, h, _ => by
    have : T = 0 := by omega
    subst this
    rfl
  | n + 1, h, hp => by
    by_cases e : T = n + 1
    · subst e
      rfl
    · rw [cnt_f (by rw [hp n (by omega) (by omega)]; decide)]
      exact cnt_stop (by omega) (fun a h1 h2 => hp a h1 (by omega))
theorem mem_hi {R : gW} {a m : Nat} {f : Int32} (em : R 0 = iN m) (hm : m ≤ 10) (hb : bT R) (hs : qSt R) (ha : (m + 1) / 2 ≤ a) (ha5 : a < 5) : mem R (iN a) f = 0 := by
  unfold mem
  rw [cnt_stop (T := 0) (Nat.zero_le _) (fun t _ ht => ?_)]
  · rfl
  · unfold memP
    refine decide_eq_false (fun z => ?_)
    have b := (hb t ht).2.1
    have h4 := hs t ht
    have z1 := z.1
    obtain ⟨s, e, l⟩ : ∃ s, fld R t 0 = iN s ∧ s < 2147483648 := ⟨_, iN_of b.1⟩
    rw [em, show (4 : Int32) = iN 4 from rfl, iN_mul, e] at h4
    have h4 := (iN_lt l (by omega)).mp h4
    rw [e, show (8 : Int32) = iN 8 from rfl, iN_div l (by decide)] at z1
    have := (iN_inj (by omega) (by omega)).mp z1
    omega
theorem cFt_e {σ : gS} {R : gW} (hc : TC σ 6) (h : agr (cR σ 6) R) (h0 : 2 ≤ R 0 ∧ R 0 ≤ 10) (rT : bT R) (hs : qSt R) {k : Nat} (hk : k < 10) : cFt σ (iN k) = rFt R (iN k) := by
  unfold cFt rFt
  obtain ⟨m, m1, m2, em, e2⟩ := rw_n h0
  rw [e2, iN_nat (by omega)]
  congr 1
  rw [cnt_congr (n := 5) (P := fun a => decide (0 < cMa σ 6 (iN a) (iN k))) (Q := fun a => decide (0 < iN (mem R (iN a) (iN k)))) (fun a ha => by rw [cMa_of ha hk, hc.2.2 a ha k hk, mem_agr h])]
  exact cnt_stop (by omega) (fun a h1 h2 => by rw [mem_hi em m2 rT hs h1 h2]; decide)
theorem agr_fa {σ : gS} {R : gW} (hc : TC σ 6) (h : agr (cR σ 6) R) (h0 : 2 ≤ R 0 ∧ R 0 ≤ 10) (rT : bT R) (hs : qSt R) (f w : Int32) : aFa (cR σ 6) (cFm σ f) (cFt σ f) f w = aFa R (fMF R f) (rFt R f) f w := by
  unfold aFa
  by_cases q : 1 ≤ f ∧ f ≤ 9
  · rw [if_pos q, if_pos q]
    obtain ⟨ef, lf⟩ := iN_of (x := f) (by have := q.1; grind)
    obtain ⟨k, hk⟩ : ∃ k, f.toNatClampNeg = k := ⟨_, rfl⟩
    rw [hk] at ef lf
    have k10 : k < 10 := by
      have := q.2
      rw [ef] at this
      have := (iN_le (m := 9) lf (by decide)).mp this
      omega
    rw [ef, cFm_e hc h k10, cFt_e hc h h0 rT hs k10, agr_JF h]
  · rw [if_neg q, if_neg q]
theorem pr_family {n : Nat} {σ : gS} {Q : Int32 → gS → Prop} {f w : Int32} (h : GI n σ) (k : Pr n σ 238 [some (.ref 323), some (.int f), some (.int w)] Q) : gXi 128 [some (.ref 0), some (.int f), some (.int w)] σ Q := by
  have h' := h
  obtain ⟨B, b1, b2, g, tb⟩ := h'
  obtain ⟨hc, hF⟩ := GR_SC g
  obtain ⟨rs, rt, rz, h0, rF, rT, nG⟩ := GR_rf g
  exact s128 hc ⟨_, rfl, k _ σ (Sc_r σ) (fun Q2 h2 => s238 ⟨rs, h0⟩ ⟨_, congrArg (fun v => some (Value.int v)) (agr_fa hc.1 g.1.1 h0 rT g.2.1.2.2.1.2 f w).symm, h2 σ (GI_up h) (Sc_r σ)⟩)⟩
