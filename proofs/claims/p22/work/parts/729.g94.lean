-- text 94
/-! RELATION: tokens -/
theorem skp_cg {P Q : Nat → Bool} : ∀ {d s : Nat}, (∀ i, s ≤ i → i < s + d → P i = Q i) → skp P d s = skp Q d s
  | 0, _, _ => rfl
  | d + 1, s, h => by
    have ih := skp_cg (P := P) (Q := Q) (d := d) (s := s + 1) (fun i a b => h i (by omega) (by omega))
    rw [skp, skp, h s (by omega) (by omega), ih]
theorem skp_out {P : Nat → Bool} : ∀ {d s : Nat}, skp P d s < s + d → P (skp P d s) = false
  | 0, s, h => by
    have h : s < s + 0 := h
    omega
  | d + 1, s, h => by
    unfold skp at h ⊢
    by_cases q : P s = true
    · rw [if_pos q] at h ⊢
      exact skp_out (d := d) (s := s + 1) (by omega)
    · rw [if_neg q]
      exact Bool.eq_false_iff.mpr q
theorem tkS_cg {T U : gW} {L n : Nat} (h : ∀ i, i < L → T i = U i) (hn : n ≤ L) : tkS T L n = tkS U L n := by
  unfold tkS
  exact skp_cg (fun i a b => by rw [h i (by omega)])
theorem rnE_cg {c : Int32} {T U : gW} {L S : Nat} (h : ∀ i, i < L → T i = U i) (hS : S ≤ L) : rnE c T L S = rnE c U L S := by
  unfold rnE
  exact skp_cg (fun i a b => by rw [h i (by omega)])
theorem wvN_cg {T U : gW} {L S : Nat} (h : ∀ i, i < L → T i = U i) : ∀ {k : Nat}, S + k ≤ L → wvN T S k = wvN U S k
  | 0, _ => rfl
  | k + 1, hk => by
    show 27 * wvN T S k + T (S + k) - 96 = 27 * wvN U S k + U (S + k) - 96
    rw [wvN_cg h (k := k) (by omega), h (S + k) (by omega)]
theorem nuN_cg {T U : gW} {L S : Nat} (h : ∀ i, i < L → T i = U i) : ∀ {k : Nat}, S + k ≤ L → nuN T S k = nuN U S k
  | 0, _ => rfl
  | k + 1, hk => by
    show 10 * nuN T S k + T (S + k) - 48 = 10 * nuN U S k + U (S + k) - 48
    rw [nuN_cg h (k := k) (by omega), h (S + k) (by omega)]
theorem rPl_cg {T U : gW} {L S : Nat} (h : ∀ i, i < L → T i = U i) (hS : S ≤ L) : rPl T L S = rPl U L S := by
  unfold rPl
  by_cases q : S = L
  · rw [if_pos q, if_pos q]
  · rw [h S (by omega), rnE_cg h hS, rnE_cg h hS]
theorem rVa_cg {T U : gW} {L S : Nat} (h : ∀ i, i < L → T i = U i) (hS : S ≤ L) : rVa T L S = rVa U L S := by
  unfold rVa
  by_cases q : S = L
  · rw [if_pos q, if_pos q]
  · have b := rPl_b (T := U) hS
    rw [h S (by omega), rPl_cg h hS, wvN_cg h (by omega), nuN_cg h (by omega)]
theorem rKi_cg {T U : gW} {L S : Nat} (h : ∀ i, i < L → T i = U i) (hS : S ≤ L) : rKi T L S = rKi U L S := by
  unfold rKi
  by_cases q : S = L
  · rw [if_pos q, if_pos q]
  · rw [h S (by omega), rPl_cg h hS]
theorem tk_nw {T : gW} {L n : Nat} (hn : n ≤ L) (h : tkS T L n < L) : ¬ cKd (T (tkS T L n)) = 1 := by
  have := skp_out (P := fun i => decide (cKd (T i) = 1)) (d := L - n) (s := n) (by unfold tkS at h; omega)
  exact of_decide_eq_false this
theorem tk_k {T : gW} {L n : Nat} (h : tkS T L n < L) : tkK T L n = cKd (T (tkS T L n)) := by
  unfold tkK cBy
  rw [if_pos h]
theorem tk_end {T : gW} {L n : Nat} (h : tkS T L n = L) : tkK T L n = 0 := by
  unfold tkK cBy
  rw [if_neg (by omega)]
  decide
theorem rnE_1 {c : Int32} {T : gW} {L S : Nat} (h : S < L) (hc : cKd (T S) = c) : rnE c T L S = skp (fun i => decide (cKd (T i) = c)) (L - (S + 1)) (S + 1) := by
  unfold rnE
  rw [show L - S = (L - (S + 1)) + 1 by omega, skp, if_pos (decide_eq_true hc)]
theorem tk_e {T : gW} {L n : Nat} (h : tkS T L n < L) : tkE T L n = rPl T L (tkS T L n) := by
  obtain ⟨S, hS⟩ : ∃ S, tkS T L n = S := ⟨_, rfl⟩
  have hk := tk_k h
  unfold tkE rPl
  rw [hS] at h hk ⊢
  rw [if_neg (show ¬ S = L by omega), hk]
  by_cases q : isSm (T S)
  · have q2 := cKd_2.mpr q
    rw [if_pos (Or.inl q2), if_pos q, rnE_1 h q2, q2]
  · have n2 : ¬ cKd (T S) = 2 := fun z => q (cKd_2.mp z)
    rw [if_neg q]
    by_cases q3 : isDg (T S)
    · have q4 := cKd_3.mpr q3
      rw [if_pos (Or.inr q4), if_pos q3, rnE_1 h q4, q4]
    · rw [if_neg (fun z => z.elim n2 (fun z => q3 (cKd_3.mp z))), if_neg q3]
/-- the end of the text -/
theorem ki_0 {T : gW} {L n : Nat} (hn : n ≤ L) (hb : ∀ i, i < L → ¬ T i = -1) : tkK T L n = 0 ↔ rKi T L (tkS T L n) = 0 := by
  have b := tkS_b (T := T) hn
  by_cases q : tkS T L n = L
  · rw [tk_end q]
    unfold rKi
    rw [if_pos q]
  · have h : tkS T L n < L := by omega
    rw [tk_k h]
    have := hb _ h
    obtain ⟨S, hS⟩ : ∃ S, tkS T L n = S := ⟨_, rfl⟩
    rw [hS] at this q ⊢
    unfold cKd rKi
    rw [if_neg q]
    grind
theorem ki_s {T : gW} {L S : Nat} : (S ≤ L) → ((cBy T L S = 59 ↔ rKi T L S = 3) ∧ (cBy T L S = 43 ↔ rKi T L S = 4) ∧ (cBy T L S = 45 ↔ rKi T L S = 5)) := by
  intro h
  unfold cBy rKi
  by_cases q : S = L
  · rw [if_pos q, if_neg (by omega)]
    decide
  · rw [if_neg q, if_pos (by omega)]
    obtain ⟨x, hx⟩ : ∃ x, T S = x := ⟨_, rfl⟩
    rw [hx]
    by_cases q1 : isSm x
    · rw [if_pos q1]
      unfold isSm at q1
      split <;> grind
    · rw [if_neg q1]
      by_cases q2 : isDg x
      · rw [if_pos q2]
        unfold isDg at q2
        split <;> grind
      · rw [if_neg q2]
        grind
noncomputable def PC (T : gW) (L : Nat) (σ τ : gS) : Prop := σ 3 = T ∧ σ 2 1 = iN L ∧ τ 323 8 = iN L ∧ (∀ i, i < L → τ 330 i = T i) ∧ L ≤ 1000 ∧ ∀ i, i < L → ¬ T i = -1
/-- both stand at the same token -/
noncomputable def PT (T : gW) (L n : Nat) (σ τ : gS) : Prop := n ≤ L ∧ (σ 1 2 = iN (tkS T L n) ∧ σ 1 3 = iN (tkE T L n) ∧ σ 1 4 = tkK T L n) ∧ τ 323 12 = iN (tkS T L n) ∧ τ 323 11 = iN (rPl T L (tkS T L n)) ∧ τ 323 13 = rKi T L (tkS T L n) ∧ τ 323 14 = rVa T L (tkS T L n)
/-- at the same token, or wrong both at the same place -/
noncomputable def PQ (T : gW) (L : Nat) (σ τ : gS) : Prop := PC T L σ τ ∧ ((σ 1 5 = 0 ∧ (τ 323 15 = 0 ∧ τ 323 9 = -2) ∧ ∃ n, PT T L n σ τ) ∨ (¬ σ 1 5 = 0 ∧ ¬ τ 323 15 = 0 ∧ τ 323 9 = σ 1 2))
theorem PQ_cg {T : gW} {L : Nat} {σ τ σ' τ' : gS} (h : PQ T L σ τ) (h1 : σ' 1 = σ 1) (h2 : σ' 2 = σ 2) (h3 : σ' 3 = σ 3) (h4 : τ' 323 = τ 323) (h5 : τ' 330 = τ 330) : PQ T L σ' τ' := by
  unfold PQ PC PT at *
  rw [h1, h2, h3, h4, h5]
  exact h
/-- the next token -/
theorem PT_nx {T : gW} {L n : Nat} {σ τ : gS} (hc : PC T L σ τ) (h : PT T L n σ τ) (hk : ¬ tkK T L n = 0) : PT T L (tkE T L n) (cTok σ) (rNx τ) := by
  obtain ⟨c1, c2, c3, c4, c5, c6⟩ := hc
  obtain ⟨hn, ⟨a1, a2, a3⟩, b1, b2, b3, b4⟩ := h
  have bS := tkS_b (T := T) hn
  have hl : tkS T L n < L := by
    have : ¬ tkS T L n = L := fun z => hk (tk_end z)
    omega
  have eE := tk_e hl
  have lE := tkE_k hn hk
  obtain ⟨E, hE⟩ : ∃ E, tkE T L n = E := ⟨_, rfl⟩
  rw [hE] at a2 eE lE ⊢
  rw [← eE] at b2
  have nL : (σ 2 1).toNatClampNeg = L := by rw [c2, iN_nat (by omega)]
  have nE : (σ 1 3).toNatClampNeg = E := by rw [a2, iN_nat (by omega)]
  have mL : (τ 323 8).toNatClampNeg = L := by rw [c3, iN_nat (by omega)]
  have mE : (τ 323 11).toNatClampNeg = E := by rw [b2, iN_nat (by omega)]
  obtain ⟨t1, t2, t3⟩ := cTok_1 nL nE
  rw [c1] at t1 t2 t3
  have eS : rSt τ = tkS T L E := by
    unfold rSt
    rw [mL, mE]
    exact tkS_cg c4 lE
  have bE := tkS_b (T := T) lE
  have eP := rPl_cg c4 bE.2
  have eV := rVa_cg c4 bE.2
  have eK := rKi_cg c4 bE.2
  refine ⟨lE, ⟨t1, t2, t3⟩, ?_⟩
  rw [rNx_e, mL, eS, eP, eV, eK]
  exact ⟨rfl, rfl, rfl, rfl⟩
theorem PC_nx {T : gW} {L : Nat} {σ τ : gS} (hc : PC T L σ τ) : PC T L (cTok σ) (rNx τ) := by
  obtain ⟨c1, c2, c3, c4, c5, c6⟩ := hc
  unfold PC
  rw [cTok_far (q := 3) (by decide), cTok_far (q := 2) (by decide), rNx_3 (by omega), rNx_far (by decide)]
  exact ⟨c1, c2, c3, c4, c5, c6⟩
theorem cTok_5 {σ : gS} : cTok σ 1 5 = σ 1 5 := cTok_ne (by omega)
/-- what must stand: both go on, or both are wrong -/
theorem PQ_pass {T : gW} {L : Nat} {σ τ : gS} {P Q : Prop} [Decidable P] [Decidable Q] (h : PQ T L σ τ) (hpq : σ 1 5 = 0 → ∀ n, PT T L n σ τ → (P ↔ Q)) (hk : σ 1 5 = 0 → P → ¬ σ 1 4 = 0) : PQ T L (cPs σ (bI P)) (rTk τ (bI Q)) := by
  obtain ⟨hc, ⟨w, ⟨f, f9⟩, n, ht⟩ | ⟨w, f, he⟩⟩ := h
  · have pq := hpq w n ht
    by_cases q : P
    · have q2 := pq.mp q
      rw [bI_y q, bI_y q2]
      have e : cPs σ 1 = cTok σ := by unfold cPs; rw [if_pos ⟨w, by decide⟩]
      rw [e, rTk_e, if_pos f, if_neg (by decide)]
      refine ⟨PC_nx hc, Or.inl ⟨by rw [cTok_5]; exact w, ⟨by rw [rNx_3 (by omega)]; exact f, by rw [rNx_3 (by omega)]; exact f9⟩, _, PT_nx hc ht ?_⟩⟩
      rw [← ht.2.1.2.2]
      exact hk w q
    · have q2 : ¬ Q := fun z => q (pq.mpr z)
      rw [bI_n q, bI_n q2]
      have e : cPs σ 0 = gup σ 1 5 1 := by unfold cPs; rw [if_neg (fun z => z.2 rfl)]
      rw [e, rTk_e, if_pos f, if_pos rfl]
      refine ⟨?_, Or.inr ⟨by rw [gup_at]; decide, by rw [gup_ne (by omega), gup_at]; decide, ?_⟩⟩
      · obtain ⟨c1, c2, c3, c4, c5, c6⟩ := hc
        refine ⟨?_, ?_, ?_, ?_, c5, c6⟩
        · funext i; rw [gup_ne (by omega), c1]
        · rw [gup_ne (by omega), c2]
        · rw [gup_ne (by omega), gup_ne (by omega), c3]
        · intro i hi; rw [gup_ne (by omega), gup_ne (by omega), c4 i hi]
      · rw [gup_at, gup_ne (by omega), ht.2.1.1]
        exact ht.2.2.1
  · have e : cPs σ (bI P) = gup σ 1 5 1 := by unfold cPs; rw [if_neg (fun z => w z.1)]
    rw [e, rTk_f f]
    refine ⟨?_, Or.inr ⟨by rw [gup_at]; decide, f, by rw [gup_ne (by omega)]; exact he⟩⟩
    obtain ⟨c1, c2, c3, c4, c5, c6⟩ := hc
    refine ⟨?_, ?_, c3, c4, c5, c6⟩
    · funext i; rw [gup_ne (by omega), c1]
    · rw [gup_ne (by omega), c2]
