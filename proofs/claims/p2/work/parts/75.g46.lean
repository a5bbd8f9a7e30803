/-! THE CLASS: stations, the call -/
set_option maxRecDepth 20000 in
theorem w119 {σ : gS} {K : gK} {m : Int32} (h : ((¬ (bI ((1 : Int32) ≤ m ∧ m ≤ (50 : Int32))) = 0 → ((¬ 999 < ((σ 6 6) + m) → (bPa σ ∧ (0 ≤ σ 6 7 ∧ σ 6 7 ≤ 20)) ∧ gE 119 51 [some (.ref 0), some (.int m), some (.int ((cRem σ) 6 7)), some (.int 0)] [] (cRem σ) K) ∧ (999 < ((σ 6 6) + m) → K (some (.int (-3))) σ))) ∧ ((bI ((1 : Int32) ≤ m ∧ m ≤ (50 : Int32))) = 0 → K (some (.int (-1))) σ))) : gE 119 0 [some (.ref 0), some (.int m), none, none] [] σ K :=
  gw_run (cy := 119) (cuts := [51]) (inl := []) (pf := gpdc) gpdc_ok 400 (by decide) h
set_option maxRecDepth 20000 in
theorem v119 {σ : gS} {K : gK} {m b k : Int32} (h : ((¬ k < m → K (some (.int (b - (σ 6 7)))) σ) ∧ (k < m → (SX σ) ∧ gE 119 51 [some (.ref 0), some (.int m), some (.int b), some (.int (k + 1))] [] (cGo σ) K))) : gE 119 51 [some (.ref 0), some (.int m), some (.int b), some (.int k)] [] σ K :=
  gw_run (cy := 119) (cuts := [51]) (inl := []) (pf := gpdc) gpdc_ok 400 (by decide) h
theorem s119 {σ : gS} {K : gK} {m : Int32} (hc : bPa σ ∧ SX σ) (hK : K (some (.int (if 1 ≤ m ∧ m ≤ 50 then (if 999 < σ 6 6 + m then -3 else σ 6 7 - cGoM m.toNatClampNeg (cRem σ) 6 7) else -1))) (if 1 ≤ m ∧ m ≤ 50 then (if 999 < σ 6 6 + m then σ else cGoM m.toNatClampNeg (cRem σ)) else σ)) : gE 119 0 [some (.ref 0), some (.int m), none, none] [] σ K := by
  obtain ⟨hp, R, hR⟩ := hc
  obtain ⟨b3, bn, e7⟩ := SV_3 hR
  have h7 : 0 ≤ σ 6 7 ∧ σ 6 7 ≤ 20 := by rw [e7]; exact b3
  have hR2 : SV (cRem σ) 6 R := SV_blk hR (fun q q1 q2 => cRem_far (Or.inl (by omega)) h7)
  have r7 : cRem σ 6 7 = σ 6 7 := by rw [cRem_far (Or.inl (by decide)) h7]
  refine w119 ?_
  simp only [bI_0]
  refine ⟨fun h => ?_, fun h => ?_⟩
  · have h := Decidable.not_not.mp h
    rw [if_pos h, if_pos h] at hK
    refine ⟨fun h2 => ⟨⟨hp, h7⟩, ?_⟩, fun h2 => ?_⟩
    · rw [if_neg h2, if_neg h2] at hK
      obtain ⟨em, lm⟩ : m = iN m.toNatClampNeg ∧ m.toNatClampNeg ≤ 50 := by
        obtain ⟨e, l⟩ := iN_of (show 0 ≤ m by have := h.1; grind)
        refine ⟨e, ?_⟩
        have h2 := h.2
        rw [e] at h2
        exact (iN_le (m := 50) l (by decide)).mp h2
      obtain ⟨n, hn⟩ : ∃ n, m.toNatClampNeg = n := ⟨_, rfl⟩
      rw [hn] at em lm hK
      rw [r7]
      have key : ∀ d k, k + d = n → gE 119 51 [some (.ref 0), some (.int m), some (.int (σ 6 7)), some (.int (iN k))] [] (cGoM k (cRem σ)) K := by
        intro d
        induction d with
        | zero =>
          intro k hk
          have : k = n := by omega
          subst this
          refine v119 ⟨fun _ => hK, fun h => ?_⟩
          rw [em] at h
          exact absurd ((iN_lt (by omega) (by omega)).mp h) (by omega)
        | succ d ih =>
          intro k hk
          refine v119 ⟨fun h => ?_, fun _ => ⟨⟨_, SV_goM hR2⟩, ?_⟩⟩
          · exfalso
            apply h
            rw [em]
            exact (iN_lt (by omega) (by omega)).mpr (by omega)
          · rw [iN_one]
            exact ih (k + 1) (by omega)
      exact key n 0 (by omega)
    · rw [if_pos h2, if_pos h2] at hK; exact hK
  · rw [if_neg h, if_neg h] at hK; exact hK
noncomputable def f119 : gD := fun Lv σ => match Lv with
  | [some (.ref q0), some (.int m), none, none] => cond (Nat.beq q0 0) (some (some (bPa σ ∧ SX σ), some (.int (if 1 ≤ m ∧ m ≤ 50 then (if 999 < σ 6 6 + m then -3 else σ 6 7 - cGoM m.toNatClampNeg (cRem σ) 6 7) else -1)), if 1 ≤ m ∧ m ≤ 50 then (if 999 < σ 6 6 + m then σ else cGoM m.toNatClampNeg (cRem σ)) else σ)) none
  | _ => none
theorem ok119 : gFok 119 f119 := by
  intro Lv σ q h hc K hK
  unfold f119 at h
  split at h
  · rename_i q0 m
    obtain ⟨hb, h⟩ := c_no h
    have hb0 := hb
    have e0 := b_eq hb0
    subst e0
    cases h
    exact s119 (hc _ rfl) hK
  · cases h
/-- who got off is counted once -/
theorem fOff_sum {R : gW} {t : Nat} (hb : bN R) (ht : t < nM R) : fOff R t 3 + fOff R t 8 = R 3 + R 8 := by
  rw [fOff_3 hb ht]
  obtain ⟨e, l⟩ := nM_of hb.1
  have e2 : iN (nM R - 1) = R 3 - 1 := by
    rw [e]
    exact (iN_sub (d := 1) (by omega) (by omega)).symm
  have e3 : fOff R t 8 = R 8 + 1 := by
    unfold fOff
    rw [radd_at, csh_lo (by omega), radd_ne (by decide), fTe_ne hb.2 (by omega)]
  rw [e2, e3]
  grind
theorem stpN_sum : ∀ {k : Nat} {R : gW}, bN R → k ≤ nM R → stpN k R 3 + stpN k R 8 = R 3 + R 8 ∧ bN (stpN k R)
  | 0, R, hb, _ => ⟨rfl, hb⟩
  | k + 1, R, hb, hk => by
    obtain ⟨b1, b2⟩ := stp1_b hb (k := k) (by omega)
    obtain ⟨i1, i2⟩ := stpN_sum (k := k) b1 b2
    refine ⟨i1.trans ?_, i2⟩
    unfold stp1
    split
    · exact fOff_sum hb (by omega)
    · rfl
theorem stm_sum {R : gW} (hb : bN R) : ∀ k, stm k R 3 + stm k R 8 = R 3 + R 8 ∧ bN (stm k R)
  | 0 => ⟨rfl, hb⟩
  | k + 1 => by
    obtain ⟨i1, i2⟩ := stm_sum hb k
    have b2 : bN (radd (stm k R) 2 1) := ⟨by rw [radd_ne (by decide)]; exact i2.1, by rw [radd_ne (by decide)]; exact i2.2⟩
    obtain ⟨j1, j2⟩ := stpN_sum (k := nM (stm k R)) b2 (by rw [nM_radd2]; exact Nat.le_refl _)
    refine ⟨?_, j2⟩
    show stpN (nM (stm k R)) (radd (stm k R) 2 1) 3 + stpN (nM (stm k R)) (radd (stm k R) 2 1) 8 = _
    rw [j1, radd_ne (by decide), radd_ne (by decide)]
    exact i1
noncomputable def gpdd_l : List (Nat × gD) := (119, f119) :: gpdc_l
noncomputable def gpdd : gP := gpl0 gpdd_l
theorem gpdd_ok : gPok gpdd := gpl0_cons ok119 (gpdc_ok)
