-- text 45
/-! THE CLASS: stations -/
/-- the main train stands for some row -/
def SX (σ : gS) : Prop := ∃ R, SV σ 6 R
def cGoN : Nat → gS → gS
  | 0, σ => σ
  | k + 1, σ => cGoN k (if σ (8 + k) 9 = σ 6 6 then cOff σ k else σ)
/-- one station -/
def cGo (σ : gS) : gS := cGoN (σ 6 7).toNatClampNeg (gup σ 6 6 (σ 6 6 + 1))
/-- some stations -/
def cGoM : Nat → gS → gS
  | 0, σ => σ
  | k + 1, σ => cGo (cGoM k σ)
theorem SV_go1 {σ : gS} {R : gW} {k : Nat} (h : SV σ 6 R) (hk : k < nM R) : SV (if σ (8 + k) 9 = σ 6 6 then cOff σ k else σ) 6 (stp1 R k) ∧ k ≤ nM (stp1 R k) := by
  have hn := (SV_3 h).2.1
  refine ⟨?_, (stp1_b (SV_b h) hk).2⟩
  have e1 : σ (8 + k) 9 = fld R k 8 := by
    have := h.1.2 k (by rw [agr_n h.1]; exact hk) 8 (by decide)
    rw [cR_f (σ := σ) (p := 6) (by omega) (by decide), show 6 + 2 + k = 8 + k from by omega] at this
    exact this
  have e2 : σ 6 6 = R 2 := by
    have := h.1.1 2 (by decide)
    rw [cR_h (by decide)] at this
    exact this
  unfold stp1
  rw [e1, e2]
  by_cases q : fld R k 8 = R 2
  · rw [if_pos q, if_pos q]
    exact SV_off h hk
  · rw [if_neg q, if_neg q]
    exact h
theorem SV_goN : ∀ {k : Nat} {σ : gS} {R : gW}, SV σ 6 R → k ≤ nM R → SV (cGoN k σ) 6 (stpN k R)
  | 0, σ, R, h, _ => h
  | k + 1, σ, R, h, hk => by
    obtain ⟨s1, s2⟩ := SV_go1 h (k := k) (by omega)
    exact SV_goN (k := k) s1 s2
theorem SV_time {σ : gS} {R : gW} (h : SV σ 6 R) : SV (gup σ 6 6 (σ 6 6 + 1)) 6 (radd R 2 1) := by
  have e2 : σ 6 6 = R 2 := by
    have := h.1.1 2 (by decide)
    rw [cR_h (by decide)] at this
    exact this
  rw [e2]
  exact SV_hdr (k := 2) h (by decide) (by decide)
theorem nM_radd2 (R : gW) (x : Int32) : nM (radd R 2 x) = nM R := by unfold nM; rw [radd_ne (by decide)]
theorem SV_go {σ : gS} {R : gW} (h : SV σ 6 R) : SV (cGo σ) 6 (fStp R) := by
  have e7 := (SV_3 h).2.2
  unfold cGo fStp
  rw [show (σ 6 7).toNatClampNeg = nM R from by rw [e7]; rfl]
  exact SV_goN (SV_time h) (by rw [nM_radd2]; exact Nat.le_refl _)
theorem SV_goM {σ : gS} {R : gW} (h : SV σ 6 R) : ∀ {k : Nat}, SV (cGoM k σ) 6 (stm k R)
  | 0 => h
  | k + 1 => SV_go (SV_goM h)
set_option maxRecDepth 20000 in
theorem w64 {σ : gS} {K : gK} (h : gE 64 17 [some (.ref 6), some (.int (((gup σ 6 6 ((σ 6 6) + 1)) 6 7) - 1))] [] (gup σ 6 6 ((σ 6 6) + 1)) K) : gE 64 0 [some (.ref 6), none] [] σ K :=
  gw_run (cy := 64) (cuts := [17]) (inl := []) (pf := gpdb) gpdb_ok 400 (by decide) h
set_option maxRecDepth 20000 in
theorem v64 {σ : gS} {K : gK} {k : Int32} (h : ((k < 0 → K none σ) ∧ (¬ k < 0 → (0 ≤ k ∧ k < 20) ∧ gTv (6 + 2 + k.toNatClampNeg) ∧ ((¬ (σ (6 + 2 + k.toNatClampNeg) 9) = (σ 6 6) → gE 64 17 [some (.ref 6), some (.int (k + (-1)))] [] σ K) ∧ ((σ (6 + 2 + k.toNatClampNeg) 9) = (σ 6 6) → ((0 ≤ k ∧ k < 20) ∧ ∃ R, SV σ 6 R ∧ k.toNatClampNeg < nM R) ∧ gE 64 17 [some (.ref 6), some (.int (k + (-1)))] [] (cOff σ k.toNatClampNeg) K))))) : gE 64 17 [some (.ref 6), some (.int k)] [] σ K :=
  gw_run (cy := 64) (cuts := [17]) (inl := []) (pf := gpdb) gpdb_ok 400 (by decide) h
theorem s64 {σ : gS} {K : gK} (hc : SX σ) (hK : K none (cGo σ)) : gE 64 0 [some (.ref 6), none] [] σ K := by
  obtain ⟨R, hR⟩ := hc
  obtain ⟨b3, bn, e7⟩ := SV_3 hR
  have key : ∀ (k : Nat) (τ : gS) (S : gW), k ≤ nM S → SV τ 6 S → K none (cGoN k τ) → gE 64 17 [some (.ref 6), some (.int (iN k + (-1)))] [] τ K := by
    intro k
    induction k with
    | zero =>
      intro τ S _ _ hK
      exact v64 ⟨fun _ => hK, fun h => absurd (show iN 0 + (-1) < 0 from by decide) h⟩
    | succ k ih =>
      intro τ S hk hS hK
      have hn := (SV_3 hS).2.1
      have e : iN (k + 1) + (-1) = iN k := by
        rw [← Int32.sub_eq_add_neg]
        exact iN_sub (d := 1) (by omega) (by omega)
      have nk : (iN k).toNatClampNeg = k := iN_nat (by omega)
      obtain ⟨s1, s2⟩ := SV_go1 hS (k := k) (by omega)
      have i := ih _ _ s2 s1 hK
      rw [e]
      refine v64 ⟨fun h => ?_, fun _ => ⟨b20 (by omega), by rw [nk]; exact tv_6 k (by omega), fun h => ?_, fun h => ?_⟩⟩
      · exfalso
        have := (b20 (k := k) (by omega)).1
        exact absurd h (Int32.not_lt.mpr this)
      · rw [nk, show 6 + 2 + k = 8 + k from by omega] at h
        rw [if_neg h] at i
        exact i
      · rw [nk, show 6 + 2 + k = 8 + k from by omega] at h
        rw [if_pos h] at i
        rw [nk]
        exact ⟨⟨b20 (by omega), S, hS, by omega⟩, i⟩
  refine w64 ?_
  have e : gup σ 6 6 (σ 6 6 + 1) 6 7 - 1 = iN (nM R) + (-1) := by
    rw [gup_ne (by omega), e7, (nM_of b3).1, ← Int32.sub_eq_add_neg]
  rw [e]
  unfold cGo at hK
  rw [show (σ 6 7).toNatClampNeg = nM R from by rw [e7]; rfl] at hK
  exact key _ _ _ (by rw [nM_radd2]; exact Nat.le_refl _) (SV_time hR) hK
noncomputable def f64 : gD := fun Lv σ => match Lv with
  | [some (.ref q0), none] => cond (Nat.beq q0 6) (some (some (SX σ), none, cGo σ)) none
  | _ => none
theorem ok64 : gFok 64 f64 := by
  intro Lv σ q h hc K hK
  unfold f64 at h
  split at h
  · rename_i q0
    obtain ⟨hb, h⟩ := c_no h
    have hb0 := hb
    have e0 := b_eq hb0
    subst e0
    cases h
    exact s64 (hc _ rfl) hK
  · cases h
noncomputable def gpdc_l : List (Nat × gD) := (64, f64) :: gpdb_l
noncomputable def gpdc : gP := gpl0 gpdc_l
theorem gpdc_ok : gPok gpdc := gpl0_cons ok64 (gpdb_ok)
-- text 46
/-! THE CLASS: stations, the call -/
set_option maxRecDepth 20000 in
theorem w119 {σ : gS} {K : gK} {m : Int32} (h : ((¬ (bI ((1 : Int32) ≤ m ∧ m ≤ (50 : Int32))) = 0 → ((¬ 999 < ((σ 6 6) + m) → (bPa σ ∧ (0 ≤ σ 6 7 ∧ σ 6 7 ≤ 20)) ∧ gE 119 51 [some (.ref 0), some (.int m), some (.int ((cRem σ) 6 7)), some (.int 0)] [] (cRem σ) K) ∧ (999 < ((σ 6 6) + m) → K (some (.int (-3))) σ))) ∧ ((bI ((1 : Int32) ≤ m ∧ m ≤ (50 : Int32))) = 0 → K (some (.int (-1))) σ))) : gE 119 0 [some (.ref 0), some (.int m), none, none] [] σ K :=
  gw_run (cy := 119) (cuts := [51]) (inl := []) (pf := gpdc) gpdc_ok 400 (by decide) h
set_option maxRecDepth 20000 in
theorem v119 {σ : gS} {K : gK} {m b k : Int32} (h : ((¬ k < m → K (some (.int (b - (σ 6 7)))) σ) ∧ (k < m → (SX σ) ∧ gE 119 51 [some (.ref 0), some (.int m), some (.int b), some (.int (k + 1))] [] (cGo σ) K))) : gE 119 51 [some (.ref 0), some (.int m), some (.int b), some (.int k)] [] σ K :=
  gw_run (cy := 119) (cuts := [51]) (inl := []) (pf := gpdc) gpdc_ok 400 (by decide) h
theorem s119 {σ : gS} {K : gK} {m : Int32} (hc : bPa σ ∧ SX σ) (hK : K (some (.int (if 1 ≤ m ∧ m ≤ 50 then (if 999 < σ 6 6 + m then -3 else σ 6 7 - cGoM m.toNatClampNeg (cRem σ) 6 7) else -1))) (if 1 ≤ m ∧ m ≤ 50 then (if 999 < σ 6 6 + m then σ else cGoM m.toNatClampNeg (cRem σ)) else σ)) : gE 119 0 [some (.ref 0), some (.int m), none, none] [] σ K := by
  obtain ⟨hp, R, hR⟩ := hc
  obtain ⟨b3, bn, e7⟩ := SV_3 hR
  have h7 : 0 ≤ σ 6 7 ∧ σ 6 7 ≤ 20 := by rw [e7]; exact b3
  have hR2 : SV (cRem σ) 6 R := SV_blk hR (fun q q1 q2 => cRem_far (Or.inl (by omega)) h7)
  have r7 : cRem σ 6 7 = σ 6 7 := by rw [cRem_far (Or.inl (by decide)) h7]
  refine w119 ?_
  simp only [bI_0]
  refine ⟨fun h => ?_, fun h => ?_⟩
  · have h := Decidable.not_not.mp h
    rw [if_pos h, if_pos h] at hK
    refine ⟨fun h2 => ⟨⟨hp, h7⟩, ?_⟩, fun h2 => ?_⟩
    · rw [if_neg h2, if_neg h2] at hK
      obtain ⟨em, lm⟩ : m = iN m.toNatClampNeg ∧ m.toNatClampNeg ≤ 50 := by
        obtain ⟨e, l⟩ := iN_of (show 0 ≤ m by have := h.1; grind)
        refine ⟨e, ?_⟩
        have h2 := h.2
        rw [e] at h2
        exact (iN_le (m := 50) l (by decide)).mp h2
      obtain ⟨n, hn⟩ : ∃ n, m.toNatClampNeg = n := ⟨_, rfl⟩
      rw [hn] at em lm hK
      rw [r7]
      have key : ∀ d k, k + d = n → gE 119 51 [some (.ref 0), some (.int m), some (.int (σ 6 7)), some (.int (iN k))] [] (cGoM k (cRem σ)) K := by
        intro d
        induction d with
        | zero =>
          intro k hk
          have : k = n := by omega
          subst this
          refine v119 ⟨fun _ => hK, fun h => ?_⟩
          rw [em] at h
          exact absurd ((iN_lt (by omega) (by omega)).mp h) (by omega)
        | succ d ih =>
          intro k hk
          refine v119 ⟨fun h => ?_, fun _ => ⟨⟨_, SV_goM hR2⟩, ?_⟩⟩
          · exfalso
            apply h
            rw [em]
            exact (iN_lt (by omega) (by omega)).mpr (by omega)
          · rw [iN_one]
            exact ih (k + 1) (by omega)
      exact key n 0 (by omega)
    · rw [if_pos h2, if_pos h2] at hK; exact hK
  · rw [if_neg h, if_neg h] at hK; exact hK
noncomputable def f119 : gD := fun Lv σ => match Lv with
  | [some (.ref q0), some (.int m), none, none] => cond (Nat.beq q0 0) (some (some (bPa σ ∧ SX σ), some (.int (if 1 ≤ m ∧ m ≤ 50 then (if 999 < σ 6 6 + m then -3 else σ 6 7 - cGoM m.toNatClampNeg (cRem σ) 6 7) else -1)), if 1 ≤ m ∧ m ≤ 50 then (if 999 < σ 6 6 + m then σ else cGoM m.toNatClampNeg (cRem σ)) else σ)) none
  | _ => none
theorem ok119 : gFok 119 f119 := by
  intro Lv σ q h hc K hK
  unfold f119 at h
  split at h
  · rename_i q0 m
    obtain ⟨hb, h⟩ := c_no h
    have hb0 := hb
    have e0 := b_eq hb0
    subst e0
    cases h
    exact s119 (hc _ rfl) hK
  · cases h
/-- who got off is counted once -/
theorem fOff_sum {R : gW} {t : Nat} (hb : bN R) (ht : t < nM R) : fOff R t 3 + fOff R t 8 = R 3 + R 8 := by
  rw [fOff_3 hb ht]
  obtain ⟨e, l⟩ := nM_of hb.1
  have e2 : iN (nM R - 1) = R 3 - 1 := by
    rw [e]
    exact (iN_sub (d := 1) (by omega) (by omega)).symm
  have e3 : fOff R t 8 = R 8 + 1 := by
    unfold fOff
    rw [radd_at, csh_lo (by omega), radd_ne (by decide), fTe_ne hb.2 (by omega)]
  rw [e2, e3]
  grind
theorem stpN_sum : ∀ {k : Nat} {R : gW}, bN R → k ≤ nM R → stpN k R 3 + stpN k R 8 = R 3 + R 8 ∧ bN (stpN k R)
  | 0, R, hb, _ => ⟨rfl, hb⟩
  | k + 1, R, hb, hk => by
    obtain ⟨b1, b2⟩ := stp1_b hb (k := k) (by omega)
    obtain ⟨i1, i2⟩ := stpN_sum (k := k) b1 b2
    refine ⟨i1.trans ?_, i2⟩
    unfold stp1
    split
    · exact fOff_sum hb (by omega)
    · rfl
theorem stm_sum {R : gW} (hb : bN R) : ∀ k, stm k R 3 + stm k R 8 = R 3 + R 8 ∧ bN (stm k R)
  | 0 => ⟨rfl, hb⟩
  | k + 1 => by
    obtain ⟨i1, i2⟩ := stm_sum hb k
    have b2 : bN (radd (stm k R) 2 1) := ⟨by rw [radd_ne (by decide)]; exact i2.1, by rw [radd_ne (by decide)]; exact i2.2⟩
    obtain ⟨j1, j2⟩ := stpN_sum (k := nM (stm k R)) b2 (by rw [nM_radd2]; exact Nat.le_refl _)
    refine ⟨?_, j2⟩
    show stpN (nM (stm k R)) (radd (stm k R) 2 1) 3 + stpN (nM (stm k R)) (radd (stm k R) 2 1) 8 = _
    rw [j1, radd_ne (by decide), radd_ne (by decide)]
    exact i1
noncomputable def gpdd_l : List (Nat × gD) := (119, f119) :: gpdc_l
noncomputable def gpdd : gP := gpl0 gpdd_l
theorem gpdd_ok : gPok gpdd := gpl0_cons ok119 (gpdc_ok)
