/-! THE CLASS: stations -/
/-- the main train stands for some row -/
def SX (σ : gS) : Prop := ∃ R, SV σ 6 R
def cGoN : Nat → gS → gS
  | 0, σ => σ
  | k + 1, σ => cGoN k (if σ (8 + k) 9 = σ 6 6 then cOff σ k else σ)
/-- one station -/
def cGo (σ : gS) : gS := cGoN (σ 6 7).toNatClampNeg (gup σ 6 6 (σ 6 6 + 1))
/-- some stations -/
def cGoM : Nat → gS → gS
  | 0, σ => σ
  | k + 1, σ => cGo (cGoM k σ)
theorem SV_go1 {σ : gS} {R : gW} {k : Nat} (h : SV σ 6 R) (hk : k < nM R) : SV (if σ (8 + k) 9 = σ 6 6 then cOff σ k else σ) 6 (stp1 R k) ∧ k ≤ nM (stp1 R k) := by
  have hn := (SV_3 h).2.1
  refine ⟨?_, (stp1_b (SV_b h) hk).2⟩
  have e1 : σ (8 + k) 9 = fld R k 8 := by
    have := h.1.2 k (by rw [agr_n h.1]; exact hk) 8 (by decide)
    rw [cR_f (σ := σ) (p := 6) (by omega) (by decide), show 6 + 2 + k = 8 + k from by omega] at this
    exact this
  have e2 : σ 6 6 = R 2 := by
    have := h.1.1 2 (by decide)
    rw [cR_h (by decide)] at this
    exact this
  unfold stp1
  rw [e1, e2]
  by_cases q : fld R k 8 = R 2
  · rw [if_pos q, if_pos q]
    exact SV_off h hk
  · rw [if_neg q, if_neg q]
    exact h
theorem SV_goN : ∀ {k : Nat} {σ : gS} {R : gW}, SV σ 6 R → k ≤ nM R → SV (cGoN k σ) 6 (stpN k R)
  | 0, σ, R, h, _ => h
  | k + 1, σ, R, h, hk => by
    obtain ⟨s1, s2⟩ := SV_go1 h (k := k) (by omega)
    exact SV_goN (k := k) s1 s2
theorem SV_time {σ : gS} {R : gW} (h : SV σ 6 R) : SV (gup σ 6 6 (σ 6 6 + 1)) 6 (radd R 2 1) := by
  have e2 : σ 6 6 = R 2 := by
    have := h.1.1 2 (by decide)
    rw [cR_h (by decide)] at this
    exact this
  rw [e2]
  exact SV_hdr (k := 2) h (by decide) (by decide)
theorem nM_radd2 (R : gW) (x : Int32) : nM (radd R 2 x) = nM R := by unfold nM; rw [radd_ne (by decide)]
theorem SV_go {σ : gS} {R : gW} (h : SV σ 6 R) : SV (cGo σ) 6 (fStp R) := by
  have e7 := (SV_3 h).2.2
  unfold cGo fStp
  rw [show (σ 6 7).toNatClampNeg = nM R from by rw [e7]; rfl]
  exact SV_goN (SV_time h) (by rw [nM_radd2]; exact Nat.le_refl _)
theorem SV_goM {σ : gS} {R : gW} (h : SV σ 6 R) : ∀ {k : Nat}, SV (cGoM k σ) 6 (stm k R)
  | 0 => h
  | k + 1 => SV_go (SV_goM h)
set_option maxRecDepth 20000 in
theorem w64 {σ : gS} {K : gK} (h : gE 64 17 [some (.ref 6), some (.int (((gup σ 6 6 ((σ 6 6) + 1)) 6 7) - 1))] [] (gup σ 6 6 ((σ 6 6) + 1)) K) : gE 64 0 [some (.ref 6), none] [] σ K :=
  gw_run (cy := 64) (cuts := [17]) (inl := []) (pf := gpdb) gpdb_ok 400 (by decide) h
set_option maxRecDepth 20000 in
theorem v64 {σ : gS} {K : gK} {k : Int32} (h : ((k < 0 → K none σ) ∧ (¬ k < 0 → (0 ≤ k ∧ k < 20) ∧ gTv (6 + 2 + k.toNatClampNeg) ∧ ((¬ (σ (6 + 2 + k.toNatClampNeg) 9) = (σ 6 6) → gE 64 17 [some (.ref 6), some (.int (k + (-1)))] [] σ K) ∧ ((σ (6 + 2 + k.toNatClampNeg) 9) = (σ 6 6) → ((0 ≤ k ∧ k < 20) ∧ ∃ R, SV σ 6 R ∧ k.toNatClampNeg < nM R) ∧ gE 64 17 [some (.ref 6), some (.int (k + (-1)))] [] (cOff σ k.toNatClampNeg) K))))) : gE 64 17 [some (.ref 6), some (.int k)] [] σ K :=
  gw_run (cy := 64) (cuts := [17]) (inl := []) (pf := gpdb) gpdb_ok 400 (by decide) h
theorem s64 {σ : gS} {K : gK} (hc : SX σ) (hK : K none (cGo σ)) : gE 64 0 [some (.ref 6), none] [] σ K := by
  obtain ⟨R, hR⟩ := hc
  obtain ⟨b3, bn, e7⟩ := SV_3 hR
  have key : ∀ (k : Nat) (τ : gS) (S : gW), k ≤ nM S → SV τ 6 S → K none (cGoN k τ) → gE 64 17 [some (.ref 6), some (.int (iN k + (-1)))] [] τ K := by
    intro k
    induction k with
    | zero =>
      intro τ S _ _ hK
      exact v64 ⟨fun _ => hK, fun h => absurd (show iN 0 + (-1) < 0 from by decide) h⟩
    | succ k ih =>
      intro τ S hk hS hK
      have hn := (SV_3 hS).2.1
      have e : iN (k + 1) + (-1) = iN k := by
        rw [← Int32.sub_eq_add_neg]
        exact iN_sub (d := 1) (by omega) (by omega)
      have nk : (iN k).toNatClampNeg = k := iN_nat (by omega)
      obtain ⟨s1, s2⟩ := SV_go1 hS (k := k) (by omega)
      have i := ih _ _ s2 s1 hK
      rw [e]
      refine v64 ⟨fun h => ?_, fun _ => ⟨b20 (by omega), by rw [nk]; exact tv_6 k (by omega), fun h => ?_, fun h => ?_⟩⟩
      · exfalso
        have := (b20 (k := k) (by omega)).1
        exact absurd h (Int32.not_lt.mpr this)
      · rw [nk, show 6 + 2 + k = 8 + k from by omega] at h
        rw [if_neg h] at i
        exact i
      · rw [nk, show 6 + 2 + k = 8 + k from by omega] at h
        rw [if_pos h] at i
        rw [nk]
        exact ⟨⟨b20 (by omega), S, hS, by omega⟩, i⟩
  refine w64 ?_
  have e : gup σ 6 6 (σ 6 6 + 1) 6 7 - 1 = iN (nM R) + (-1) := by
    rw [gup_ne (by omega), e7, (nM_of b3).1, ← Int32.sub_eq_add_neg]
  rw [e]
  unfold cGo at hK
  rw [show (σ 6 7).toNatClampNeg = nM R from by rw [e7]; rfl] at hK
  exact key _ _ _ (by rw [nM_radd2]; exact Nat.le_refl _) (SV_time hR) hK
noncomputable def f64 : gD := fun Lv σ => match Lv with
  | [some (.ref q0), none] => cond (Nat.beq q0 6) (some (some (SX σ), none, cGo σ)) none
  | _ => none
theorem ok64 : gFok 64 f64 := by
  intro Lv σ q h hc K hK
  unfold f64 at h
  split at h
  · rename_i q0
    obtain ⟨hb, h⟩ := c_no h
    have hb0 := hb
    have e0 := b_eq hb0
    subst e0
    cases h
    exact s64 (hc _ rfl) hK
  · cases h
noncomputable def gpdc_l : List (Nat × gD) := (64, f64) :: gpdb_l
noncomputable def gpdc : gP := gpl0 gpdc_l
theorem gpdc_ok : gPok gpdc := gpl0_cons ok64 (gpdb_ok)
