/-! THE REFERENCE: stations, the tape, the name on the tape -/
theorem radd_ne {R : gW} {k j : Nat} {x : Int32} (h : ¬ j = k) : radd R k x j = R j := rup_ne h
theorem radd_at (R : gW) (k : Nat) (x : Int32) : radd R k x k = R k + x := rup_at _ _ _
theorem csh_lo {R : gW} {a k j : Nat} (h : j < a ∨ a + k ≤ j) : csh R a k j = R j := by unfold csh; rw [if_neg (by omega)]
theorem nM_iN {R : gW} {n : Nat} (h : R 3 = iN n) (hn : n < 2147483648) : nM R = n := by unfold nM; rw [h, iN_nat hn]
theorem fOff_3 {R : gW} {t : Nat} (hb : bN R) (ht : t < nM R) : fOff R t 3 = iN (nM R - 1) := by
  obtain ⟨e, l⟩ := nM_of hb.1
  unfold fOff
  rw [radd_ne (by decide), csh_lo (by omega), radd_at, fTe_ne hb.2 (by omega), e, ← Int32.sub_eq_add_neg]
  exact iN_sub (d := 1) (by omega) (by omega)
theorem fOff_2 {R : gW} {t : Nat} (hb : bN R) : fOff R t 2 = R 2 := by
  unfold fOff
  rw [radd_ne (by decide), csh_lo (by omega), radd_ne (by decide), fTe_ne hb.2 (by omega)]
theorem fOff_b {R : gW} {t : Nat} (hb : bN R) (ht : t < nM R) : bN (fOff R t) := by
  obtain ⟨e, l⟩ := nM_of hb.1
  refine ⟨?_, ?_⟩
  · rw [fOff_3 hb ht]
    exact ⟨(iN_le (k := 0) (by decide) (by omega)).mpr (by omega), (iN_le (m := 20) (by omega) (by decide)).mpr (by omega)⟩
  · unfold fOff
    rw [radd_ne (by decide), csh_lo (by omega), radd_ne (by decide)]
    exact fTe_b hb.2
def stp1 (R : gW) (k : Nat) : gW := if fld R k 8 = R 2 then fOff R k else R
def stpN : Nat → gW → gW
  | 0, R => R
  | k + 1, R => stpN k (stp1 R k)
/-- one station -/
def fStp (R : gW) : gW := stpN (nM R) (radd R 2 1)
def stm : Nat → gW → gW
  | 0, R => R
  | k + 1, R => fStp (stm k R)
theorem stp1_b {R : gW} {k : Nat} (hb : bN R) (hk : k < nM R) : bN (stp1 R k) ∧ k ≤ nM (stp1 R k) := by
  unfold stp1
  by_cases h : fld R k 8 = R 2
  · rw [if_pos h]
    obtain ⟨e, l⟩ := nM_of hb.1
    refine ⟨fOff_b hb hk, ?_⟩
    rw [nM_iN (fOff_3 hb hk) (by omega)]
    omega
  · rw [if_neg h]
    exact ⟨hb, by omega⟩
theorem stpN_b : ∀ {k : Nat} {R : gW}, bN R → k ≤ nM R → bN (stpN k R)
  | 0, R, hb, _ => hb
  | k + 1, R, hb, hk => by
    obtain ⟨h1, h2⟩ := stp1_b hb (show k < nM R by omega)
    show bN (stpN k (stp1 R k))
    exact stpN_b h1 h2
theorem radd2_b {R : gW} (hb : bN R) : bN (radd R 2 1) ∧ nM (radd R 2 1) = nM R := by
  refine ⟨⟨?_, ?_⟩, ?_⟩
  · rw [radd_ne (by decide)]; exact hb.1
  · rw [radd_ne (by decide)]; exact hb.2
  · unfold nM; rw [radd_ne (by decide)]
theorem fStp_b {R : gW} (hb : bN R) : bN (fStp R) := by
  obtain ⟨h1, h2⟩ := radd2_b hb
  exact stpN_b h1 (by rw [h2]; exact Nat.le_refl _)
theorem stm_b {R : gW} (hb : bN R) : ∀ k, bN (stm k R)
  | 0 => hb
  | k + 1 => fStp_b (stm_b hb k)
set_option maxRecDepth 20000 in
theorem w219 {σ : gS} {K : gK} (h : (0 ≤ (2 : Int32) ∧ (2 : Int32) < 330) ∧ (0 ≤ (2 : Int32) ∧ (2 : Int32) < 330) ∧ gE 219 10 [some (.ref 323), none] [] (gup σ 324 2 ((σ 324 2) + 1)) K) : gE 219 0 [some (.ref 323), none] [] σ K :=
  gw_run (cy := 219) (cuts := [10, 19]) (inl := []) (pf := gpfQ) gpfQ_ok 400 (by decide) h
set_option maxRecDepth 20000 in
theorem c219_10 {σ : gS} {K : gK} (h : (0 ≤ (3 : Int32) ∧ (3 : Int32) < 330) ∧ gE 219 19 [some (.ref 323), some (.int ((σ 324 3) - 1))] [] σ K) : gE 219 10 [some (.ref 323), none] [] σ K :=
  gw_run (cy := 219) (cuts := [10, 19]) (inl := []) (pf := gpfQ) gpfQ_ok 400 (by decide) h
set_option maxRecDepth 20000 in
theorem c219_19 {σ : gS} {K : gK} {l1 : Int32} (h : ((l1 < 0 → K none σ) ∧ (¬ l1 < 0 → (0 ≤ (9 + 10 * l1 + (8 : Int32)) ∧ (9 + 10 * l1 + (8 : Int32)) < 330) ∧ (0 ≤ (2 : Int32) ∧ (2 : Int32) < 330) ∧ ((¬ (σ 324 (9 + 10 * l1 + (8 : Int32)).toNatClampNeg) = (σ 324 2) → gE 219 19 [some (.ref 323), some (.int (l1 + (-1)))] [] σ K) ∧ ((σ 324 (9 + 10 * l1 + (8 : Int32)).toNatClampNeg) = (σ 324 2) → (bN (σ 324) ∧ (0 ≤ l1 ∧ l1 < 20) ∧ l1.toNatClampNeg < nM (σ 324)) ∧ gE 219 19 [some (.ref 323), some (.int (l1 + (-1)))] [] (grow σ 324 (fOff (σ 324) l1.toNatClampNeg)) K))))) : gE 219 19 [some (.ref 323), some (.int l1)] [] σ K :=
  gw_run (cy := 219) (cuts := [10, 19]) (inl := []) (pf := gpfQ) gpfQ_ok 400 (by decide) h
theorem s219 {σ : gS} {K : gK} (hc : bN (σ 324)) (hK : K none (grow σ 324 (fStp (σ 324)))) : gE 219 0 [some (.ref 323), none] [] σ K := by
  have key : ∀ (k : Nat) (R : gW), bN R → k ≤ nM R → K none (grow σ 324 (stpN k R)) → gE 219 19 [some (.ref 323), some (.int (iN k - 1))] [] (grow σ 324 R) K := by
    intro k
    induction k with
    | zero =>
      intro R _ _ hK
      exact c219_19 ⟨fun _ => hK, fun h => absurd (by decide) h⟩
    | succ k ih =>
      intro R hb hk hK
      obtain ⟨e, l⟩ := nM_of hb.1
      have k20 : k < 20 := by omega
      obtain ⟨h1, h2⟩ := stp1_b hb (show k < nM R by omega)
      have ih := ih (stp1 R k) h1 h2 hK
      have ek : iN (k + 1) - 1 = iN k := iN_sub (d := 1) (by omega) (by omega)
      have ek2 : iN k + (-1) = iN k - 1 := (Int32.sub_eq_add_neg ..).symm
      rw [ek]
      refine c219_19 ⟨fun h => absurd h (Int32.not_lt.mpr (b20 k20).1), fun _ => ⟨ixb8 k20, by decide, fun h => ?_, fun h => ⟨⟨?_, b20 k20, ?_⟩, ?_⟩⟩⟩
      · rw [ix8 k20, grow_at] at h
        have e1 : stp1 R k = R := if_neg h
        rw [e1] at ih
        rw [ek2]; exact ih
      · rw [grow_at]; exact hb
      · rw [grow_at, iN_nat (by omega)]; omega
      · rw [ix8 k20, grow_at] at h
        have e1 : stp1 R k = fOff R k := if_pos h
        rw [e1] at ih
        rw [ek2, grow_grow, grow_at, iN_nat (by omega)]; exact ih
  obtain ⟨h1, h2⟩ := radd2_b hc
  obtain ⟨e, l⟩ := nM_of hc.1
  have main := key (nM (σ 324)) (radd (σ 324) 2 1) h1 (by rw [h2]; exact Nat.le_refl _) hK
  refine w219 ⟨by decide, by decide, c219_10 ⟨by decide, ?_⟩⟩
  rw [gup_grow, grow_at, rup_ne (by decide), e]
  exact main
noncomputable def f219 : gD := fun Lv σ => match Lv with
  | [some (.ref q0), none] => cond (Nat.beq q0 323) (some (some (bN (σ 324)), none, grow σ 324 (fStp (σ 324)))) none
  | _ => none
theorem ok219 : gFok 219 f219 := by
  intro Lv σ q h hc K hK
  unfold f219 at h
  split at h
  · rename_i q0
    obtain ⟨hb, h⟩ := c_no h
    have hb0 := hb
    have e0 := b_eq hb0
    subst e0
    cases h
    exact s219 (hc _ rfl) hK
  · cases h
noncomputable def gpfR_l : List (Nat × gD) := (219, f219) :: gpfQ_l
noncomputable def gpfR : gP := gpl0 gpfR_l
theorem gpfR_ok : gPok gpfR := gpl0_cons ok219 (gpfQ_ok)
set_option maxRecDepth 20000 in
theorem w220 {σ : gS} {K : gK} {m : Int32} (h : ((¬ (bI ((1 : Int32) ≤ m ∧ m ≤ (50 : Int32))) = 0 → (0 ≤ (2 : Int32) ∧ (2 : Int32) < 330) ∧ ((¬ 999 < ((σ 324 2) + m) → (0 ≤ σ 323 6 ∧ σ 323 6 ≤ 8) ∧ (0 ≤ (8 : Int32) ∧ (8 : Int32) < 330) ∧ gE 220 43 [some (.ref 323), some (.int m), some (.int ((hKe σ) 324 8)), some (.int 0)] [] (hKe σ) K) ∧ (999 < ((σ 324 2) + m) → K (some (.int (-3))) σ))) ∧ ((bI ((1 : Int32) ≤ m ∧ m ≤ (50 : Int32))) = 0 → K (some (.int (-1))) σ))) : gE 220 0 [some (.ref 323), some (.int m), none, none] [] σ K :=
  gw_run (cy := 220) (cuts := [43]) (inl := []) (pf := gpfR) gpfR_ok 400 (by decide) h
set_option maxRecDepth 20000 in
theorem c220_43 {σ : gS} {K : gK} {l1 l2 l3 : Int32} (h : ((¬ l3 < l1 → (0 ≤ (8 : Int32) ∧ (8 : Int32) < 330) ∧ K (some (.int ((σ 324 8) - l2))) σ) ∧ (l3 < l1 → (bN (σ 324)) ∧ gE 220 43 [some (.ref 323), some (.int l1), some (.int l2), some (.int (l3 + 1))] [] (grow σ 324 (fStp (σ 324))) K))) : gE 220 43 [some (.ref 323), some (.int l1), some (.int l2), some (.int l3)] [] σ K :=
  gw_run (cy := 220) (cuts := [43]) (inl := []) (pf := gpfR) gpfR_ok 400 (by decide) h
abbrev gSta (R : gW) (m : Int32) : Prop := (1 ≤ m ∧ m ≤ 50) ∧ ¬ 999 < R 2 + m
def aSta (R : gW) (m : Int32) : Int32 := if 1 ≤ m ∧ m ≤ 50 then (if 999 < R 2 + m then -3 else stm m.toNatClampNeg R 8 - R 8) else -1
theorem s220 {σ : gS} {K : gK} {m : Int32} (hc : RS σ) (hK : K (some (.int (aSta (σ 324) m))) (hOp σ (gSta (σ 324) m) (stm m.toNatClampNeg (σ 324)))) : gE 220 0 [some (.ref 323), some (.int m), none, none] [] σ K := by
  obtain ⟨hb, hu⟩ := hc
  unfold aSta hOp at hK
  refine w220 ?_
  simp only [bI_0]
  refine ⟨fun h => ?_, fun h => ?_⟩
  · have h := Decidable.not_not.mp h
    rw [if_pos h] at hK
    refine ⟨by decide, fun h2 => ⟨hu, by decide, ?_⟩, fun h2 => ?_⟩
    · rw [if_neg h2, if_pos (show gSta (σ 324) m from ⟨h, h2⟩)] at hK
      obtain ⟨n, hn, hn50⟩ : ∃ n, m = iN n ∧ n ≤ 50 := by
        obtain ⟨e, l⟩ := iN_of (show 0 ≤ m by have := h.1; grind)
        refine ⟨_, e, ?_⟩
        have h5 := h.2
        rw [e] at h5
        exact (iN_le (m := 50) l (by decide)).mp h5
      subst hn
      rw [iN_nat (by omega)] at hK
      rw [hKe_324]
      have main := g_forI (y := 220) (pc := 43) (K := K) n (fun k => [some (.ref 323), some (.int (iN n)), some (.int (σ 324 8)), some (.int (iN k))]) (fun k => grow (hKe σ) 324 (stm k (σ 324))) (fun _ => True) (fun _ => by
        refine c220_43 ⟨fun _ => ⟨by decide, ?_⟩, fun h => ?_⟩
        · rw [grow_at]; exact hK
        · rw [iN_lt (by omega) (by omega)] at h; omega) (fun k hk _ ih => by
        refine c220_43 ⟨fun h => ?_, fun h => ⟨?_, ?_⟩⟩
        · rw [iN_lt (by omega) (by omega)] at h; omega
        · rw [grow_at]; exact stm_b hb k
        · rw [grow_grow, grow_at, iN_one]; exact ih trivial) 0 (Nat.zero_le _) trivial
      have e0 : grow (hKe σ) 324 (stm 0 (σ 324)) = hKe σ := by
        show grow (hKe σ) 324 (σ 324) = _
        rw [← hKe_324 σ, grow_id]
      rw [e0] at main
      exact main
    · rw [if_pos h2, if_neg (show ¬ gSta (σ 324) m from fun q => q.2 h2)] at hK; exact hK
  · rw [if_neg h, if_neg (show ¬ gSta (σ 324) m from fun q => h q.1)] at hK; exact hK
noncomputable def f220 : gD := fun Lv σ => match Lv with
  | [some (.ref q0), some (.int m), none, none] => cond (Nat.beq q0 323) (some (some (RS σ), some (.int (aSta (σ 324) m)), hOp σ (gSta (σ 324) m) (stm m.toNatClampNeg (σ 324)))) none
  | _ => none
theorem ok220 : gFok 220 f220 := by
  intro Lv σ q h hc K hK
  unfold f220 at h
  split at h
  · rename_i q0 m
    obtain ⟨hb, h⟩ := c_no h
    have hb0 := hb
    have e0 := b_eq hb0
    subst e0
    cases h
    exact s220 (hc _ rfl) hK
  · cases h
