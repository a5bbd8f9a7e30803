/-! THE REFERENCE: its calls, keep, restore, undo, station -/
theorem s01 {f : Int32} (h : 0 ≤ f ∧ f ≤ 1) : f = iN f.toNatClampNeg ∧ f.toNatClampNeg ≤ 1 := by
  obtain ⟨e, l⟩ := iN_of h.1
  refine ⟨e, ?_⟩
  have h2 := h.2
  rw [e] at h2
  exact (iN_le (m := 1) l (by decide)).mp h2
theorem i330m (k n : Nat) (hk : k ≤ n) (hn : n < 9) : (330 * iN k : Int32) = iN (330 * k) ∧ (330 * iN k : Int32).toNatClampNeg = 330 * k ∧ (0 : Int32) ≤ 330 * iN k ∧ 330 * iN k ≤ iN (330 * n) := by
  have e : (330 * iN k : Int32) = iN (330 * k) := iN_mul 330 k
  rw [e, iN_nat (by omega)]
  exact ⟨rfl, rfl, (iN_le (k := 0) (by decide) (by omega)).mpr (by omega), (iN_le (by omega) (by omega)).mpr (by omega)⟩
def hKp (σ : gS) (f : Nat) : gS := grow (grow σ 328 (rla (σ 324) (σ 328) 0 (330 * f) 330)) 329 (rup (σ 329) f 1)
abbrev isSl (f : Int32) : Prop := 0 ≤ f ∧ f ≤ 1
noncomputable def f221 : gD := fun Lv σ => match Lv with
  | [some (.ref q0), some (.int f)] => cond (Nat.beq q0 323) (some (none, some (.int (if isSl f then σ 324 3 else -1)), if isSl f then hKp σ f.toNatClampNeg else σ)) none
  | _ => none
abbrev gRes (σ : gS) (f : Int32) : Prop := isSl f ∧ ¬ σ 329 f.toNatClampNeg = 0
def aRes (σ : gS) (f : Int32) : Int32 := if isSl f then (if σ 329 f.toNatClampNeg = 0 then -2 else rowAt (σ 328) f.toNatClampNeg 3) else -1
noncomputable def f222 : gD := fun Lv σ => match Lv with
  | [some (.ref q0), some (.int f)] => cond (Nat.beq q0 323) (some (some (RS σ ∧ RZ σ), some (.int (aRes σ f)), hOp σ (gRes σ f) (rowAt (σ 328) f.toNatClampNeg))) none
  | _ => none
def hUn (σ : gS) : gS := if σ 323 6 = 0 then σ else grow (grow σ 323 (rup (σ 323) 6 (σ 323 6 - 1))) 324 (rowAt (σ 327) (σ 323 6 - 1).toNatClampNeg)
noncomputable def f223 : gD := fun Lv σ => match Lv with
  | [some (.ref q0)] => cond (Nat.beq q0 323) (some (some (RS σ ∧ RZ σ), some (.int (if σ 323 6 = 0 then -1 else σ 323 6 - 1)), hUn σ)) none
  | _ => none
/-- the travellers behind moved one place down: k numbers from a on -/
def csh (R : gW) (a k : Nat) : gW := fun j => if a ≤ j ∧ j < a + k then R (j + 10) else R j
theorem csh_0 (R : gW) (a : Nat) : csh R a 0 = R := by funext j; unfold csh; rw [if_neg (by omega)]
theorem csh_s (R : gW) (a k : Nat) : rup (csh R a k) (a + k) (csh R a k (a + k + 10)) = csh R a (k + 1) := by
  funext j
  unfold rup csh
  by_cases h : j = a + k
  · rw [if_pos h, if_neg (by omega), if_pos (by omega), h]
  · rw [if_neg h]
    by_cases h2 : a ≤ j ∧ j < a + k
    · rw [if_pos h2, if_pos (by omega)]
    · rw [if_neg h2, if_neg (by omega)]
/-- traveller t gets off -/
def fOff (R : gW) (t : Nat) : gW := radd (csh (radd (fTe R 4 (iN t) (fld R t 0)) 3 (-1)) (9 + 10 * t) (10 * (nM R - 1 - t))) 8 1
theorem fTe_ne {R : gW} {w a b : Int32} {j : Nat} (hR : 0 ≤ R 209 ∧ R 209 ≤ 40) (h : j < 209 ∨ 330 ≤ j) : fTe R w a b j = R j := by
  have key : ∀ S : gW, S 209 ≤ 39 → 0 ≤ S 209 → fTe0 S w a b j = S j := by
    intro S h1 h2
    obtain ⟨e, l⟩ := iN_of h2
    have l9 : (S 209).toNatClampNeg ≤ 39 := by
      rw [e] at h1
      exact (iN_le (m := 39) l (by decide)).mp h1
    unfold fTe0
    rw [rup_ne (by omega), rup_ne (by omega), rup_ne (by omega), rup_ne (by omega)]
  unfold fTe
  by_cases h40 : R 209 = 40
  · rw [if_pos h40, key _ (by rw [rup_at]; decide) (by rw [rup_at]; decide), rup_ne (by omega)]
    unfold lsh
    rw [if_neg (by omega)]
  · rw [if_neg h40]
    exact key R (by have := hR.2; grind) hR.1
theorem fTe_209 {R : gW} {w a b : Int32} (hR : 0 ≤ R 209 ∧ R 209 ≤ 40) : fTe R w a b 209 = if R 209 = 40 then 40 else R 209 + 1 := by
  unfold fTe
  by_cases h40 : R 209 = 40
  · rw [if_pos h40, if_pos h40]
    unfold fTe0
    rw [rup_at, rup_at]
    decide
  · rw [if_neg h40, if_neg h40]
    unfold fTe0
    rw [rup_at]
theorem fTe_b {R : gW} {w a b : Int32} (hR : 0 ≤ R 209 ∧ R 209 ≤ 40) : 0 ≤ fTe R w a b 209 ∧ fTe R w a b 209 ≤ 40 := by
  rw [fTe_209 hR]
  by_cases h40 : R 209 = 40
  · rw [if_pos h40]; decide
  · rw [if_neg h40]; have := hR.2; have := hR.1; grind
noncomputable def f218 : gD := fun Lv σ => match Lv with
  | [some (.ref q0), some (.int t), none] => cond (Nat.beq q0 323) (some (some (bN (σ 324) ∧ (0 ≤ t ∧ t < 20) ∧ t.toNatClampNeg < nM (σ 324)), none, grow σ 324 (fOff (σ 324) t.toNatClampNeg))) none
  | _ => none
noncomputable def gpfQ_l : List (Nat × gD) := gpfP_l
noncomputable def gpfQ : gP := gpl0 gpfQ_l
theorem gpfQ_ok : gPok gpfQ := gpfP_ok
/-! THE REFERENCE: stations, the tape, the name on the tape -/
theorem radd_ne {R : gW} {k j : Nat} {x : Int32} (h : ¬ j = k) : radd R k x j = R j := rup_ne h
theorem radd_at (R : gW) (k : Nat) (x : Int32) : radd R k x k = R k + x := rup_at _ _ _
theorem csh_lo {R : gW} {a k j : Nat} (h : j < a ∨ a + k ≤ j) : csh R a k j = R j := by unfold csh; rw [if_neg (by omega)]
theorem nM_iN {R : gW} {n : Nat} (h : R 3 = iN n) (hn : n < 2147483648) : nM R = n := by unfold nM; rw [h, iN_nat hn]
theorem fOff_3 {R : gW} {t : Nat} (hb : bN R) (ht : t < nM R) : fOff R t 3 = iN (nM R - 1) := by
  obtain ⟨e, l⟩ := nM_of hb.1
  unfold fOff
  rw [radd_ne (by decide), csh_lo (by omega), radd_at, fTe_ne hb.2 (by omega), e, ← Int32.sub_eq_add_neg]
  exact iN_sub (d := 1) (by omega) (by omega)
theorem fOff_2 {R : gW} {t : Nat} (hb : bN R) : fOff R t 2 = R 2 := by
  unfold fOff
  rw [radd_ne (by decide), csh_lo (by omega), radd_ne (by decide), fTe_ne hb.2 (by omega)]
theorem fOff_b {R : gW} {t : Nat} (hb : bN R) (ht : t < nM R) : bN (fOff R t) := by
  obtain ⟨e, l⟩ := nM_of hb.1
  refine ⟨?_, ?_⟩
  · rw [fOff_3 hb ht]
    exact ⟨(iN_le (k := 0) (by decide) (by omega)).mpr (by omega), (iN_le (m := 20) (by omega) (by decide)).mpr (by omega)⟩
  · unfold fOff
    rw [radd_ne (by decide), csh_lo (by omega), radd_ne (by decide)]
    exact fTe_b hb.2
def stp1 (R : gW) (k : Nat) : gW := if fld R k 8 = R 2 then fOff R k else R
def stpN : Nat → gW → gW
  | 0, R => R
  | k + 1, R => stpN k (stp1 R k)
/-- one station -/
def fStp (R : gW) : gW := stpN (nM R) (radd R 2 1)
def stm : Nat → gW → gW
  | 0, R => R
  | k + 1, R => fStp (stm k R)
theorem stp1_b {R : gW} {k : Nat} (hb : bN R) (hk : k < nM R) : bN (stp1 R k) ∧ k ≤ nM (stp1 R k) := by
  unfold stp1
  by_cases h : fld R k 8 = R 2
  · rw [if_pos h]
    obtain ⟨e, l⟩ := nM_of hb.1
    refine ⟨fOff_b hb hk, ?_⟩
    rw [nM_iN (fOff_3 hb hk) (by omega)]
    omega
  · rw [if_neg h]
    exact ⟨hb, by omega⟩
theorem stpN_b : ∀ {k : Nat} {R : gW}, bN R → k ≤ nM R → bN (stpN k R)
  | 0, R, hb, _ => hb
  | k + 1, R, hb, hk => by
    obtain ⟨h1, h2⟩ := stp1_b hb (show k < nM R by omega)
    show bN (stpN k (stp1 R k))
    exact stpN_b h1 h2
theorem radd2_b {R : gW} (hb : bN R) : bN (radd R 2 1) ∧ nM (radd R 2 1) = nM R := by
  refine ⟨⟨?_, ?_⟩, ?_⟩
  · rw [radd_ne (by decide)]; exact hb.1
  · rw [radd_ne (by decide)]; exact hb.2
  · unfold nM; rw [radd_ne (by decide)]
theorem fStp_b {R : gW} (hb : bN R) : bN (fStp R) := by
  obtain ⟨h1, h2⟩ := radd2_b hb
  exact stpN_b h1 (by rw [h2]; exact Nat.le_refl _)
theorem stm_b {R : gW} (hb : bN R) : ∀ k, bN (stm k R)
  | 0 => hb
  | k + 1 => fStp_b (stm_b hb k)
noncomputable def f219 : gD := fun Lv σ => match Lv with
  | [some (.ref q0), none] => cond (Nat.beq q0 323) (some (some (bN (σ 324)), none, grow σ 324 (fStp (σ 324)))) none
  | _ => none
noncomputable def gpfR_l : List (Nat × gD) := gpfQ_l
noncomputable def gpfR : gP := gpl0 gpfR_l
theorem gpfR_ok : gPok gpfR := gpfQ_ok
abbrev gSta (R : gW) (m : Int32) : Prop := (1 ≤ m ∧ m ≤ 50) ∧ ¬ 999 < R 2 + m
def aSta (R : gW) (m : Int32) : Int32 := if 1 ≤ m ∧ m ≤ 50 then (if 999 < R 2 + m then -3 else stm m.toNatClampNeg R 8 - R 8) else -1
noncomputable def f220 : gD := fun Lv σ => match Lv with
  | [some (.ref q0), some (.int m), none, none] => cond (Nat.beq q0 323) (some (some (RS σ), some (.int (aSta (σ 324) m)), hOp σ (gSta (σ 324) m) (stm m.toNatClampNeg (σ 324)))) none
  | _ => none
