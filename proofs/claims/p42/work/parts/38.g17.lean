/-! THE REFERENCE: its calls, swap, move, ring, set -/
theorem idx {a : Int32} (ha : 0 ≤ a ∧ a < 20) (f : Nat) (hf : f < 20) : (9 + 10 * a + iN f).toNatClampNeg = 9 + 10 * a.toNatClampNeg + f ∧ 0 ≤ 9 + 10 * a + iN f ∧ 9 + 10 * a + iN f < 330 := by
  obtain ⟨e, l⟩ := t20 ha
  obtain ⟨m, hm⟩ : ∃ m, a.toNatClampNeg = m := ⟨_, rfl⟩
  rw [hm] at e l ⊢
  rw [e]
  exact ⟨ixn f m l hf, ixbn f m l hf⟩
/-- a number of a row changed by so much -/
def radd (R : gW) (k : Nat) (x : Int32) : gW := rup R k (R k + x)
def nSwa (R : gW) (a b x : Int32) : gW := fTe (radd (radd (radd (radd (rsw R a.toNatClampNeg b.toNatClampNeg) (9 + 10 * a.toNatClampNeg + 7) (-x)) (9 + 10 * b.toNatClampNeg + 7) x) 7 x) 4 1) 1 (100 * a + b) x
theorem bnd209 {R : gW} {k : Nat} {x : Int32} (h : ¬ 209 = k) (hR : 0 ≤ R 209 ∧ R 209 ≤ 40) : 0 ≤ rup R k x 209 ∧ rup R k x 209 ≤ 40 := by rw [rup_ne h]; exact hR
noncomputable def f214 : gD := fun Lv σ => match Lv with
  | [some (.ref q0), some (.int a), some (.int b), some (.int x), none, none] => cond (Nat.beq q0 323) (some (some (RS σ), some (.int (aSwa (σ 324) a b x)), hOp σ (gSwa (σ 324) a b x) (nSwa (σ 324) a b x))) none
  | _ => none
abbrev gMov (R : gW) (a x : Int32) : Prop := (isT R a ∧ isS R x) ∧ ¬ 0 < fWhyM R a.toNatClampNeg x
def aMov (R : gW) (a x : Int32) : Int32 := if isT R a ∧ isS R x then (if 0 < fWhyM R a.toNatClampNeg x then -10 - fWhyM R a.toNatClampNeg x else fJoy R a.toNatClampNeg x - fJo R a.toNatClampNeg) else -1
def nMov (R : gW) (a x : Int32) : gW := fTe (radd (rup R (9 + 10 * a.toNatClampNeg + 0) x) 5 1) 2 a (fld R a.toNatClampNeg 0)
noncomputable def f215 : gD := fun Lv σ => match Lv with
  | [some (.ref q0), some (.int a), some (.int x), none, none, none] => cond (Nat.beq q0 323) (some (some (RS σ), some (.int (aMov (σ 324) a x)), hOp σ (gMov (σ 324) a x) (nMov (σ 324) a x))) none
  | _ => none
abbrev isR3 (R : gW) (a b c : Int32) : Prop := (isP R a b ∧ isP R b c) ∧ ¬ a = c
abbrev gRin (R : gW) (a b c : Int32) : Prop := isR3 R a b c ∧ ¬ 0 < fWhyR R a.toNatClampNeg b.toNatClampNeg c.toNatClampNeg
def aRin (R : gW) (a b c : Int32) : Int32 := if isR3 R a b c then (if 0 < fWhyR R a.toNatClampNeg b.toNatClampNeg c.toNatClampNeg then -10 - fWhyR R a.toNatClampNeg b.toNatClampNeg c.toNatClampNeg else fROR R a.toNatClampNeg b.toNatClampNeg c.toNatClampNeg) else -1
def nRin (R : gW) (a b c : Int32) : gW := fTe (radd (rtu R a.toNatClampNeg b.toNatClampNeg c.toNatClampNeg) 6 1) 3 (10000 * a + 100 * b + c) 0
noncomputable def f216 : gD := fun Lv σ => match Lv with
  | [some (.ref q0), some (.int a), some (.int b), some (.int c), none, none] => cond (Nat.beq q0 323) (some (some (RS σ), some (.int (aRin (σ 324) a b c)), hOp σ (gRin (σ 324) a b c) (nRin (σ 324) a b c))) none
  | _ => none
/-! THE REFERENCE: its calls, set, settle, keep, restore, undo -/
def fof (w : Int32) : Nat := if w = 4 then 1 else 3 + w.toNatClampNeg
theorem inR_cases {R : gW} {w n : Int32} (h : inR R w n) : w = 0 ∨ w = 1 ∨ w = 2 ∨ w = 3 ∨ w = 4 := by
  rcases h with q | q | q | q
  · exact q.1.elim Or.inl (fun e => Or.inr (Or.inl e))
  · exact Or.inr (Or.inr (Or.inl q.1))
  · exact Or.inr (Or.inr (Or.inr (Or.inl q.1)))
  · exact Or.inr (Or.inr (Or.inr (Or.inr q.1)))
theorem idf {R : gW} {t w n : Int32} (ht : 0 ≤ t ∧ t < 20) (h : inR R w n) : (9 + 10 * t + (if w = 4 then 1 else 3 + w)).toNatClampNeg = 9 + 10 * t.toNatClampNeg + fof w ∧ 0 ≤ 9 + 10 * t + (if w = 4 then 1 else 3 + w) ∧ 9 + 10 * t + (if w = 4 then 1 else 3 + w) < 330 := by
  rcases inR_cases h with e | e | e | e | e <;> subst e
  · exact idx ht 3 (by decide)
  · exact idx ht 4 (by decide)
  · exact idx ht 5 (by decide)
  · exact idx ht 6 (by decide)
  · exact idx ht 1 (by decide)
theorem fof_le {R : gW} {w n : Int32} (h : inR R w n) : 1 ≤ fof w ∧ fof w ≤ 6 := by
  rcases inR_cases h with e | e | e | e | e <;> subst e <;> decide
abbrev gSet (R : gW) (t w v : Int32) : Prop := ((isT R t ∧ inR R w v) ∧ ¬ fld R t.toNatClampNeg (fof w) = v) ∧ ¬ (w = 4 ∧ ¬ (v = 1 ∨ R 1 ≤ fld R t.toNatClampNeg 0 / 4))
def aSet (R : gW) (t w v : Int32) : Int32 := if isT R t ∧ inR R w v then (if fld R t.toNatClampNeg (fof w) = v then -2 else if w = 4 ∧ ¬ (v = 1 ∨ R 1 ≤ fld R t.toNatClampNeg 0 / 4) then -4 else if w < 2 then fld R t.toNatClampNeg (fof w) + 9 else fld R t.toNatClampNeg (fof w)) else -1
def nSet (R : gW) (t w v : Int32) : gW := fTe (rup R (9 + 10 * t.toNatClampNeg + fof w) v) 6 (10 * t + w) (fld R t.toNatClampNeg (fof w))
noncomputable def f211 : gD := fun Lv σ => match Lv with
  | [some (.ref q0), some (.int t), some (.int w), some (.int v), none] => cond (Nat.beq q0 323) (some (some (RS σ), some (.int (aSet (σ 324) t w v)), hOp σ (gSet (σ 324) t w v) (nSet (σ 324) t w v))) none
  | _ => none
/-- rows end with zeros -/
abbrev zR (R : gW) : Prop := ∀ j, 330 ≤ j → R j = 0
def rowAt (E : gW) (u : Nat) : gW := fun j => if j < 330 then E (330 * u + j) else 0
theorem rla_row {E N : gW} (u : Nat) (hz : zR N) : rla E N (330 * u) 0 330 = rowAt E u := by
  funext j
  unfold rla rowAt
  by_cases h : j < 330
  · rw [if_pos ⟨by omega, by omega⟩, if_pos h, Nat.sub_zero]
  · rw [if_neg (by omega), if_neg h, hz j (by omega)]
theorem rla_all {N S : gW} (hz : zR N) (hs : zR S) : rla N S 0 0 330 = N := by
  funext j
  unfold rla
  by_cases h : j < 330
  · rw [if_pos ⟨by omega, by omega⟩, Nat.sub_zero, Nat.zero_add]
  · rw [if_neg (by omega), hs j (by omega), hz j (by omega)]
abbrev RZ (σ : gS) : Prop := zR (σ 324) ∧ zR (σ 325) ∧ zR (σ 326)
theorem hKe_ne {σ : gS} {q : Nat} (h : ¬ q = 323) (h2 : ¬ q = 327) : hKe σ q = σ q := by unfold hKe; rw [grow_ne h, grow_ne h2]
theorem z_nat : (0 : Int32).toNatClampNeg = 0 := by decide
noncomputable def f154 : gD := fun Lv σ => match Lv with
  | [some (.ref q0)] => cond (Nat.beq q0 323) (some (some (RZ σ), none, grow σ 326 (σ 324))) none
  | _ => none
theorem fSt_3 : ∀ (d : Nat) (R : gW), (fSt d R).2 3 = R 3
  | 0, R => rfl
  | d + 1, R => by
    by_cases h : fBest R < 0
    · rw [fSt_lt h]
    · rw [fSt_ge h]
      show (fSt d (fNx R)).2 3 = R 3
      rw [fSt_3 d, fNx_3]
theorem rsw_z {R : gW} {a b : Nat} (ha : a < 32) (hb : b < 32) (h : zR R) : zR (rsw R a b) := by
  intro j hj
  rw [rsw_eq, if_neg (by omega), if_neg (by omega)]
  exact h j hj
theorem fBest_ab {R : gW} (hR : 0 ≤ R 3 ∧ R 3 ≤ 20) (h : ¬ fBest R < 0) : ∃ a b, a < nM R ∧ b < nM R ∧ nM R ≤ 20 ∧ fNx R = rsw R a b := by
  have hn := (nM_of hR).2
  rcases fBest_of R with e | ⟨a, b, ha, hb, e⟩
  · rw [e] at h; exact absurd (by decide) h
  · obtain ⟨d1, d2, -⟩ := dm100 a (by omega) b (by omega)
    refine ⟨a, b, ha, hb, hn, ?_⟩
    unfold fNx
    rw [e, d2, d1, iN_nat (by omega), iN_nat (by omega)]
/-- settling changes seats alone -/
theorem fSt_same {P : gW → Prop} (hP : ∀ R a b, a < 20 → b < 20 → P R → P (rsw R a b)) : ∀ (d : Nat) (R : gW), (0 ≤ R 3 ∧ R 3 ≤ 20) → P R → P (fSt d R).2
  | 0, R, _, h => h
  | d + 1, R, hR, h => by
    by_cases hb : fBest R < 0
    · rw [fSt_lt hb]; exact h
    · rw [fSt_ge hb]
      obtain ⟨a, b, ha, hb2, hn, e⟩ := fBest_ab hR hb
      refine fSt_same hP d (fNx R) (by rw [fNx_3]; exact hR) ?_
      rw [e]
      exact hP R a b (by omega) (by omega) h
theorem fSt_z {d : Nat} {R : gW} (hR : 0 ≤ R 3 ∧ R 3 ≤ 20) (h : zR R) : zR (fSt d R).2 := fSt_same (fun R a b ha hb h => rsw_z (by omega) (by omega) h) d R hR h
theorem fSt_9 {d : Nat} {R : gW} (hR : 0 ≤ R 3 ∧ R 3 ≤ 20) : (fSt d R).2 209 = R 209 := fSt_same (P := fun S => S 209 = R 209) (fun S a b ha hb h => by
  show rsw S a b 209 = R 209
  rw [rsw_eq, if_neg (by omega), if_neg (by omega)]
  exact h) d R hR rfl
theorem fSt_n : ∀ (d : Nat) (R : gW), (fSt d R).1 ≤ d
  | 0, _ => Nat.le_refl 0
  | d + 1, R => by
    by_cases h : fBest R < 0
    · rw [fSt_lt h]; exact Nat.zero_le _
    · rw [fSt_ge h]
      have := fSt_n d (fNx R)
      show (fSt d (fNx R)).1 + 1 ≤ d + 1
      omega
theorem fSt_0 {d : Nat} {R : gW} (h : (fSt d R).1 = 0) : (fSt d R).2 = R := by
  cases d with
  | zero => rfl
  | succ d =>
    by_cases hb : fBest R < 0
    · rw [fSt_lt hb]
    · rw [fSt_ge hb] at h; exact absurd h (by simp)
abbrev gStl (R : gW) : Prop := ¬ (fSt 99 R).1 = 0
def aStl (R : gW) : Int32 := if (fSt 99 R).1 = 0 then -2 else iN (fSt 99 R).1
def nStl (R : gW) : gW := fTe (radd (fSt 99 R).2 4 (iN (fSt 99 R).1)) 5 (iN (fSt 99 R).1) (fJa (radd (fSt 99 R).2 4 (iN (fSt 99 R).1)) - fJa R)
noncomputable def gpfP_l : List (Nat × gD) := gpfO_l
noncomputable def gpfP : gP := gpl0 gpfP_l
theorem gpfP_ok : gPok gpfP := gpfO_ok
noncomputable def f217 : gD := fun Lv σ => match Lv with
  | [some (.ref q0), none, none] => cond (Nat.beq q0 323) (some (some (RS σ ∧ RZ σ), some (.int (aStl (σ 324))), hOp (grow σ 326 (fSt 99 (σ 324)).2) (gStl (σ 324)) (nStl (σ 324)))) none
  | _ => none
