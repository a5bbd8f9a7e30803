/-! THE REFERENCE: the log, what is kept for undo -/
def lsh (R : gW) (k : Nat) : gW := fun j => if 210 ≤ j ∧ j < 210 + k then R (j + 3) else R j
theorem lsh_0 (R : gW) : lsh R 0 = R := by funext j; unfold lsh; rw [if_neg (by omega)]
theorem lsh_s (R : gW) (k : Nat) : rup (lsh R k) (210 + k) (lsh R k (210 + k + 3)) = lsh R (k + 1) := by
  funext j
  unfold rup lsh
  by_cases h : j = 210 + k
  · rw [if_pos h, if_neg (by omega), if_pos (by omega), h]
  · rw [if_neg h]
    by_cases h2 : 210 ≤ j ∧ j < 210 + k
    · rw [if_pos h2, if_pos (by omega)]
    · rw [if_neg h2, if_neg (by omega)]
/-- an entry behind the last -/
def fTe0 (R : gW) (w a b : Int32) : gW := rup (rup (rup (rup R (210 + 3 * (R 209).toNatClampNeg) w) (210 + 3 * (R 209).toNatClampNeg + 1) a) (210 + 3 * (R 209).toNatClampNeg + 2) b) 209 (R 209 + 1)
def fTe (R : gW) (w a b : Int32) : gW := if R 209 = 40 then fTe0 (rup (lsh R 117) 209 39) w a b else fTe0 R w a b
theorem ix_l {s : Nat} (hs : s < 40) : ((210 + 3 * iN s : Int32).toNatClampNeg = 210 + 3 * s ∧ (210 + 3 * iN s + 1 : Int32).toNatClampNeg = 210 + 3 * s + 1 ∧ (210 + 3 * iN s + 2 : Int32).toNatClampNeg = 210 + 3 * s + 2) ∧ (0 ≤ 210 + 3 * iN s ∧ 210 + 3 * iN s < 330) ∧ (0 ≤ 210 + 3 * iN s + 1 ∧ 210 + 3 * iN s + 1 < 330) ∧ (0 ≤ 210 + 3 * iN s + 2 ∧ 210 + 3 * iN s + 2 < 330) := by
  have e0 : (210 + 3 * iN s : Int32) = iN (210 + 3 * s) := by
    show iN 210 + iN 3 * iN s = _
    rw [iN_mul, iN_add]
  have e1 : (210 + 3 * iN s + 1 : Int32) = iN (210 + 3 * s + 1) := by rw [e0, iN_one]
  have e2 : (210 + 3 * iN s + 2 : Int32) = iN (210 + 3 * s + 2) := by rw [e0]; exact iN_add _ 2
  rw [e1, e2, e0, iN_nat (by omega), iN_nat (by omega), iN_nat (by omega)]
  have lo : ∀ k, k < 330 → 0 ≤ iN k ∧ iN k < 330 := fun k hk => ⟨(iN_le (k := 0) (by decide) (by omega)).mpr (by omega), (iN_lt (m := 330) (by omega) (by decide)).mpr hk⟩
  exact ⟨⟨rfl, rfl, rfl⟩, lo _ (by omega), lo _ (by omega), lo _ (by omega)⟩
theorem i330 {k : Nat} (hk : k < 330) : (0 : Int32) ≤ iN k ∧ iN k < 330 := ⟨(iN_le (k := 0) (by decide) (by omega)).mpr (by omega), (iN_lt (m := 330) (by omega) (by decide)).mpr hk⟩
noncomputable def f204 : gD := fun Lv σ => match Lv with
  | [some (.ref q0), some (.int w), some (.int a), some (.int b), none] => cond (Nat.beq q0 323) (some (some (0 ≤ σ 324 209 ∧ σ 324 209 ≤ 40), none, grow σ 324 (fTe (σ 324) w a b))) none
  | _ => none
/-- the first m rows of 330 dropped by one -/
def esh (E : gW) (m : Nat) : gW := fun j => if j < 330 * m then E (j + 330) else E j
theorem esh_0 (E : gW) : esh E 0 = E := by funext j; unfold esh; rw [if_neg (by omega)]
theorem esh_s (E : gW) (m : Nat) : rla (esh E m) (esh E m) (330 * (m + 1)) (330 * m) 330 = esh E (m + 1) := by
  funext j
  unfold rla esh
  by_cases h : 330 * m ≤ j ∧ j < 330 * m + 330
  · rw [if_pos h, if_neg (by omega), if_pos (by omega), show 330 * (m + 1) + (j - 330 * m) = j + 330 by omega]
  · rw [if_neg h]
    by_cases h2 : j < 330 * m
    · rw [if_pos h2, if_pos (by omega)]
    · rw [if_neg h2, if_neg (by omega)]
/-- how many rows are kept, and the rows, behind one more -/
def fKu (u : Int32) : Int32 := if u = 8 then 8 else u + 1
def fKe (N E : gW) (u : Int32) : gW := if u = 8 then rla N (esh E 7) 0 2310 330 else rla N E 0 (330 * u.toNatClampNeg) 330
def hKe (σ : gS) : gS := grow (grow σ 327 (fKe (σ 324) (σ 327) (σ 323 6))) 323 (rup (σ 323) 6 (fKu (σ 323 6)))
noncomputable def f205 : gD := fun Lv σ => match Lv with
  | [some (.ref q0), none] => cond (Nat.beq q0 323) (some (some (0 ≤ σ 323 6 ∧ σ 323 6 ≤ 8), none, hKe σ)) none
  | _ => none
noncomputable def gpfM_l : List (Nat × gD) := gpfL_l
noncomputable def gpfM : gP := gpl0 gpfM_l
theorem gpfM_ok : gPok gpfM := gpfL_ok
/-! THE REFERENCE: its calls, first part -/
theorem hKe_324 (σ : gS) : hKe σ 324 = σ 324 := by unfold hKe; rw [grow_ne (by decide), grow_ne (by decide)]
theorem hKe_6 (σ : gS) : hKe σ 323 = rup (σ 323) 6 (fKu (σ 323 6)) := by unfold hKe; rw [grow_at]
/-- a row's bounds that the reference stands on -/
abbrev bN (R : gW) : Prop := (0 ≤ R 3 ∧ R 3 ≤ 20) ∧ (0 ≤ R 209 ∧ R 209 ≤ 40)
abbrev RS (σ : gS) : Prop := bN (σ 324) ∧ (0 ≤ σ 323 6 ∧ σ 323 6 ≤ 8)
/-- a call that goes through is kept for undo -/
def hOp (σ : gS) (g : Prop) [Decidable g] (n : gW) : gS := if g then grow (hKe σ) 324 n else σ
abbrev isT (R : gW) (t : Int32) : Prop := 0 ≤ t ∧ t ≤ R 3 - 1
abbrev isS (R : gW) (x : Int32) : Prop := 0 ≤ x ∧ x ≤ 4 * R 0 - 1
abbrev isP (R : gW) (a b : Int32) : Prop := (isT R a ∧ isT R b) ∧ ¬ a = b
theorem isT_of {R : gW} {t : Int32} (hc : 0 ≤ R 3 ∧ R 3 ≤ 20) (h : isT R t) : 0 ≤ t ∧ t < 20 := by
  obtain ⟨h1, h2⟩ := h
  exact ⟨h1, by grind⟩
theorem isP_of {R : gW} {a b : Int32} (hc : 0 ≤ R 3 ∧ R 3 ≤ 20) (h : isP R a b) : (0 ≤ a ∧ a < 20) ∧ (0 ≤ b ∧ b < 20) := ⟨isT_of hc h.1.1, isT_of hc h.1.2⟩
theorem nn_ne {a b : Int32} (ha : 0 ≤ a ∧ a < 20) (hb : 0 ≤ b ∧ b < 20) (h : ¬ a = b) : a.toNatClampNeg ≠ b.toNatClampNeg := by
  intro e
  rw [(t20 ha).1, (t20 hb).1, e] at h
  exact h rfl
noncomputable def f156 : gD := fun Lv σ => match Lv with
  | [some (.ref q0), some (.int t)] => cond (Nat.beq q0 323) (some (none, some (.int (bI (isT (σ 324) t))), σ)) none
  | _ => none
noncomputable def f157 : gD := fun Lv σ => match Lv with
  | [some (.ref q0), some (.int x)] => cond (Nat.beq q0 323) (some (none, some (.int (bI (isS (σ 324) x))), σ)) none
  | _ => none
noncomputable def f159 : gD := fun Lv σ => match Lv with
  | [some (.int x)] => some (none, some (.int (bI (0 ≤ x ∧ x ≤ 9))), σ)
  | _ => none
noncomputable def f209 : gD := fun Lv σ => match Lv with
  | [some (.int w)] => some (none, some (.int (if w = 4 then 1 else 3 + w)), σ)
  | _ => none
noncomputable def gpfN_l : List (Nat × gD) := gpfM_l
noncomputable def gpfN : gP := gpl0 gpfN_l
theorem gpfN_ok : gPok gpfN := gpfM_ok
noncomputable def f158 : gD := fun Lv σ => match Lv with
  | [some (.ref q0), some (.int a), some (.int b)] => cond (Nat.beq q0 323) (some (none, some (.int (bI (isP (σ 324) a b))), σ)) none
  | _ => none
abbrev inR (R : gW) (w n : Int32) : Prop := ((w = 0 ∨ w = 1) ∧ -9 ≤ n ∧ n ≤ 9) ∨ (w = 2 ∧ 0 ≤ n ∧ n ≤ R 0 - 1) ∨ (w = 3 ∧ 0 ≤ n ∧ n ≤ 3) ∨ (w = 4 ∧ 0 ≤ n ∧ n ≤ 1)
noncomputable def f210 : gD := fun Lv σ => match Lv with
  | [some (.ref q0), some (.int w), some (.int n)] => cond (Nat.beq q0 323) (some (none, some (.int (bI (inR (σ 324) w n))), σ)) none
  | _ => none
noncomputable def gpfO_l : List (Nat × gD) := gpfN_l
noncomputable def gpfO : gP := gpl0 gpfO_l
theorem gpfO_ok : gPok gpfO := gpfN_ok
abbrev gFir (R : gW) (f : Int32) : Prop := (0 ≤ f ∧ f ≤ R 0) ∧ ¬ R 1 = f ∧ ¬ 0 < fBar R f
def aFir (R : gW) (f : Int32) : Int32 := if 0 ≤ f ∧ f ≤ R 0 then (if R 1 = f then -2 else if 0 < fBar R f then -4 else R 1) else -1
def nFir (R : gW) (f : Int32) : gW := fTe (rup R 1 f) 7 0 (R 1)
noncomputable def f213 : gD := fun Lv σ => match Lv with
  | [some (.ref q0), some (.int f), none] => cond (Nat.beq q0 323) (some (some (RS σ), some (.int (aFir (σ 324) f)), hOp σ (gFir (σ 324) f) (nFir (σ 324) f))) none
  | _ => none
abbrev gSwa (R : gW) (a b x : Int32) : Prop := (isP R a b ∧ 0 ≤ x ∧ x ≤ 9) ∧ ¬ 0 < fWhy R a.toNatClampNeg b.toNatClampNeg x
def aSwa (R : gW) (a b x : Int32) : Int32 := if isP R a b ∧ 0 ≤ x ∧ x ≤ 9 then (if 0 < fWhy R a.toNatClampNeg b.toNatClampNeg x then -10 - fWhy R a.toNatClampNeg b.toNatClampNeg x else fRise R a.toNatClampNeg b.toNatClampNeg a.toNatClampNeg + fRise R a.toNatClampNeg b.toNatClampNeg b.toNatClampNeg + 100) else -1
