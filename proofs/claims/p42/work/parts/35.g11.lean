/-! THE REFERENCE: sums, swaps, rings -/
noncomputable def gpfC_l : List (Nat × gD) := gpfB_l
noncomputable def gpfC : gP := gpl0 gpfC_l
theorem gpfC_ok : gPok gpfC := gpfB_ok
theorem b20 {k : Nat} (h : k < 20) : 0 ≤ iN k ∧ iN k < 20 := ⟨(iN_le (k := 0) (by decide) (by omega)).mpr (by omega), (iN_lt (m := 20) (by omega) (by decide)).mpr h⟩
def grow (σ : gS) (p : Nat) (R : gW) : gS := fun b j => if b = p then R j else σ b j
def rup (R : gW) (k : Nat) (x : Int32) : gW := fun j => if j = k then x else R j
theorem grow_at (σ : gS) (p : Nat) (R : gW) : grow σ p R p = R := by funext j; unfold grow; rw [if_pos rfl]
theorem grow_ne {σ : gS} {p q : Nat} {R : gW} (h : ¬ q = p) : grow σ p R q = σ q := by funext j; unfold grow; rw [if_neg h]
theorem grow_grow (σ : gS) (p : Nat) (R S : gW) : grow (grow σ p R) p S = grow σ p S := by
  funext b j; unfold grow
  by_cases h : b = p
  · rw [if_pos h, if_pos h]
  · rw [if_neg h, if_neg h, if_neg h]
theorem grow_id (σ : gS) (p : Nat) : grow σ p (σ p) = σ := by
  funext b j; unfold grow
  by_cases h : b = p
  · rw [if_pos h, h]
  · rw [if_neg h]
theorem gup_grow (σ : gS) (p k : Nat) (x : Int32) : gup σ p k x = grow σ p (rup (σ p) k x) := by
  funext b j; unfold gup grow rup
  by_cases h : b = p
  · rw [if_pos h]
    by_cases h2 : j = k
    · rw [if_pos ⟨h, h2⟩, if_pos h2]
    · rw [if_neg (fun e => h2 e.2), if_neg h2, h]
  · rw [if_neg h, if_neg (fun e => h e.1)]
theorem rup_at (R : gW) (k : Nat) (x : Int32) : rup R k x k = x := by unfold rup; rw [if_pos rfl]
theorem rup_ne {R : gW} {k j : Nat} {x : Int32} (h : ¬ j = k) : rup R k x j = R j := by unfold rup; rw [if_neg h]
/-- two travellers' seats exchanged -/
def rsw (R : gW) (a b : Nat) : gW := rup (rup R (9 + 10 * a) (R (9 + 10 * b))) (9 + 10 * b) (R (9 + 10 * a))
theorem rsw_eq (R : gW) (a b j : Nat) : rsw R a b j = if j = 9 + 10 * b then R (9 + 10 * a) else if j = 9 + 10 * a then R (9 + 10 * b) else R j := rfl
theorem rsw_rsw (R : gW) (a b : Nat) : rsw (rsw R a b) a b = R := by
  funext j
  simp only [rsw_eq]
  grind
theorem rsw_3 (R : gW) (a b : Nat) : rsw R a b 3 = R 3 := by rw [rsw_eq, if_neg (by omega), if_neg (by omega)]
/-- three travellers' seats turned round: the first gets the second's, and on -/
def rtu (R : gW) (a b c : Nat) : gW := rup (rup (rup R (9 + 10 * a) (R (9 + 10 * b))) (9 + 10 * b) (rup R (9 + 10 * a) (R (9 + 10 * b)) (9 + 10 * c))) (9 + 10 * c) (R (9 + 10 * a))
theorem rtu_eq {R : gW} {a b c : Nat} (h : a ≠ b ∧ b ≠ c ∧ a ≠ c) (j : Nat) : rtu R a b c j = if j = 9 + 10 * c then R (9 + 10 * a) else if j = 9 + 10 * b then R (9 + 10 * c) else if j = 9 + 10 * a then R (9 + 10 * b) else R j := by
  unfold rtu rup
  grind
theorem rtu_rtu {R : gW} {a b c : Nat} (h : a ≠ b ∧ b ≠ c ∧ a ≠ c) : rtu (rtu R a b c) c b a = R := by
  funext j
  rw [rtu_eq ⟨fun e => h.2.1 e.symm, fun e => h.1 e.symm, fun e => h.2.2 e.symm⟩]
  simp only [rtu_eq h]
  grind
theorem rtu_3 {R : gW} {a b c : Nat} (h : a ≠ b ∧ b ≠ c ∧ a ≠ c) : rtu R a b c 3 = R 3 := by rw [rtu_eq h, if_neg (by omega), if_neg (by omega), if_neg (by omega)]
def fJa (R : gW) : Int32 := sm (fJo R) (nM R)
def fGr (R : gW) : Int32 := iN (cnt (fun t => decide (fJo R t < 0)) (nM R))
def fBar (R : gW) (f : Int32) : Int32 := iN (cnt (fun t => decide (¬ (fld R t 1 = 1 ∨ f ≤ fld R t 0 / 4))) (nM R))
def fRise (R : gW) (a b w : Nat) : Int32 := fJo (rsw R a b) w - fJo R w
def fRA (R : gW) (a b : Nat) : Int32 := fJa (rsw R a b) - fJa R
def fWhy (R : gW) (a b : Nat) (x : Int32) : Int32 := if ¬ fMay R a (fld R b 0) ∨ ¬ fMay R b (fld R a 0) then 1 else if fld R a 7 < x then 2 else if fRise R a b a < x then 3 else if fRise R a b b < -x then 4 else 0
def fWhyM (R : gW) (t : Nat) (x : Int32) : Int32 := if 0 ≤ fWho R x then 5 else if ¬ fMay R t x then 1 else if fJoy R t x < fJo R t then 6 else 0
def fRR (R : gW) (a b c w : Nat) : Int32 := fJo (rtu R a b c) w - fJo R w
def fWhyR (R : gW) (a b c : Nat) : Int32 := if ¬ fMay R a (fld R b 0) ∨ ¬ fMay R b (fld R c 0) ∨ ¬ fMay R c (fld R a 0) then 1 else if fRR R a b c a < 0 then 6 else if fRR R a b c b < 0 then 6 else if fRR R a b c c < 0 then 6 else 0
def fROR (R : gW) (a b c : Nat) : Int32 := fRR R a b c a + fRR R a b c b + fRR R a b c c
noncomputable def f170 : gD := fun Lv σ => match Lv with
  | [some (.ref p), some (.int t)] => cond (Nat.beq p 324 || Nat.beq p 325 || Nat.beq p 326) (some (some ((0 ≤ t ∧ t < 20) ∧ 0 ≤ σ p 3 ∧ σ p 3 ≤ 20), some (.int (fJo (σ p) t.toNatClampNeg)), σ)) none
  | _ => none
noncomputable def gpfD_l : List (Nat × gD) := gpfC_l
noncomputable def gpfD : gP := gpl0 gpfD_l
theorem gpfD_ok : gPok gpfD := gpfC_ok
noncomputable def f171 : gD := fun Lv σ => match Lv with
  | [some (.ref p), none, none] => cond (Nat.beq p 324 || Nat.beq p 325 || Nat.beq p 326) (some (some (0 ≤ σ p 3 ∧ σ p 3 ≤ 20), some (.int (fJa (σ p))), σ)) none
  | _ => none
noncomputable def f172 : gD := fun Lv σ => match Lv with
  | [some (.ref p), none, none] => cond (Nat.beq p 324 || Nat.beq p 325 || Nat.beq p 326) (some (some (0 ≤ σ p 3 ∧ σ p 3 ≤ 20), some (.int (fGr (σ p))), σ)) none
  | _ => none
noncomputable def f212 : gD := fun Lv σ => match Lv with
  | [some (.ref p), some (.int f), none, none] => cond (Nat.beq p 324 || Nat.beq p 325 || Nat.beq p 326) (some (some (0 ≤ σ p 3 ∧ σ p 3 ≤ 20), some (.int (fBar (σ p) f)), σ)) none
  | _ => none
noncomputable def f173 : gD := fun Lv σ => match Lv with
  | [some (.ref p), some (.int a), some (.int b), none] => cond (Nat.beq p 324 || Nat.beq p 325 || Nat.beq p 326) (some (some (((0 ≤ a ∧ a < 20) ∧ (0 ≤ b ∧ b < 20))), none, grow σ p (rsw (σ p) a.toNatClampNeg b.toNatClampNeg))) none
  | _ => none
noncomputable def f174 : gD := fun Lv σ => match Lv with
  | [some (.ref p), some (.int a), some (.int b), some (.int c), none] => cond (Nat.beq p 324 || Nat.beq p 325 || Nat.beq p 326) (some (some (((0 ≤ a ∧ a < 20) ∧ (0 ≤ b ∧ b < 20) ∧ (0 ≤ c ∧ c < 20))), none, grow σ p (rtu (σ p) a.toNatClampNeg b.toNatClampNeg c.toNatClampNeg))) none
  | _ => none
noncomputable def gpfE_l : List (Nat × gD) := gpfD_l
noncomputable def gpfE : gP := gpl0 gpfE_l
theorem gpfE_ok : gPok gpfE := gpfD_ok
noncomputable def f175 : gD := fun Lv σ => match Lv with
  | [some (.ref p), some (.int a), some (.int b), some (.int w), none, none] => cond (Nat.beq p 324 || Nat.beq p 325 || Nat.beq p 326) (some (some (((0 ≤ a ∧ a < 20) ∧ (0 ≤ b ∧ b < 20)) ∧ (0 ≤ w ∧ w < 20) ∧ 0 ≤ σ p 3 ∧ σ p 3 ≤ 20), some (.int (fRise (σ p) a.toNatClampNeg b.toNatClampNeg w.toNatClampNeg)), σ)) none
  | _ => none
noncomputable def gpfF_l : List (Nat × gD) := gpfE_l
noncomputable def gpfF : gP := gpl0 gpfF_l
theorem gpfF_ok : gPok gpfF := gpfE_ok
noncomputable def f176 : gD := fun Lv σ => match Lv with
  | [some (.ref p), some (.int a), some (.int b), some (.int x)] => cond (Nat.beq p 324 || Nat.beq p 325 || Nat.beq p 326) (some (some (((0 ≤ a ∧ a < 20) ∧ (0 ≤ b ∧ b < 20)) ∧ 0 ≤ σ p 3 ∧ σ p 3 ≤ 20), some (.int (fWhy (σ p) a.toNatClampNeg b.toNatClampNeg x)), σ)) none
  | _ => none
noncomputable def f177 : gD := fun Lv σ => match Lv with
  | [some (.ref p), some (.int t), some (.int x)] => cond (Nat.beq p 324 || Nat.beq p 325 || Nat.beq p 326) (some (some ((0 ≤ t ∧ t < 20) ∧ 0 ≤ σ p 3 ∧ σ p 3 ≤ 20), some (.int (fWhyM (σ p) t.toNatClampNeg x)), σ)) none
  | _ => none
noncomputable def f178 : gD := fun Lv σ => match Lv with
  | [some (.ref p), some (.int a), some (.int b), some (.int c), some (.int w), none, none] => cond (Nat.beq p 324 || Nat.beq p 325 || Nat.beq p 326) (some (some (((0 ≤ a ∧ a < 20) ∧ (0 ≤ b ∧ b < 20) ∧ (0 ≤ c ∧ c < 20)) ∧ (a.toNatClampNeg ≠ b.toNatClampNeg ∧ b.toNatClampNeg ≠ c.toNatClampNeg ∧ a.toNatClampNeg ≠ c.toNatClampNeg) ∧ (0 ≤ w ∧ w < 20) ∧ 0 ≤ σ p 3 ∧ σ p 3 ≤ 20), some (.int (fRR (σ p) a.toNatClampNeg b.toNatClampNeg c.toNatClampNeg w.toNatClampNeg)), σ)) none
  | _ => none
noncomputable def gpfG_l : List (Nat × gD) := gpfF_l
noncomputable def gpfG : gP := gpl0 gpfG_l
theorem gpfG_ok : gPok gpfG := gpfF_ok
/-! THE REFERENCE: rings, the best swap, settling, rows copied -/
noncomputable def f179 : gD := fun Lv σ => match Lv with
  | [some (.ref p), some (.int a), some (.int b), some (.int c)] => cond (Nat.beq p 324) (some (some (((0 ≤ a ∧ a < 20) ∧ (0 ≤ b ∧ b < 20) ∧ (0 ≤ c ∧ c < 20)) ∧ (a.toNatClampNeg ≠ b.toNatClampNeg ∧ b.toNatClampNeg ≠ c.toNatClampNeg ∧ a.toNatClampNeg ≠ c.toNatClampNeg) ∧ 0 ≤ σ p 3 ∧ σ p 3 ≤ 20), some (.int (fWhyR (σ p) a.toNatClampNeg b.toNatClampNeg c.toNatClampNeg)), σ)) none
  | _ => none
noncomputable def f180 : gD := fun Lv σ => match Lv with
  | [some (.ref p), some (.int a), some (.int b), some (.int c)] => cond (Nat.beq p 324) (some (some (((0 ≤ a ∧ a < 20) ∧ (0 ≤ b ∧ b < 20) ∧ (0 ≤ c ∧ c < 20)) ∧ (a.toNatClampNeg ≠ b.toNatClampNeg ∧ b.toNatClampNeg ≠ c.toNatClampNeg ∧ a.toNatClampNeg ≠ c.toNatClampNeg) ∧ 0 ≤ σ p 3 ∧ σ p 3 ≤ 20), some (.int (fROR (σ p) a.toNatClampNeg b.toNatClampNeg c.toNatClampNeg)), σ)) none
  | _ => none
noncomputable def f181 : gD := fun Lv σ => match Lv with
  | [some (.ref p), some (.int a), some (.int b), none, none] => cond (Nat.beq p 324 || Nat.beq p 326) (some (some (((0 ≤ a ∧ a < 20) ∧ (0 ≤ b ∧ b < 20)) ∧ 0 ≤ σ p 3 ∧ σ p 3 ≤ 20), some (.int (fRA (σ p) a.toNatClampNeg b.toNatClampNeg)), σ)) none
  | _ => none
noncomputable def gpfH_l : List (Nat × gD) := gpfG_l
noncomputable def gpfH : gP := gpl0 gpfH_l
theorem gpfH_ok : gPok gpfH := gpfG_ok
def nfold {α : Type} (f : Nat → α → α) (n : Nat) (s : α) : α := match n with
  | 0 => s
  | n + 1 => f n (nfold f n s)
def bsS (R : gW) (a b : Nat) (s : Int32 × Int32) : Int32 × Int32 := if a = b ∨ 0 < fWhy R a b 0 then s else if fRA R a b ≤ s.2 then s else (100 * iN a + iN b, fRA R a b)
def bsR (R : gW) (a : Nat) (s : Int32 × Int32) : Int32 × Int32 := nfold (bsS R a) (nM R) s
def fBest (R : gW) : Int32 := (nfold (bsR R) (nM R) (-2, 0)).1
theorem g_forJ {y pc : Nat} {K : gK} {J : Type} (n : Nat) (Lv : Nat → J → gL) (σf : Nat → gS) (Inv : Nat → Prop) (hend : Inv n → ∀ u, gE y pc (Lv n u) [] (σf n) K) (hstep : ∀ k, k < n → Inv k → (Inv (k + 1) → ∀ u, gE y pc (Lv (k + 1) u) [] (σf (k + 1)) K) → ∀ u, gE y pc (Lv k u) [] (σf k) K) (k : Nat) (hk : k ≤ n) (hi : Inv k) : ∀ u, gE y pc (Lv k u) [] (σf k) K := by
  obtain ⟨d, hd⟩ : ∃ d, d = n - k := ⟨_, rfl⟩
  induction d generalizing k with
  | zero =>
    have : k = n := by omega
    subst this
    exact hend hi
  | succ d ih => exact hstep k (by omega) hi (fun h => ih (k + 1) (by omega) h (by omega))
noncomputable def f182 : gD := fun Lv σ => match Lv with
  | [some (.ref p), none, none, none, none, none] => cond (Nat.beq p 326) (some (some (0 ≤ σ p 3 ∧ σ p 3 ≤ 20), some (.int (fBest (σ p))), σ)) none
  | _ => none
noncomputable def gpfI_l : List (Nat × gD) := gpfH_l
noncomputable def gpfI : gP := gpl0 gpfI_l
theorem gpfI_ok : gPok gpfI := gpfH_ok
