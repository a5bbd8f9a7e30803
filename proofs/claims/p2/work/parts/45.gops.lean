/-! THE REFERENCE: its calls, first part -/
theorem hKe_324 (σ : gS) : hKe σ 324 = σ 324 := by unfold hKe; rw [grow_ne (by decide), grow_ne (by decide)]
theorem hKe_6 (σ : gS) : hKe σ 323 = rup (σ 323) 6 (fKu (σ 323 6)) := by unfold hKe; rw [grow_at]
/-- a row's bounds that the reference stands on -/
abbrev bN (R : gW) : Prop := (0 ≤ R 3 ∧ R 3 ≤ 20) ∧ (0 ≤ R 209 ∧ R 209 ≤ 40)
abbrev RS (σ : gS) : Prop := bN (σ 324) ∧ (0 ≤ σ 323 6 ∧ σ 323 6 ≤ 8)
/-- a call that goes through is kept for undo -/
def hOp (σ : gS) (g : Prop) [Decidable g] (n : gW) : gS := if g then grow (hKe σ) 324 n else σ
abbrev isT (R : gW) (t : Int32) : Prop := 0 ≤ t ∧ t ≤ R 3 - 1
abbrev isS (R : gW) (x : Int32) : Prop := 0 ≤ x ∧ x ≤ 4 * R 0 - 1
abbrev isP (R : gW) (a b : Int32) : Prop := (isT R a ∧ isT R b) ∧ ¬ a = b
theorem isT_of {R : gW} {t : Int32} (hc : 0 ≤ R 3 ∧ R 3 ≤ 20) (h : isT R t) : 0 ≤ t ∧ t < 20 := by
  obtain ⟨h1, h2⟩ := h
  exact ⟨h1, by grind⟩
theorem isP_of {R : gW} {a b : Int32} (hc : 0 ≤ R 3 ∧ R 3 ≤ 20) (h : isP R a b) : (0 ≤ a ∧ a < 20) ∧ (0 ≤ b ∧ b < 20) := ⟨isT_of hc h.1.1, isT_of hc h.1.2⟩
theorem nn_ne {a b : Int32} (ha : 0 ≤ a ∧ a < 20) (hb : 0 ≤ b ∧ b < 20) (h : ¬ a = b) : a.toNatClampNeg ≠ b.toNatClampNeg := by
  intro e
  rw [(t20 ha).1, (t20 hb).1, e] at h
  exact h rfl
set_option maxRecDepth 20000 in
theorem w156 {σ : gS} {K : gK} {t : Int32} (h : (0 ≤ (3 : Int32) ∧ (3 : Int32) < 330) ∧ ((bI ((0 : Int32) ≤ t ∧ t ≤ ((σ 324 3) - 1))) = 0 ∨ (bI ((0 : Int32) ≤ t ∧ t ≤ ((σ 324 3) - 1))) = 1) ∧ K (some (.int (bI ((0 : Int32) ≤ t ∧ t ≤ ((σ 324 3) - 1))))) σ) : gE 156 0 [some (.ref 323), some (.int t)] [] σ K :=
  gw_run (cy := 156) (cuts := []) (inl := []) (pf := gpfM) gpfM_ok 400 (by decide) h
theorem s156 {σ : gS} {K : gK} {t : Int32} (hK : K (some (.int (bI (isT (σ 324) t)))) σ) : gE 156 0 [some (.ref 323), some (.int t)] [] σ K := by
  exact w156 ⟨by decide, bI_01, hK⟩
noncomputable def f156 : gD := fun Lv σ => match Lv with
  | [some (.ref q0), some (.int t)] => cond (Nat.beq q0 323) (some (none, some (.int (bI (isT (σ 324) t))), σ)) none
  | _ => none
theorem ok156 : gFok 156 f156 := by
  intro Lv σ q h hc K hK
  unfold f156 at h
  split at h
  · rename_i q0 t
    obtain ⟨hb, h⟩ := c_no h
    have hb0 := hb
    have e0 := b_eq hb0
    subst e0
    cases h
    exact s156 hK
  · cases h
set_option maxRecDepth 20000 in
theorem w157 {σ : gS} {K : gK} {x : Int32} (h : (0 ≤ (0 : Int32) ∧ (0 : Int32) < 330) ∧ ((bI ((0 : Int32) ≤ x ∧ x ≤ ((4 * (σ 324 0)) - 1))) = 0 ∨ (bI ((0 : Int32) ≤ x ∧ x ≤ ((4 * (σ 324 0)) - 1))) = 1) ∧ K (some (.int (bI ((0 : Int32) ≤ x ∧ x ≤ ((4 * (σ 324 0)) - 1))))) σ) : gE 157 0 [some (.ref 323), some (.int x)] [] σ K :=
  gw_run (cy := 157) (cuts := []) (inl := []) (pf := gpfM) gpfM_ok 400 (by decide) h
theorem s157 {σ : gS} {K : gK} {x : Int32} (hK : K (some (.int (bI (isS (σ 324) x)))) σ) : gE 157 0 [some (.ref 323), some (.int x)] [] σ K := by
  exact w157 ⟨by decide, bI_01, hK⟩
noncomputable def f157 : gD := fun Lv σ => match Lv with
  | [some (.ref q0), some (.int x)] => cond (Nat.beq q0 323) (some (none, some (.int (bI (isS (σ 324) x))), σ)) none
  | _ => none
theorem ok157 : gFok 157 f157 := by
  intro Lv σ q h hc K hK
  unfold f157 at h
  split at h
  · rename_i q0 x
    obtain ⟨hb, h⟩ := c_no h
    have hb0 := hb
    have e0 := b_eq hb0
    subst e0
    cases h
    exact s157 hK
  · cases h
set_option maxRecDepth 20000 in
theorem w159 {σ : gS} {K : gK} {x : Int32} (h : ((bI ((0 : Int32) ≤ x ∧ x ≤ (9 : Int32))) = 0 ∨ (bI ((0 : Int32) ≤ x ∧ x ≤ (9 : Int32))) = 1) ∧ K (some (.int (bI ((0 : Int32) ≤ x ∧ x ≤ (9 : Int32))))) σ) : gE 159 0 [some (.int x)] [] σ K :=
  gw_run (cy := 159) (cuts := []) (inl := []) (pf := gpfM) gpfM_ok 400 (by decide) h
theorem s159 {σ : gS} {K : gK} {x : Int32} (hK : K (some (.int (bI (0 ≤ x ∧ x ≤ 9)))) σ) : gE 159 0 [some (.int x)] [] σ K := by
  exact w159 ⟨bI_01, hK⟩
noncomputable def f159 : gD := fun Lv σ => match Lv with
  | [some (.int x)] => some (none, some (.int (bI (0 ≤ x ∧ x ≤ 9))), σ)
  | _ => none
theorem ok159 : gFok 159 f159 := by
  intro Lv σ q h hc K hK
  unfold f159 at h
  split at h
  · rename_i x
    cases h
    exact s159 hK
  · cases h
set_option maxRecDepth 20000 in
theorem w209 {σ : gS} {K : gK} {w : Int32} (h : ((¬ w = 4 → K (some (.int (3 + w))) σ) ∧ (w = 4 → K (some (.int 1)) σ))) : gE 209 0 [some (.int w)] [] σ K :=
  gw_run (cy := 209) (cuts := []) (inl := []) (pf := gpfM) gpfM_ok 400 (by decide) h
theorem s209 {σ : gS} {K : gK} {w : Int32} (hK : K (some (.int (if w = 4 then 1 else 3 + w))) σ) : gE 209 0 [some (.int w)] [] σ K := by
  refine w209 ⟨fun h => ?_, fun h => ?_⟩
  · rw [if_neg h] at hK; exact hK
  · rw [if_pos h] at hK; exact hK
noncomputable def f209 : gD := fun Lv σ => match Lv with
  | [some (.int w)] => some (none, some (.int (if w = 4 then 1 else 3 + w)), σ)
  | _ => none
theorem ok209 : gFok 209 f209 := by
  intro Lv σ q h hc K hK
  unfold f209 at h
  split at h
  · rename_i w
    cases h
    exact s209 hK
  · cases h
noncomputable def gpfN_l : List (Nat × gD) := (156, f156) :: (157, f157) :: (159, f159) :: (209, f209) :: gpfM_l
noncomputable def gpfN : gP := gpl0 gpfN_l
theorem gpfN_ok : gPok gpfN := gpl0_cons ok156 (gpl0_cons ok157 (gpl0_cons ok159 (gpl0_cons ok209 (gpfM_ok))))
set_option maxRecDepth 20000 in
theorem w158 {σ : gS} {K : gK} {a b : Int32} (h : (((bI (isT (σ 324) a)) = 0 → ((0 : Int32) = 0 ∨ (0 : Int32) = 1) ∧ K (some (.int 0)) σ) ∧ (¬ (bI (isT (σ 324) a)) = 0 → (((bI (isT (σ 324) b)) = 0 → ((0 : Int32) = 0 ∨ (0 : Int32) = 1) ∧ K (some (.int 0)) σ) ∧ (¬ (bI (isT (σ 324) b)) = 0 → ((a = b → ((0 : Int32) = 0 ∨ (0 : Int32) = 1) ∧ K (some (.int 0)) σ) ∧ (¬ a = b → ((1 : Int32) = 0 ∨ (1 : Int32) = 1) ∧ K (some (.int 1)) σ))))))) : gE 158 0 [some (.ref 323), some (.int a), some (.int b)] [] σ K :=
  gw_run (cy := 158) (cuts := []) (inl := []) (pf := gpfN) gpfN_ok 400 (by decide) h
theorem s158 {σ : gS} {K : gK} {a b : Int32} (hK : K (some (.int (bI (isP (σ 324) a b)))) σ) : gE 158 0 [some (.ref 323), some (.int a), some (.int b)] [] σ K := by
  refine w158 ?_
  simp only [bI_0]
  grind [bI]
noncomputable def f158 : gD := fun Lv σ => match Lv with
  | [some (.ref q0), some (.int a), some (.int b)] => cond (Nat.beq q0 323) (some (none, some (.int (bI (isP (σ 324) a b))), σ)) none
  | _ => none
theorem ok158 : gFok 158 f158 := by
  intro Lv σ q h hc K hK
  unfold f158 at h
  split at h
  · rename_i q0 a b
    obtain ⟨hb, h⟩ := c_no h
    have hb0 := hb
    have e0 := b_eq hb0
    subst e0
    cases h
    exact s158 hK
  · cases h
abbrev inR (R : gW) (w n : Int32) : Prop := ((w = 0 ∨ w = 1) ∧ -9 ≤ n ∧ n ≤ 9) ∨ (w = 2 ∧ 0 ≤ n ∧ n ≤ R 0 - 1) ∨ (w = 3 ∧ 0 ≤ n ∧ n ≤ 3) ∨ (w = 4 ∧ 0 ≤ n ∧ n ≤ 1)
set_option maxRecDepth 20000 in
theorem w210 {σ : gS} {K : gK} {w n : Int32} (h : ((0 : Int) + 5 = 4 + 1 ∧ ((w = 0 → ((bI (((-9) : Int32) ≤ n ∧ n ≤ (9 : Int32))) = 0 ∨ (bI (((-9) : Int32) ≤ n ∧ n ≤ (9 : Int32))) = 1) ∧ K (some (.int (bI (((-9) : Int32) ≤ n ∧ n ≤ (9 : Int32))))) σ) ∧ (¬ w = 0 → ((w = 1 → ((bI (((-9) : Int32) ≤ n ∧ n ≤ (9 : Int32))) = 0 ∨ (bI (((-9) : Int32) ≤ n ∧ n ≤ (9 : Int32))) = 1) ∧ K (some (.int (bI (((-9) : Int32) ≤ n ∧ n ≤ (9 : Int32))))) σ) ∧ (¬ w = 1 → ((w = 2 → (0 ≤ (0 : Int32) ∧ (0 : Int32) < 330) ∧ ((bI ((0 : Int32) ≤ n ∧ n ≤ ((σ 324 0) - 1))) = 0 ∨ (bI ((0 : Int32) ≤ n ∧ n ≤ ((σ 324 0) - 1))) = 1) ∧ K (some (.int (bI ((0 : Int32) ≤ n ∧ n ≤ ((σ 324 0) - 1))))) σ) ∧ (¬ w = 2 → ((w = 3 → ((bI ((0 : Int32) ≤ n ∧ n ≤ (3 : Int32))) = 0 ∨ (bI ((0 : Int32) ≤ n ∧ n ≤ (3 : Int32))) = 1) ∧ K (some (.int (bI ((0 : Int32) ≤ n ∧ n ≤ (3 : Int32))))) σ) ∧ (¬ w = 3 → ((w = 4 → ((bI ((0 : Int32) ≤ n ∧ n ≤ (1 : Int32))) = 0 ∨ (bI ((0 : Int32) ≤ n ∧ n ≤ (1 : Int32))) = 1) ∧ K (some (.int (bI ((0 : Int32) ≤ n ∧ n ≤ (1 : Int32))))) σ) ∧ (¬ w = 4 → ((0 : Int32) = 0 ∨ (0 : Int32) = 1) ∧ K (some (.int 0)) σ)))))))))))) : gE 210 0 [some (.ref 323), some (.int w), some (.int n)] [] σ K :=
  gw_run (cy := 210) (cuts := []) (inl := []) (pf := gpfN) gpfN_ok 400 (by decide) h
theorem s210 {σ : gS} {K : gK} {w n : Int32} (hK : K (some (.int (bI (inR (σ 324) w n)))) σ) : gE 210 0 [some (.ref 323), some (.int w), some (.int n)] [] σ K := by
  have h01 : ∀ (p : Prop) [Decidable p], bI p = 0 ∨ bI p = 1 := fun p _ => bI_01
  have key : ∀ (p : Prop) [Decidable p], (p ↔ inR (σ 324) w n) → K (some (.int (bI p))) σ := by
    intro p _ h
    have e : bI p = bI (inR (σ 324) w n) := by
      by_cases q : p
      · rw [bI_t q, bI_t (h.mp q)]
      · rw [bI_f q, bI_f (fun e => q (h.mpr e))]
    rw [e]; exact hK
  refine w210 ⟨by decide, fun h => ⟨h01 _, key _ ?_⟩, fun h0 => ⟨fun h => ⟨h01 _, key _ ?_⟩, fun h1 => ⟨fun h => ⟨by decide, h01 _, key _ ?_⟩, fun h2 => ⟨fun h => ⟨h01 _, key _ ?_⟩, fun h3 => ⟨fun h => ⟨h01 _, key _ ?_⟩, fun h4 => ⟨by decide, ?_⟩⟩⟩⟩⟩⟩
  · subst h; exact ⟨fun q => Or.inl ⟨Or.inl rfl, q⟩, fun q => by rcases q with q | q | q | q <;> first | exact q.2 | exact absurd q.1 (by decide)⟩
  · subst h; exact ⟨fun q => Or.inl ⟨Or.inr rfl, q⟩, fun q => by rcases q with q | q | q | q <;> first | exact q.2 | exact absurd q.1 (by decide)⟩
  · subst h; exact ⟨fun q => Or.inr (Or.inl ⟨rfl, q⟩), fun q => by rcases q with q | q | q | q <;> first | exact absurd q.1 (by decide) | exact q.2⟩
  · subst h; exact ⟨fun q => Or.inr (Or.inr (Or.inl ⟨rfl, q⟩)), fun q => by rcases q with q | q | q | q <;> first | exact absurd q.1 (by decide) | exact q.2⟩
  · subst h; exact ⟨fun q => Or.inr (Or.inr (Or.inr ⟨rfl, q⟩)), fun q => by rcases q with q | q | q | q <;> first | exact absurd q.1 (by decide) | exact q.2⟩
  · have e : bI (inR (σ 324) w n) = 0 := bI_f (fun q => by rcases q with q | q | q | q <;> first | exact h4 q.1 | exact h3 q.1 | exact h2 q.1 | exact q.1.elim h0 h1)
    rw [e] at hK; exact hK
noncomputable def f210 : gD := fun Lv σ => match Lv with
  | [some (.ref q0), some (.int w), some (.int n)] => cond (Nat.beq q0 323) (some (none, some (.int (bI (inR (σ 324) w n))), σ)) none
  | _ => none
theorem ok210 : gFok 210 f210 := by
  intro Lv σ q h hc K hK
  unfold f210 at h
  split at h
  · rename_i q0 w n
    obtain ⟨hb, h⟩ := c_no h
    have hb0 := hb
    have e0 := b_eq hb0
    subst e0
    cases h
    exact s210 hK
  · cases h
noncomputable def gpfO_l : List (Nat × gD) := (158, f158) :: (210, f210) :: gpfN_l
noncomputable def gpfO : gP := gpl0 gpfO_l
theorem gpfO_ok : gPok gpfO := gpl0_cons ok158 (gpl0_cons ok210 (gpfN_ok))
abbrev gFir (R : gW) (f : Int32) : Prop := (0 ≤ f ∧ f ≤ R 0) ∧ ¬ R 1 = f ∧ ¬ 0 < fBar R f
def aFir (R : gW) (f : Int32) : Int32 := if 0 ≤ f ∧ f ≤ R 0 then (if R 1 = f then -2 else if 0 < fBar R f then -4 else R 1) else -1
def nFir (R : gW) (f : Int32) : gW := fTe (rup R 1 f) 7 0 (R 1)
set_option maxRecDepth 20000 in
theorem w213 {σ : gS} {K : gK} {f : Int32} (h : (0 ≤ (0 : Int32) ∧ (0 : Int32) < 330) ∧ ((¬ (bI ((0 : Int32) ≤ f ∧ f ≤ (σ 324 0))) = 0 → (0 ≤ (1 : Int32) ∧ (1 : Int32) < 330) ∧ ((¬ (σ 324 1) = f → (0 ≤ σ 324 3 ∧ σ 324 3 ≤ 20) ∧ ((¬ 0 < (fBar (σ 324) f) → (0 ≤ σ 323 6 ∧ σ 323 6 ≤ 8) ∧ (0 ≤ (1 : Int32) ∧ (1 : Int32) < 330) ∧ (0 ≤ (gup (hKe σ) 324 1 f) 324 209 ∧ (gup (hKe σ) 324 1 f) 324 209 ≤ 40) ∧ K (some (.int (σ 324 1))) (grow (gup (hKe σ) 324 1 f) 324 (fTe ((gup (hKe σ) 324 1 f) 324) (7 : Int32) (0 : Int32) (σ 324 1)))) ∧ (0 < (fBar (σ 324) f) → K (some (.int (-4))) σ))) ∧ ((σ 324 1) = f → K (some (.int (-2))) σ))) ∧ ((bI ((0 : Int32) ≤ f ∧ f ≤ (σ 324 0))) = 0 → K (some (.int (-1))) σ))) : gE 213 0 [some (.ref 323), some (.int f), none] [] σ K :=
  gw_run (cy := 213) (cuts := []) (inl := []) (pf := gpfO) gpfO_ok 400 (by decide) h
theorem s213 {σ : gS} {K : gK} {f : Int32} (hc : RS σ) (hK : K (some (.int (aFir (σ 324) f))) (hOp σ (gFir (σ 324) f) (nFir (σ 324) f))) : gE 213 0 [some (.ref 323), some (.int f), none] [] σ K := by
  obtain ⟨⟨h3, h9⟩, hu⟩ := hc
  refine w213 ?_
  simp (disch := decide) only [gup_grow, grow_grow, grow_at, hKe_324, rup_at, rup_ne]
  simp only [bI_0]
  unfold aFir hOp nFir at hK
  grind
noncomputable def f213 : gD := fun Lv σ => match Lv with
  | [some (.ref q0), some (.int f), none] => cond (Nat.beq q0 323) (some (some (RS σ), some (.int (aFir (σ 324) f)), hOp σ (gFir (σ 324) f) (nFir (σ 324) f))) none
  | _ => none
theorem ok213 : gFok 213 f213 := by
  intro Lv σ q h hc K hK
  unfold f213 at h
  split at h
  · rename_i q0 f
    obtain ⟨hb, h⟩ := c_no h
    have hb0 := hb
    have e0 := b_eq hb0
    subst e0
    cases h
    exact s213 (hc _ rfl) hK
  · cases h
abbrev gSwa (R : gW) (a b x : Int32) : Prop := (isP R a b ∧ 0 ≤ x ∧ x ≤ 9) ∧ ¬ 0 < fWhy R a.toNatClampNeg b.toNatClampNeg x
def aSwa (R : gW) (a b x : Int32) : Int32 := if isP R a b ∧ 0 ≤ x ∧ x ≤ 9 then (if 0 < fWhy R a.toNatClampNeg b.toNatClampNeg x then -10 - fWhy R a.toNatClampNeg b.toNatClampNeg x else fRise R a.toNatClampNeg b.toNatClampNeg a.toNatClampNeg + fRise R a.toNatClampNeg b.toNatClampNeg b.toNatClampNeg + 100) else -1
