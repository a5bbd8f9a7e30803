/-! THE REFERENCE: its calls, swap, move, ring, set -/
theorem idx {a : Int32} (ha : 0 ≤ a ∧ a < 20) (f : Nat) (hf : f < 20) : (9 + 10 * a + iN f).toNatClampNeg = 9 + 10 * a.toNatClampNeg + f ∧ 0 ≤ 9 + 10 * a + iN f ∧ 9 + 10 * a + iN f < 330 := by
  obtain ⟨e, l⟩ := t20 ha
  obtain ⟨m, hm⟩ : ∃ m, a.toNatClampNeg = m := ⟨_, rfl⟩
  rw [hm] at e l ⊢
  rw [e]
  exact ⟨ixn f m l hf, ixbn f m l hf⟩
/-- a number of a row changed by so much -/
def radd (R : gW) (k : Nat) (x : Int32) : gW := rup R k (R k + x)
def nSwa (R : gW) (a b x : Int32) : gW := fTe (radd (radd (radd (radd (rsw R a.toNatClampNeg b.toNatClampNeg) (9 + 10 * a.toNatClampNeg + 7) (-x)) (9 + 10 * b.toNatClampNeg + 7) x) 7 x) 4 1) 1 (100 * a + b) x
set_option maxRecDepth 20000 in
theorem w214 {σ : gS} {K : gK} {a b x : Int32} (h : (((bI (isP (σ 324) a b)) = 0 → K (some (.int (-1))) σ) ∧ (¬ (bI (isP (σ 324) a b)) = 0 → ((¬ (bI (0 ≤ x ∧ x ≤ 9)) = 0 → (((0 ≤ a ∧ a < 20) ∧ (0 ≤ b ∧ b < 20)) ∧ 0 ≤ σ 324 3 ∧ σ 324 3 ≤ 20) ∧ ((¬ 0 < (fWhy (σ 324) a.toNatClampNeg b.toNatClampNeg x) → (0 ≤ σ 323 6 ∧ σ 323 6 ≤ 8) ∧ (((0 ≤ a ∧ a < 20) ∧ (0 ≤ b ∧ b < 20)) ∧ (0 ≤ a ∧ a < 20) ∧ 0 ≤ (hKe σ) 324 3 ∧ (hKe σ) 324 3 ≤ 20) ∧ (((0 ≤ a ∧ a < 20) ∧ (0 ≤ b ∧ b < 20)) ∧ (0 ≤ b ∧ b < 20) ∧ 0 ≤ (hKe σ) 324 3 ∧ (hKe σ) 324 3 ≤ 20) ∧ (((0 ≤ a ∧ a < 20) ∧ (0 ≤ b ∧ b < 20))) ∧ (0 ≤ (9 + 10 * a + (7 : Int32)) ∧ (9 + 10 * a + (7 : Int32)) < 330) ∧ (0 ≤ (9 + 10 * a + (7 : Int32)) ∧ (9 + 10 * a + (7 : Int32)) < 330) ∧ gE 214 92 [some (.ref 323), some (.int a), some (.int b), some (.int x), some (.int (fWhy (σ 324) a.toNatClampNeg b.toNatClampNeg x)), some (.int ((fRise ((hKe σ) 324) a.toNatClampNeg b.toNatClampNeg a.toNatClampNeg) + (fRise ((hKe σ) 324) a.toNatClampNeg b.toNatClampNeg b.toNatClampNeg)))] [] (gup (grow (hKe σ) 324 (rsw ((hKe σ) 324) a.toNatClampNeg b.toNatClampNeg)) 324 (9 + 10 * a + (7 : Int32)).toNatClampNeg (((grow (hKe σ) 324 (rsw ((hKe σ) 324) a.toNatClampNeg b.toNatClampNeg)) 324 (9 + 10 * a + (7 : Int32)).toNatClampNeg) - x)) K) ∧ (0 < (fWhy (σ 324) a.toNatClampNeg b.toNatClampNeg x) → K (some (.int (-10 - (fWhy (σ 324) a.toNatClampNeg b.toNatClampNeg x)))) σ))) ∧ ((bI (0 ≤ x ∧ x ≤ 9)) = 0 → K (some (.int (-1))) σ))))) : gE 214 0 [some (.ref 323), some (.int a), some (.int b), some (.int x), none, none] [] σ K :=
  gw_run (cy := 214) (cuts := [80, 92, 107, 118, 128]) (inl := []) (pf := gpfO) gpfO_ok 400 (by decide) h
set_option maxRecDepth 20000 in
theorem c214_92 {σ : gS} {K : gK} {l1 l2 l3 l4 l5 : Int32} (h : (0 ≤ (9 + 10 * l2 + (7 : Int32)) ∧ (9 + 10 * l2 + (7 : Int32)) < 330) ∧ (0 ≤ (9 + 10 * l2 + (7 : Int32)) ∧ (9 + 10 * l2 + (7 : Int32)) < 330) ∧ gE 214 107 [some (.ref 323), some (.int l1), some (.int l2), some (.int l3), some (.int l4), some (.int l5)] [] (gup σ 324 (9 + 10 * l2 + (7 : Int32)).toNatClampNeg ((σ 324 (9 + 10 * l2 + (7 : Int32)).toNatClampNeg) + l3)) K) : gE 214 92 [some (.ref 323), some (.int l1), some (.int l2), some (.int l3), some (.int l4), some (.int l5)] [] σ K :=
  gw_run (cy := 214) (cuts := [80, 92, 107, 118, 128]) (inl := []) (pf := gpfO) gpfO_ok 400 (by decide) h
set_option maxRecDepth 20000 in
theorem c214_107 {σ : gS} {K : gK} {l1 l2 l3 l4 l5 : Int32} (h : (0 ≤ (7 : Int32) ∧ (7 : Int32) < 330) ∧ (0 ≤ (7 : Int32) ∧ (7 : Int32) < 330) ∧ gE 214 118 [some (.ref 323), some (.int l1), some (.int l2), some (.int l3), some (.int l4), some (.int l5)] [] (gup σ 324 7 ((σ 324 7) + l3)) K) : gE 214 107 [some (.ref 323), some (.int l1), some (.int l2), some (.int l3), some (.int l4), some (.int l5)] [] σ K :=
  gw_run (cy := 214) (cuts := [80, 92, 107, 118, 128]) (inl := []) (pf := gpfO) gpfO_ok 400 (by decide) h
set_option maxRecDepth 20000 in
theorem c214_118 {σ : gS} {K : gK} {l1 l2 l3 l4 l5 : Int32} (h : (0 ≤ (4 : Int32) ∧ (4 : Int32) < 330) ∧ (0 ≤ (4 : Int32) ∧ (4 : Int32) < 330) ∧ gE 214 128 [some (.ref 323), some (.int l1), some (.int l2), some (.int l3), some (.int l4), some (.int l5)] [] (gup σ 324 4 ((σ 324 4) + 1)) K) : gE 214 118 [some (.ref 323), some (.int l1), some (.int l2), some (.int l3), some (.int l4), some (.int l5)] [] σ K :=
  gw_run (cy := 214) (cuts := [80, 92, 107, 118, 128]) (inl := []) (pf := gpfO) gpfO_ok 400 (by decide) h
set_option maxRecDepth 20000 in
theorem c214_128 {σ : gS} {K : gK} {l1 l2 l3 l4 l5 : Int32} (h : (0 ≤ σ 324 209 ∧ σ 324 209 ≤ 40) ∧ K (some (.int (l5 + 100))) (grow σ 324 (fTe (σ 324) (1 : Int32) ((100 * l1) + l2) l3))) : gE 214 128 [some (.ref 323), some (.int l1), some (.int l2), some (.int l3), some (.int l4), some (.int l5)] [] σ K :=
  gw_run (cy := 214) (cuts := [80, 92, 107, 118, 128]) (inl := []) (pf := gpfO) gpfO_ok 400 (by decide) h
theorem bnd209 {R : gW} {k : Nat} {x : Int32} (h : ¬ 209 = k) (hR : 0 ≤ R 209 ∧ R 209 ≤ 40) : 0 ≤ rup R k x 209 ∧ rup R k x 209 ≤ 40 := by rw [rup_ne h]; exact hR
theorem s214 {σ : gS} {K : gK} {a b x : Int32} (hc : RS σ) (hK : K (some (.int (aSwa (σ 324) a b x))) (hOp σ (gSwa (σ 324) a b x) (nSwa (σ 324) a b x))) : gE 214 0 [some (.ref 323), some (.int a), some (.int b), some (.int x), none, none] [] σ K := by
  obtain ⟨⟨h3, h9⟩, hu⟩ := hc
  have hk3 : 0 ≤ hKe σ 324 3 ∧ hKe σ 324 3 ≤ 20 := by rw [hKe_324]; exact h3
  unfold aSwa hOp at hK
  refine w214 ?_
  simp only [bI_0]
  refine ⟨fun h => ?_, fun h => ⟨fun h1 => ?_, fun h1 => ?_⟩⟩
  · rw [if_neg (fun q => h q.1), if_neg (fun q => h q.1.1)] at hK; exact hK
  · have h := Decidable.not_not.mp h
    have h1 := Decidable.not_not.mp h1
    obtain ⟨ha, hb⟩ := isP_of h3 h
    have la := (t20 ha).2
    have lb := (t20 hb).2
    rw [if_pos ⟨h, h1⟩] at hK
    obtain ⟨ia, ja⟩ := idx ha 7 (by decide)
    obtain ⟨ib, jb⟩ := idx hb 7 (by decide)
    have ia : (9 + 10 * a + (7 : Int32)).toNatClampNeg = 9 + 10 * a.toNatClampNeg + 7 := ia
    have ib : (9 + 10 * b + (7 : Int32)).toNatClampNeg = 9 + 10 * b.toNatClampNeg + 7 := ib
    refine ⟨⟨⟨ha, hb⟩, h3⟩, fun h2 => ⟨hu, ⟨⟨ha, hb⟩, ha, hk3⟩, ⟨⟨ha, hb⟩, hb, hk3⟩, ⟨ha, hb⟩, ja, ja, ?_⟩, fun h2 => ?_⟩
    · rw [if_neg h2, if_pos ⟨⟨h, h1⟩, h2⟩] at hK
      refine c214_92 ⟨jb, jb, c214_107 ⟨by decide, by decide, c214_118 ⟨by decide, by decide, c214_128 ?_⟩⟩⟩
      rw [ia, ib]
      simp (disch := decide) only [gup_grow, grow_grow, grow_at, hKe_324]
      refine ⟨?_, ?_⟩
      · refine bnd209 (by decide) (bnd209 (by decide) (bnd209 (by omega) (bnd209 (by omega) ?_)))
        rw [rsw_eq, if_neg (by omega), if_neg (by omega)]
        exact h9
      · unfold nSwa radd at hK
        simp only [Int32.sub_eq_add_neg]
        exact hK
    · rw [if_pos h2, if_neg (fun q => q.2 h2)] at hK; exact hK
  · rw [if_neg (fun q => h1 q.2), if_neg (fun q => h1 q.1.2)] at hK; exact hK
noncomputable def f214 : gD := fun Lv σ => match Lv with
  | [some (.ref q0), some (.int a), some (.int b), some (.int x), none, none] => cond (Nat.beq q0 323) (some (some (RS σ), some (.int (aSwa (σ 324) a b x)), hOp σ (gSwa (σ 324) a b x) (nSwa (σ 324) a b x))) none
  | _ => none
theorem ok214 : gFok 214 f214 := by
  intro Lv σ q h hc K hK
  unfold f214 at h
  split at h
  · rename_i q0 a b x
    obtain ⟨hb, h⟩ := c_no h
    have hb0 := hb
    have e0 := b_eq hb0
    subst e0
    cases h
    exact s214 (hc _ rfl) hK
  · cases h
abbrev gMov (R : gW) (a x : Int32) : Prop := (isT R a ∧ isS R x) ∧ ¬ 0 < fWhyM R a.toNatClampNeg x
def aMov (R : gW) (a x : Int32) : Int32 := if isT R a ∧ isS R x then (if 0 < fWhyM R a.toNatClampNeg x then -10 - fWhyM R a.toNatClampNeg x else fJoy R a.toNatClampNeg x - fJo R a.toNatClampNeg) else -1
def nMov (R : gW) (a x : Int32) : gW := fTe (radd (rup R (9 + 10 * a.toNatClampNeg + 0) x) 5 1) 2 a (fld R a.toNatClampNeg 0)
set_option maxRecDepth 20000 in
theorem w215 {σ : gS} {K : gK} {a x : Int32} (h : (((bI (isT (σ 324) a)) = 0 → K (some (.int (-1))) σ) ∧ (¬ (bI (isT (σ 324) a)) = 0 → ((¬ (bI (isS (σ 324) x)) = 0 → ((0 ≤ a ∧ a < 20) ∧ 0 ≤ σ 324 3 ∧ σ 324 3 ≤ 20) ∧ ((¬ 0 < (fWhyM (σ 324) a.toNatClampNeg x) → (0 ≤ σ 323 6 ∧ σ 323 6 ≤ 8) ∧ (0 ≤ (9 + 10 * a + (0 : Int32)) ∧ (9 + 10 * a + (0 : Int32)) < 330) ∧ ((0 ≤ a ∧ a < 20) ∧ 0 ≤ (hKe σ) 324 3 ∧ (hKe σ) 324 3 ≤ 20) ∧ ((0 ≤ a ∧ a < 20) ∧ 0 ≤ (hKe σ) 324 3 ∧ (hKe σ) 324 3 ≤ 20) ∧ (0 ≤ (9 + 10 * a + (0 : Int32)) ∧ (9 + 10 * a + (0 : Int32)) < 330) ∧ gE 215 84 [some (.ref 323), some (.int a), some (.int x), some (.int (fWhyM (σ 324) a.toNatClampNeg x)), some (.int ((hKe σ) 324 (9 + 10 * a + (0 : Int32)).toNatClampNeg)), some (.int ((fJoy ((hKe σ) 324) a.toNatClampNeg x) - (fJo ((hKe σ) 324) a.toNatClampNeg)))] [] (gup (hKe σ) 324 (9 + 10 * a + (0 : Int32)).toNatClampNeg x) K) ∧ (0 < (fWhyM (σ 324) a.toNatClampNeg x) → K (some (.int (-10 - (fWhyM (σ 324) a.toNatClampNeg x)))) σ))) ∧ ((bI (isS (σ 324) x)) = 0 → K (some (.int (-1))) σ))))) : gE 215 0 [some (.ref 323), some (.int a), some (.int x), none, none, none] [] σ K :=
  gw_run (cy := 215) (cuts := [84, 94]) (inl := []) (pf := gpfO) gpfO_ok 400 (by decide) h
set_option maxRecDepth 20000 in
theorem c215_84 {σ : gS} {K : gK} {l1 l2 l3 l4 l5 : Int32} (h : (0 ≤ (5 : Int32) ∧ (5 : Int32) < 330) ∧ (0 ≤ (5 : Int32) ∧ (5 : Int32) < 330) ∧ gE 215 94 [some (.ref 323), some (.int l1), some (.int l2), some (.int l3), some (.int l4), some (.int l5)] [] (gup σ 324 5 ((σ 324 5) + 1)) K) : gE 215 84 [some (.ref 323), some (.int l1), some (.int l2), some (.int l3), some (.int l4), some (.int l5)] [] σ K :=
  gw_run (cy := 215) (cuts := [84, 94]) (inl := []) (pf := gpfO) gpfO_ok 400 (by decide) h
set_option maxRecDepth 20000 in
theorem c215_94 {σ : gS} {K : gK} {l1 l2 l3 l4 l5 : Int32} (h : (0 ≤ σ 324 209 ∧ σ 324 209 ≤ 40) ∧ K (some (.int l5)) (grow σ 324 (fTe (σ 324) (2 : Int32) l1 l4))) : gE 215 94 [some (.ref 323), some (.int l1), some (.int l2), some (.int l3), some (.int l4), some (.int l5)] [] σ K :=
  gw_run (cy := 215) (cuts := [84, 94]) (inl := []) (pf := gpfO) gpfO_ok 400 (by decide) h
theorem s215 {σ : gS} {K : gK} {a x : Int32} (hc : RS σ) (hK : K (some (.int (aMov (σ 324) a x))) (hOp σ (gMov (σ 324) a x) (nMov (σ 324) a x))) : gE 215 0 [some (.ref 323), some (.int a), some (.int x), none, none, none] [] σ K := by
  obtain ⟨⟨h3, h9⟩, hu⟩ := hc
  have hk3 : 0 ≤ hKe σ 324 3 ∧ hKe σ 324 3 ≤ 20 := by rw [hKe_324]; exact h3
  unfold aMov hOp at hK
  refine w215 ?_
  simp only [bI_0]
  refine ⟨fun h => ?_, fun h => ⟨fun h1 => ?_, fun h1 => ?_⟩⟩
  · rw [if_neg (fun q => h q.1), if_neg (fun q => h q.1.1)] at hK; exact hK
  · have h := Decidable.not_not.mp h
    have h1 := Decidable.not_not.mp h1
    have ha := isT_of h3 h
    have la := (t20 ha).2
    rw [if_pos ⟨h, h1⟩] at hK
    obtain ⟨ia, ja⟩ := idx ha 0 (by decide)
    have ia : (9 + 10 * a + (0 : Int32)).toNatClampNeg = 9 + 10 * a.toNatClampNeg + 0 := ia
    refine ⟨⟨ha, h3⟩, fun h2 => ⟨hu, ja, ⟨ha, hk3⟩, ⟨ha, hk3⟩, ja, ?_⟩, fun h2 => ?_⟩
    · rw [if_neg h2, if_pos ⟨⟨h, h1⟩, h2⟩] at hK
      refine c215_84 ⟨by decide, by decide, c215_94 ?_⟩
      rw [ia]
      simp (disch := decide) only [gup_grow, grow_grow, grow_at, hKe_324]
      exact ⟨bnd209 (by decide) (bnd209 (by omega) h9), hK⟩
    · rw [if_pos h2, if_neg (fun q => q.2 h2)] at hK; exact hK
  · rw [if_neg (fun q => h1 q.2), if_neg (fun q => h1 q.1.2)] at hK; exact hK
noncomputable def f215 : gD := fun Lv σ => match Lv with
  | [some (.ref q0), some (.int a), some (.int x), none, none, none] => cond (Nat.beq q0 323) (some (some (RS σ), some (.int (aMov (σ 324) a x)), hOp σ (gMov (σ 324) a x) (nMov (σ 324) a x))) none
  | _ => none
theorem ok215 : gFok 215 f215 := by
  intro Lv σ q h hc K hK
  unfold f215 at h
  split at h
  · rename_i q0 a x
    obtain ⟨hb, h⟩ := c_no h
    have hb0 := hb
    have e0 := b_eq hb0
    subst e0
    cases h
    exact s215 (hc _ rfl) hK
  · cases h
abbrev isR3 (R : gW) (a b c : Int32) : Prop := (isP R a b ∧ isP R b c) ∧ ¬ a = c
abbrev gRin (R : gW) (a b c : Int32) : Prop := isR3 R a b c ∧ ¬ 0 < fWhyR R a.toNatClampNeg b.toNatClampNeg c.toNatClampNeg
def aRin (R : gW) (a b c : Int32) : Int32 := if isR3 R a b c then (if 0 < fWhyR R a.toNatClampNeg b.toNatClampNeg c.toNatClampNeg then -10 - fWhyR R a.toNatClampNeg b.toNatClampNeg c.toNatClampNeg else fROR R a.toNatClampNeg b.toNatClampNeg c.toNatClampNeg) else -1
def nRin (R : gW) (a b c : Int32) : gW := fTe (radd (rtu R a.toNatClampNeg b.toNatClampNeg c.toNatClampNeg) 6 1) 3 (10000 * a + 100 * b + c) 0
set_option maxRecDepth 20000 in
theorem w216 {σ : gS} {K : gK} {a b c : Int32} (h : (((bI (isP (σ 324) a b)) = 0 → K (some (.int (-1))) σ) ∧ (¬ (bI (isP (σ 324) a b)) = 0 → (((bI (isP (σ 324) b c)) = 0 → K (some (.int (-1))) σ) ∧ (¬ (bI (isP (σ 324) b c)) = 0 → ((¬ a = c → (((0 ≤ a ∧ a < 20) ∧ (0 ≤ b ∧ b < 20) ∧ (0 ≤ c ∧ c < 20)) ∧ (a.toNatClampNeg ≠ b.toNatClampNeg ∧ b.toNatClampNeg ≠ c.toNatClampNeg ∧ a.toNatClampNeg ≠ c.toNatClampNeg) ∧ 0 ≤ σ 324 3 ∧ σ 324 3 ≤ 20) ∧ ((¬ 0 < (fWhyR (σ 324) a.toNatClampNeg b.toNatClampNeg c.toNatClampNeg) → (0 ≤ σ 323 6 ∧ σ 323 6 ≤ 8) ∧ (((0 ≤ a ∧ a < 20) ∧ (0 ≤ b ∧ b < 20) ∧ (0 ≤ c ∧ c < 20)) ∧ (a.toNatClampNeg ≠ b.toNatClampNeg ∧ b.toNatClampNeg ≠ c.toNatClampNeg ∧ a.toNatClampNeg ≠ c.toNatClampNeg) ∧ 0 ≤ (hKe σ) 324 3 ∧ (hKe σ) 324 3 ≤ 20) ∧ (((0 ≤ a ∧ a < 20) ∧ (0 ≤ b ∧ b < 20) ∧ (0 ≤ c ∧ c < 20))) ∧ (0 ≤ (6 : Int32) ∧ (6 : Int32) < 330) ∧ (0 ≤ (6 : Int32) ∧ (6 : Int32) < 330) ∧ gE 216 85 [some (.ref 323), some (.int a), some (.int b), some (.int c), some (.int (fWhyR (σ 324) a.toNatClampNeg b.toNatClampNeg c.toNatClampNeg)), some (.int (fROR ((hKe σ) 324) a.toNatClampNeg b.toNatClampNeg c.toNatClampNeg))] [] (gup (grow (hKe σ) 324 (rtu ((hKe σ) 324) a.toNatClampNeg b.toNatClampNeg c.toNatClampNeg)) 324 6 (((grow (hKe σ) 324 (rtu ((hKe σ) 324) a.toNatClampNeg b.toNatClampNeg c.toNatClampNeg)) 324 6) + 1)) K) ∧ (0 < (fWhyR (σ 324) a.toNatClampNeg b.toNatClampNeg c.toNatClampNeg) → K (some (.int (-10 - (fWhyR (σ 324) a.toNatClampNeg b.toNatClampNeg c.toNatClampNeg)))) σ))) ∧ (a = c → K (some (.int (-1))) σ))))))) : gE 216 0 [some (.ref 323), some (.int a), some (.int b), some (.int c), none, none] [] σ K :=
  gw_run (cy := 216) (cuts := [85]) (inl := []) (pf := gpfO) gpfO_ok 400 (by decide) h
set_option maxRecDepth 20000 in
theorem c216_85 {σ : gS} {K : gK} {l1 l2 l3 l4 l5 : Int32} (h : (0 ≤ σ 324 209 ∧ σ 324 209 ≤ 40) ∧ K (some (.int l5)) (grow σ 324 (fTe (σ 324) (3 : Int32) (((10000 * l1) + (100 * l2)) + l3) (0 : Int32)))) : gE 216 85 [some (.ref 323), some (.int l1), some (.int l2), some (.int l3), some (.int l4), some (.int l5)] [] σ K :=
  gw_run (cy := 216) (cuts := [85]) (inl := []) (pf := gpfO) gpfO_ok 400 (by decide) h
theorem s216 {σ : gS} {K : gK} {a b c : Int32} (hc : RS σ) (hK : K (some (.int (aRin (σ 324) a b c))) (hOp σ (gRin (σ 324) a b c) (nRin (σ 324) a b c))) : gE 216 0 [some (.ref 323), some (.int a), some (.int b), some (.int c), none, none] [] σ K := by
  obtain ⟨⟨h3, h9⟩, hu⟩ := hc
  have hk3 : 0 ≤ hKe σ 324 3 ∧ hKe σ 324 3 ≤ 20 := by rw [hKe_324]; exact h3
  unfold aRin hOp at hK
  refine w216 ?_
  simp only [bI_0]
  have no : ¬ isR3 (σ 324) a b c → K (some (.int (-1))) σ := by
    intro q
    rw [if_neg q, if_neg (fun e => q e.1)] at hK
    exact hK
  refine ⟨fun h => no (fun q => h q.1.1), fun h => ⟨fun h1 => no (fun q => h1 q.1.2), fun h1 => ⟨fun h2 => ?_, fun h2 => no (fun q => q.2 h2)⟩⟩⟩
  have h := Decidable.not_not.mp h
  have h1 := Decidable.not_not.mp h1
  obtain ⟨ha, hb⟩ := isP_of h3 h
  obtain ⟨-, hcc⟩ := isP_of h3 h1
  have la := (t20 ha).2
  have lb := (t20 hb).2
  have lc := (t20 hcc).2
  have hd : a.toNatClampNeg ≠ b.toNatClampNeg ∧ b.toNatClampNeg ≠ c.toNatClampNeg ∧ a.toNatClampNeg ≠ c.toNatClampNeg := ⟨nn_ne ha hb h.2, nn_ne hb hcc h1.2, nn_ne ha hcc h2⟩
  rw [if_pos ⟨⟨h, h1⟩, h2⟩] at hK
  refine ⟨⟨⟨ha, hb, hcc⟩, hd, h3⟩, fun h4 => ⟨hu, ⟨⟨ha, hb, hcc⟩, hd, hk3⟩, ⟨ha, hb, hcc⟩, by decide, by decide, ?_⟩, fun h4 => ?_⟩
  · rw [if_neg h4, if_pos ⟨⟨⟨h, h1⟩, h2⟩, h4⟩] at hK
    refine c216_85 ?_
    simp (disch := decide) only [gup_grow, grow_grow, grow_at, hKe_324]
    refine ⟨bnd209 (by decide) ?_, hK⟩
    rw [rtu_eq hd, if_neg (by omega), if_neg (by omega), if_neg (by omega)]
    exact h9
  · rw [if_pos h4, if_neg (fun q => q.2 h4)] at hK; exact hK
noncomputable def f216 : gD := fun Lv σ => match Lv with
  | [some (.ref q0), some (.int a), some (.int b), some (.int c), none, none] => cond (Nat.beq q0 323) (some (some (RS σ), some (.int (aRin (σ 324) a b c)), hOp σ (gRin (σ 324) a b c) (nRin (σ 324) a b c))) none
  | _ => none
theorem ok216 : gFok 216 f216 := by
  intro Lv σ q h hc K hK
  unfold f216 at h
  split at h
  · rename_i q0 a b c
    obtain ⟨hb, h⟩ := c_no h
    have hb0 := hb
    have e0 := b_eq hb0
    subst e0
    cases h
    exact s216 (hc _ rfl) hK
  · cases h
