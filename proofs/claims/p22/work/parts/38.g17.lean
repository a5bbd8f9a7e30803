-- text 17
/-! THE REFERENCE: its calls, swap, move, ring, set -/
theorem idx {a : Int32} (ha : 0 ≤ a ∧ a < 20) (f : Nat) (hf : f < 20) : (9 + 10 * a + iN f).toNatClampNeg = 9 + 10 * a.toNatClampNeg + f ∧ 0 ≤ 9 + 10 * a + iN f ∧ 9 + 10 * a + iN f < 330 := by
  obtain ⟨e, l⟩ := t20 ha
  obtain ⟨m, hm⟩ : ∃ m, a.toNatClampNeg = m := ⟨_, rfl⟩
  rw [hm] at e l ⊢
  rw [e]
  exact ⟨ixn f m l hf, ixbn f m l hf⟩
/-- a number of a row changed by so much -/
def radd (R : gW) (k : Nat) (x : Int32) : gW := rup R k (R k + x)
def nSwa (R : gW) (a b x : Int32) : gW := fTe (radd (radd (radd (radd (rsw R a.toNatClampNeg b.toNatClampNeg) (9 + 10 * a.toNatClampNeg + 7) (-x)) (9 + 10 * b.toNatClampNeg + 7) x) 7 x) 4 1) 1 (100 * a + b) x
set_option maxRecDepth 20000 in
theorem w214 {σ : gS} {K : gK} {a b x : Int32} (h : (((bI (isP (σ 324) a b)) = 0 → K (some (.int (-1))) σ) ∧ (¬ (bI (isP (σ 324) a b)) = 0 → ((¬ (bI (0 ≤ x ∧ x ≤ 9)) = 0 → (((0 ≤ a ∧ a < 20) ∧ (0 ≤ b ∧ b < 20)) ∧ 0 ≤ σ 324 3 ∧ σ 324 3 ≤ 20) ∧ ((¬ 0 < (fWhy (σ 324) a.toNatClampNeg b.toNatClampNeg x) → (0 ≤ σ 323 6 ∧ σ 323 6 ≤ 8) ∧ (((0 ≤ a ∧ a < 20) ∧ (0 ≤ b ∧ b < 20)) ∧ (0 ≤ a ∧ a < 20) ∧ 0 ≤ (hKe σ) 324 3 ∧ (hKe σ) 324 3 ≤ 20) ∧ (((0 ≤ a ∧ a < 20) ∧ (0 ≤ b ∧ b < 20)) ∧ (0 ≤ b ∧ b < 20) ∧ 0 ≤ (hKe σ) 324 3 ∧ (hKe σ) 324 3 ≤ 20) ∧ (((0 ≤ a ∧ a < 20) ∧ (0 ≤ b ∧ b < 20))) ∧ (0 ≤ (9 + 10 * a + (7 : Int32)) ∧ (9 + 10 * a + (7 : Int32)) < 330) ∧ (0 ≤ (9 + 10 * a + (7 : Int32)) ∧ (9 + 10 * a + (7 : Int32)) < 330) ∧ gE 214 92 [some (.ref 323), some (.int a), some (.int b), some (.int x), some (.int (fWhy (σ 324) a.toNatClampNeg b.toNatClampNeg x)), some (.int ((fRise ((hKe σ) 324) a.toNatClampNeg b.toNatClampNeg a.toNatClampNeg) + (fRise ((hKe σ) 324) a.toNatClampNeg b.toNatClampNeg b.toNatClampNeg)))] [] (gup (grow (hKe σ) 324 (rsw ((hKe σ) 324) a.toNatClampNeg b.toNatClampNeg)) 324 (9 + 10 * a + (7 : Int32)).toNatClampNeg (((grow (hKe σ) 324 (rsw ((hKe σ) 324) a.toNatClampNeg b.toNatClampNeg)) 324 (9 + 10 * a + (7 : Int32)).toNatClampNeg) - x)) K) ∧ (0 < (fWhy (σ 324) a.toNatClampNeg b.toNatClampNeg x) → K (some (.int (-10 - (fWhy (σ 324) a.toNatClampNeg b.toNatClampNeg x)))) σ))) ∧ ((bI (0 ≤ x ∧ x ≤ 9)) = 0 → K (some (.int (-1))) σ))))) : gE 214 0 [some (.ref 323), some (.int a), some (.int b), some (.int x), none, none] [] σ K :=
  gw_run (cy := 214) (cuts := [80, 92, 107, 118, 128]) (inl := []) (pf := gpfO) gpfO_ok 400 (by decide) h
set_option maxRecDepth 20000 in
theorem c214_92 {σ : gS} {K : gK} {l1 l2 l3 l4 l5 : Int32} (h : (0 ≤ (9 + 10 * l2 + (7 : Int32)) ∧ (9 + 10 * l2 + (7 : Int32)) < 330) ∧ (0 ≤ (9 + 10 * l2 + (7 : Int32)) ∧ (9 + 10 * l2 + (7 : Int32)) < 330) ∧ gE 214 107 [some (.ref 323), some (.int l1), some (.int l2), some (.int l3), some (.int l4), some (.int l5)] [] (gup σ 324 (9 + 10 * l2 + (7 : Int32)).toNatClampNeg ((σ 324 (9 + 10 * l2 + (7 : Int32)).toNatClampNeg) + l3)) K) : gE 214 92 [some (.ref 323), some (.int l1), some (.int l2), some (.int l3), some (.int l4), some (.int l5)] [] σ K :=
  gw_run (cy := 214) (cuts := [80, 92, 107, 118, 128]) (inl := []) (pf := gpfO) gpfO_ok 400 (by decide) h
set_option maxRecDepth 20000 in
theorem c214_107 {σ : gS} {K : gK} {l1 l2 l3 l4 l5 : Int32} (h : (0 ≤ (7 : Int32) ∧ (7 : Int32) < 330) ∧ (0 ≤ (7 : Int32) ∧ (7 : Int32) < 330) ∧ gE 214 118 [some (.ref 323), some (.int l1), some (.int l2), some (.int l3), some (.int l4), some (.int l5)] [] (gup σ 324 7 ((σ 324 7) + l3)) K) : gE 214 107 [some (.ref 323), some (.int l1), some (.int l2), some (.int l3), some (.int l4), some (.int l5)] [] σ K :=
  gw_run (cy := 214) (cuts := [80, 92, 107, 118, 128]) (inl := []) (pf := gpfO) gpfO_ok 400 (by decide) h
set_option maxRecDepth 20000 in
theorem c214_118 {σ : gS} {K : gK} {l1 l2 l3 l4 l5 : Int32} (h : (0 ≤ (4 : Int32) ∧ (4 : Int32) < 330) ∧ (0 ≤ (4 : Int32) ∧ (4 : Int32) < 330) ∧ gE 214 128 [some (.ref 323), some (.int l1), some (.int l2), some (.int l3), some (.int l4), some (.int l5)] [] (gup σ 324 4 ((σ 324 4) + 1)) K) : gE 214 118 [some (.ref 323), some (.int l1), some (.int l2), some (.int l3), some (.int l4), some (.int l5)] [] σ K :=
  gw_run (cy := 214) (cuts := [80, 92, 107, 118, 128]) (inl := []) (pf := gpfO) gpfO_ok 400 (by decide) h
set_option maxRecDepth 20000 in
theorem c214_128 {σ : gS} {K : gK} {l1 l2 l3 l4 l5 : Int32} (h : (0 ≤ σ 324 209 ∧ σ 324 209 ≤ 40) ∧ K (some (.int (l5 + 100))) (grow σ 324 (fTe (σ 324) (1 : Int32) ((100 * l1) + l2) l3))) : gE 214 128 [some (.ref 323), some (.int l1), some (.int l2), some (.int l3), some (.int l4), some (.int l5)] [] σ K :=
  gw_run (cy := 214) (cuts := [80, 92, 107, 118, 128]) (inl := []) (pf := gpfO) gpfO_ok 400 (by decide) h
theorem bnd209 {R : gW} {k : Nat} {x : Int32} (h : ¬ 209 = k) (hR : 0 ≤ R 209 ∧ R 209 ≤ 40) : 0 ≤ rup R k x 209 ∧ rup R k x 209 ≤ 40 := by rw [rup_ne h]; exact hR
theorem s214 {σ : gS} {K : gK} {a b x : Int32} (hc : RS σ) (hK : K (some (.int (aSwa (σ 324) a b x))) (hOp σ (gSwa (σ 324) a b x) (nSwa (σ 324) a b x))) : gE 214 0 [some (.ref 323), some (.int a), some (.int b), some (.int x), none, none] [] σ K := by
  obtain ⟨⟨h3, h9⟩, hu⟩ := hc
  have hk3 : 0 ≤ hKe σ 324 3 ∧ hKe σ 324 3 ≤ 20 := by rw [hKe_324]; exact h3
  unfold aSwa hOp at hK
  refine w214 ?_
  simp only [bI_0]
  refine ⟨fun h => ?_, fun h => ⟨fun h1 => ?_, fun h1 => ?_⟩⟩
  · rw [if_neg (fun q => h q.1), if_neg (fun q => h q.1.1)] at hK; exact hK
  · have h := Decidable.not_not.mp h
    have h1 := Decidable.not_not.mp h1
    obtain ⟨ha, hb⟩ := isP_of h3 h
    have la := (t20 ha).2
    have lb := (t20 hb).2
    rw [if_pos ⟨h, h1⟩] at hK
    obtain ⟨ia, ja⟩ := idx ha 7 (by decide)
    obtain ⟨ib, jb⟩ := idx hb 7 (by decide)
    have ia : (9 + 10 * a + (7 : Int32)).toNatClampNeg = 9 + 10 * a.toNatClampNeg + 7 := ia
    have ib : (9 + 10 * b + (7 : Int32)).toNatClampNeg = 9 + 10 * b.toNatClampNeg + 7 := ib
    refine ⟨⟨⟨ha, hb⟩, h3⟩, fun h2 => ⟨hu, ⟨⟨ha, hb⟩, ha, hk3⟩, ⟨⟨ha, hb⟩, hb, hk3⟩, ⟨ha, hb⟩, ja, ja, ?_⟩, fun h2 => ?_⟩
    · rw [if_neg h2, if_pos ⟨⟨h, h1⟩, h2⟩] at hK
      refine c214_92 ⟨jb, jb, c214_107 ⟨by decide, by decide, c214_118 ⟨by decide, by decide, c214_128 ?_⟩⟩⟩
      rw [ia, ib]
      simp (disch := decide) only [gup_grow, grow_grow, grow_at, hKe_324]
      refine ⟨?_, ?_⟩
      · refine bnd209 (by decide) (bnd209 (by decide) (bnd209 (by omega) (bnd209 (by omega) ?_)))
        rw [rsw_eq, if_neg (by omega), if_neg (by omega)]
        exact h9
      · unfold nSwa radd at hK
        simp only [Int32.sub_eq_add_neg]
        exact hK
    · rw [if_pos h2, if_neg (fun q => q.2 h2)] at hK; exact hK
  · rw [if_neg (fun q => h1 q.2), if_neg (fun q => h1 q.1.2)] at hK; exact hK
noncomputable def f214 : gD := fun Lv σ => match Lv with
  | [some (.ref q0), some (.int a), some (.int b), some (.int x), none, none] => cond (Nat.beq q0 323) (some (some (RS σ), some (.int (aSwa (σ 324) a b x)), hOp σ (gSwa (σ 324) a b x) (nSwa (σ 324) a b x))) none
  | _ => none
theorem ok214 : gFok 214 f214 := by
  intro Lv σ q h hc K hK
  unfold f214 at h
  split at h
  · rename_i q0 a b x
    obtain ⟨hb, h⟩ := c_no h
    have hb0 := hb
    have e0 := b_eq hb0
    subst e0
    cases h
    exact s214 (hc _ rfl) hK
  · cases h
abbrev gMov (R : gW) (a x : Int32) : Prop := (isT R a ∧ isS R x) ∧ ¬ 0 < fWhyM R a.toNatClampNeg x
def aMov (R : gW) (a x : Int32) : Int32 := if isT R a ∧ isS R x then (if 0 < fWhyM R a.toNatClampNeg x then -10 - fWhyM R a.toNatClampNeg x else fJoy R a.toNatClampNeg x - fJo R a.toNatClampNeg) else -1
def nMov (R : gW) (a x : Int32) : gW := fTe (radd (rup R (9 + 10 * a.toNatClampNeg + 0) x) 5 1) 2 a (fld R a.toNatClampNeg 0)
set_option maxRecDepth 20000 in
theorem w215 {σ : gS} {K : gK} {a x : Int32} (h : (((bI (isT (σ 324) a)) = 0 → K (some (.int (-1))) σ) ∧ (¬ (bI (isT (σ 324) a)) = 0 → ((¬ (bI (isS (σ 324) x)) = 0 → ((0 ≤ a ∧ a < 20) ∧ 0 ≤ σ 324 3 ∧ σ 324 3 ≤ 20) ∧ ((¬ 0 < (fWhyM (σ 324) a.toNatClampNeg x) → (0 ≤ σ 323 6 ∧ σ 323 6 ≤ 8) ∧ (0 ≤ (9 + 10 * a + (0 : Int32)) ∧ (9 + 10 * a + (0 : Int32)) < 330) ∧ ((0 ≤ a ∧ a < 20) ∧ 0 ≤ (hKe σ) 324 3 ∧ (hKe σ) 324 3 ≤ 20) ∧ ((0 ≤ a ∧ a < 20) ∧ 0 ≤ (hKe σ) 324 3 ∧ (hKe σ) 324 3 ≤ 20) ∧ (0 ≤ (9 + 10 * a + (0 : Int32)) ∧ (9 + 10 * a + (0 : Int32)) < 330) ∧ gE 215 84 [some (.ref 323), some (.int a), some (.int x), some (.int (fWhyM (σ 324) a.toNatClampNeg x)), some (.int ((hKe σ) 324 (9 + 10 * a + (0 : Int32)).toNatClampNeg)), some (.int ((fJoy ((hKe σ) 324) a.toNatClampNeg x) - (fJo ((hKe σ) 324) a.toNatClampNeg)))] [] (gup (hKe σ) 324 (9 + 10 * a + (0 : Int32)).toNatClampNeg x) K) ∧ (0 < (fWhyM (σ 324) a.toNatClampNeg x) → K (some (.int (-10 - (fWhyM (σ 324) a.toNatClampNeg x)))) σ))) ∧ ((bI (isS (σ 324) x)) = 0 → K (some (.int (-1))) σ))))) : gE 215 0 [some (.ref 323), some (.int a), some (.int x), none, none, none] [] σ K :=
  gw_run (cy := 215) (cuts := [84, 94]) (inl := []) (pf := gpfO) gpfO_ok 400 (by decide) h
set_option maxRecDepth 20000 in
theorem c215_84 {σ : gS} {K : gK} {l1 l2 l3 l4 l5 : Int32} (h : (0 ≤ (5 : Int32) ∧ (5 : Int32) < 330) ∧ (0 ≤ (5 : Int32) ∧ (5 : Int32) < 330) ∧ gE 215 94 [some (.ref 323), some (.int l1), some (.int l2), some (.int l3), some (.int l4), some (.int l5)] [] (gup σ 324 5 ((σ 324 5) + 1)) K) : gE 215 84 [some (.ref 323), some (.int l1), some (.int l2), some (.int l3), some (.int l4), some (.int l5)] [] σ K :=
  gw_run (cy := 215) (cuts := [84, 94]) (inl := []) (pf := gpfO) gpfO_ok 400 (by decide) h
set_option maxRecDepth 20000 in
theorem c215_94 {σ : gS} {K : gK} {l1 l2 l3 l4 l5 : Int32} (h : (0 ≤ σ 324 209 ∧ σ 324 209 ≤ 40) ∧ K (some (.int l5)) (grow σ 324 (fTe (σ 324) (2 : Int32) l1 l4))) : gE 215 94 [some (.ref 323), some (.int l1), some (.int l2), some (.int l3), some (.int l4), some (.int l5)] [] σ K :=
  gw_run (cy := 215) (cuts := [84, 94]) (inl := []) (pf := gpfO) gpfO_ok 400 (by decide) h
theorem s215 {σ : gS} {K : gK} {a x : Int32} (hc : RS σ) (hK : K (some (.int (aMov (σ 324) a x))) (hOp σ (gMov (σ 324) a x) (nMov (σ 324) a x))) : gE 215 0 [some (.ref 323), some (.int a), some (.int x), none, none, none] [] σ K := by
  obtain ⟨⟨h3, h9⟩, hu⟩ := hc
  have hk3 : 0 ≤ hKe σ 324 3 ∧ hKe σ 324 3 ≤ 20 := by rw [hKe_324]; exact h3
  unfold aMov hOp at hK
  refine w215 ?_
  simp only [bI_0]
  refine ⟨fun h => ?_, fun h => ⟨fun h1 => ?_, fun h1 => ?_⟩⟩
  · rw [if_neg (fun q => h q.1), if_neg (fun q => h q.1.1)] at hK; exact hK
  · have h := Decidable.not_not.mp h
    have h1 := Decidable.not_not.mp h1
    have ha := isT_of h3 h
    have la := (t20 ha).2
    rw [if_pos ⟨h, h1⟩] at hK
    obtain ⟨ia, ja⟩ := idx ha 0 (by decide)
    have ia : (9 + 10 * a + (0 : Int32)).toNatClampNeg = 9 + 10 * a.toNatClampNeg + 0 := ia
    refine ⟨⟨ha, h3⟩, fun h2 => ⟨hu, ja, ⟨ha, hk3⟩, ⟨ha, hk3⟩, ja, ?_⟩, fun h2 => ?_⟩
    · rw [if_neg h2, if_pos ⟨⟨h, h1⟩, h2⟩] at hK
      refine c215_84 ⟨by decide, by decide, c215_94 ?_⟩
      rw [ia]
      simp (disch := decide) only [gup_grow, grow_grow, grow_at, hKe_324]
      exact ⟨bnd209 (by decide) (bnd209 (by omega) h9), hK⟩
    · rw [if_pos h2, if_neg (fun q => q.2 h2)] at hK; exact hK
  · rw [if_neg (fun q => h1 q.2), if_neg (fun q => h1 q.1.2)] at hK; exact hK
noncomputable def f215 : gD := fun Lv σ => match Lv with
  | [some (.ref q0), some (.int a), some (.int x), none, none, none] => cond (Nat.beq q0 323) (some (some (RS σ), some (.int (aMov (σ 324) a x)), hOp σ (gMov (σ 324) a x) (nMov (σ 324) a x))) none
  | _ => none
theorem ok215 : gFok 215 f215 := by
  intro Lv σ q h hc K hK
  unfold f215 at h
  split at h
  · rename_i q0 a x
    obtain ⟨hb, h⟩ := c_no h
    have hb0 := hb
    have e0 := b_eq hb0
    subst e0
    cases h
    exact s215 (hc _ rfl) hK
  · cases h
abbrev isR3 (R : gW) (a b c : Int32) : Prop := (isP R a b ∧ isP R b c) ∧ ¬ a = c
abbrev gRin (R : gW) (a b c : Int32) : Prop := isR3 R a b c ∧ ¬ 0 < fWhyR R a.toNatClampNeg b.toNatClampNeg c.toNatClampNeg
def aRin (R : gW) (a b c : Int32) : Int32 := if isR3 R a b c then (if 0 < fWhyR R a.toNatClampNeg b.toNatClampNeg c.toNatClampNeg then -10 - fWhyR R a.toNatClampNeg b.toNatClampNeg c.toNatClampNeg else fROR R a.toNatClampNeg b.toNatClampNeg c.toNatClampNeg) else -1
def nRin (R : gW) (a b c : Int32) : gW := fTe (radd (rtu R a.toNatClampNeg b.toNatClampNeg c.toNatClampNeg) 6 1) 3 (10000 * a + 100 * b + c) 0
set_option maxRecDepth 20000 in
theorem w216 {σ : gS} {K : gK} {a b c : Int32} (h : (((bI (isP (σ 324) a b)) = 0 → K (some (.int (-1))) σ) ∧ (¬ (bI (isP (σ 324) a b)) = 0 → (((bI (isP (σ 324) b c)) = 0 → K (some (.int (-1))) σ) ∧ (¬ (bI (isP (σ 324) b c)) = 0 → ((¬ a = c → (((0 ≤ a ∧ a < 20) ∧ (0 ≤ b ∧ b < 20) ∧ (0 ≤ c ∧ c < 20)) ∧ (a.toNatClampNeg ≠ b.toNatClampNeg ∧ b.toNatClampNeg ≠ c.toNatClampNeg ∧ a.toNatClampNeg ≠ c.toNatClampNeg) ∧ 0 ≤ σ 324 3 ∧ σ 324 3 ≤ 20) ∧ ((¬ 0 < (fWhyR (σ 324) a.toNatClampNeg b.toNatClampNeg c.toNatClampNeg) → (0 ≤ σ 323 6 ∧ σ 323 6 ≤ 8) ∧ (((0 ≤ a ∧ a < 20) ∧ (0 ≤ b ∧ b < 20) ∧ (0 ≤ c ∧ c < 20)) ∧ (a.toNatClampNeg ≠ b.toNatClampNeg ∧ b.toNatClampNeg ≠ c.toNatClampNeg ∧ a.toNatClampNeg ≠ c.toNatClampNeg) ∧ 0 ≤ (hKe σ) 324 3 ∧ (hKe σ) 324 3 ≤ 20) ∧ (((0 ≤ a ∧ a < 20) ∧ (0 ≤ b ∧ b < 20) ∧ (0 ≤ c ∧ c < 20))) ∧ (0 ≤ (6 : Int32) ∧ (6 : Int32) < 330) ∧ (0 ≤ (6 : Int32) ∧ (6 : Int32) < 330) ∧ gE 216 85 [some (.ref 323), some (.int a), some (.int b), some (.int c), some (.int (fWhyR (σ 324) a.toNatClampNeg b.toNatClampNeg c.toNatClampNeg)), some (.int (fROR ((hKe σ) 324) a.toNatClampNeg b.toNatClampNeg c.toNatClampNeg))] [] (gup (grow (hKe σ) 324 (rtu ((hKe σ) 324) a.toNatClampNeg b.toNatClampNeg c.toNatClampNeg)) 324 6 (((grow (hKe σ) 324 (rtu ((hKe σ) 324) a.toNatClampNeg b.toNatClampNeg c.toNatClampNeg)) 324 6) + 1)) K) ∧ (0 < (fWhyR (σ 324) a.toNatClampNeg b.toNatClampNeg c.toNatClampNeg) → K (some (.int (-10 - (fWhyR (σ 324) a.toNatClampNeg b.toNatClampNeg c.toNatClampNeg)))) σ))) ∧ (a = c → K (some (.int (-1))) σ))))))) : gE 216 0 [some (.ref 323), some (.int a), some (.int b), some (.int c), none, none] [] σ K :=
  gw_run (cy := 216) (cuts := [85]) (inl := []) (pf := gpfO) gpfO_ok 400 (by decide) h
set_option maxRecDepth 20000 in
theorem c216_85 {σ : gS} {K : gK} {l1 l2 l3 l4 l5 : Int32} (h : (0 ≤ σ 324 209 ∧ σ 324 209 ≤ 40) ∧ K (some (.int l5)) (grow σ 324 (fTe (σ 324) (3 : Int32) (((10000 * l1) + (100 * l2)) + l3) (0 : Int32)))) : gE 216 85 [some (.ref 323), some (.int l1), some (.int l2), some (.int l3), some (.int l4), some (.int l5)] [] σ K :=
  gw_run (cy := 216) (cuts := [85]) (inl := []) (pf := gpfO) gpfO_ok 400 (by decide) h
theorem s216 {σ : gS} {K : gK} {a b c : Int32} (hc : RS σ) (hK : K (some (.int (aRin (σ 324) a b c))) (hOp σ (gRin (σ 324) a b c) (nRin (σ 324) a b c))) : gE 216 0 [some (.ref 323), some (.int a), some (.int b), some (.int c), none, none] [] σ K := by
  obtain ⟨⟨h3, h9⟩, hu⟩ := hc
  have hk3 : 0 ≤ hKe σ 324 3 ∧ hKe σ 324 3 ≤ 20 := by rw [hKe_324]; exact h3
  unfold aRin hOp at hK
  refine w216 ?_
  simp only [bI_0]
  have no : ¬ isR3 (σ 324) a b c → K (some (.int (-1))) σ := by
    intro q
    rw [if_neg q, if_neg (fun e => q e.1)] at hK
    exact hK
  refine ⟨fun h => no (fun q => h q.1.1), fun h => ⟨fun h1 => no (fun q => h1 q.1.2), fun h1 => ⟨fun h2 => ?_, fun h2 => no (fun q => q.2 h2)⟩⟩⟩
  have h := Decidable.not_not.mp h
  have h1 := Decidable.not_not.mp h1
  obtain ⟨ha, hb⟩ := isP_of h3 h
  obtain ⟨-, hcc⟩ := isP_of h3 h1
  have la := (t20 ha).2
  have lb := (t20 hb).2
  have lc := (t20 hcc).2
  have hd : a.toNatClampNeg ≠ b.toNatClampNeg ∧ b.toNatClampNeg ≠ c.toNatClampNeg ∧ a.toNatClampNeg ≠ c.toNatClampNeg := ⟨nn_ne ha hb h.2, nn_ne hb hcc h1.2, nn_ne ha hcc h2⟩
  rw [if_pos ⟨⟨h, h1⟩, h2⟩] at hK
  refine ⟨⟨⟨ha, hb, hcc⟩, hd, h3⟩, fun h4 => ⟨hu, ⟨⟨ha, hb, hcc⟩, hd, hk3⟩, ⟨ha, hb, hcc⟩, by decide, by decide, ?_⟩, fun h4 => ?_⟩
  · rw [if_neg h4, if_pos ⟨⟨⟨h, h1⟩, h2⟩, h4⟩] at hK
    refine c216_85 ?_
    simp (disch := decide) only [gup_grow, grow_grow, grow_at, hKe_324]
    refine ⟨bnd209 (by decide) ?_, hK⟩
    rw [rtu_eq hd, if_neg (by omega), if_neg (by omega), if_neg (by omega)]
    exact h9
  · rw [if_pos h4, if_neg (fun q => q.2 h4)] at hK; exact hK
noncomputable def f216 : gD := fun Lv σ => match Lv with
  | [some (.ref q0), some (.int a), some (.int b), some (.int c), none, none] => cond (Nat.beq q0 323) (some (some (RS σ), some (.int (aRin (σ 324) a b c)), hOp σ (gRin (σ 324) a b c) (nRin (σ 324) a b c))) none
  | _ => none
theorem ok216 : gFok 216 f216 := by
  intro Lv σ q h hc K hK
  unfold f216 at h
  split at h
  · rename_i q0 a b c
    obtain ⟨hb, h⟩ := c_no h
    have hb0 := hb
    have e0 := b_eq hb0
    subst e0
    cases h
    exact s216 (hc _ rfl) hK
  · cases h
-- text 18
/-! THE REFERENCE: its calls, set, settle, keep, restore, undo -/
def fof (w : Int32) : Nat := if w = 4 then 1 else 3 + w.toNatClampNeg
theorem inR_cases {R : gW} {w n : Int32} (h : inR R w n) : w = 0 ∨ w = 1 ∨ w = 2 ∨ w = 3 ∨ w = 4 := by
  rcases h with q | q | q | q
  · exact q.1.elim Or.inl (fun e => Or.inr (Or.inl e))
  · exact Or.inr (Or.inr (Or.inl q.1))
  · exact Or.inr (Or.inr (Or.inr (Or.inl q.1)))
  · exact Or.inr (Or.inr (Or.inr (Or.inr q.1)))
theorem idf {R : gW} {t w n : Int32} (ht : 0 ≤ t ∧ t < 20) (h : inR R w n) : (9 + 10 * t + (if w = 4 then 1 else 3 + w)).toNatClampNeg = 9 + 10 * t.toNatClampNeg + fof w ∧ 0 ≤ 9 + 10 * t + (if w = 4 then 1 else 3 + w) ∧ 9 + 10 * t + (if w = 4 then 1 else 3 + w) < 330 := by
  rcases inR_cases h with e | e | e | e | e <;> subst e
  · exact idx ht 3 (by decide)
  · exact idx ht 4 (by decide)
  · exact idx ht 5 (by decide)
  · exact idx ht 6 (by decide)
  · exact idx ht 1 (by decide)
theorem fof_le {R : gW} {w n : Int32} (h : inR R w n) : 1 ≤ fof w ∧ fof w ≤ 6 := by
  rcases inR_cases h with e | e | e | e | e <;> subst e <;> decide
abbrev gSet (R : gW) (t w v : Int32) : Prop := ((isT R t ∧ inR R w v) ∧ ¬ fld R t.toNatClampNeg (fof w) = v) ∧ ¬ (w = 4 ∧ ¬ (v = 1 ∨ R 1 ≤ fld R t.toNatClampNeg 0 / 4))
def aSet (R : gW) (t w v : Int32) : Int32 := if isT R t ∧ inR R w v then (if fld R t.toNatClampNeg (fof w) = v then -2 else if w = 4 ∧ ¬ (v = 1 ∨ R 1 ≤ fld R t.toNatClampNeg 0 / 4) then -4 else if w < 2 then fld R t.toNatClampNeg (fof w) + 9 else fld R t.toNatClampNeg (fof w)) else -1
def nSet (R : gW) (t w v : Int32) : gW := fTe (rup R (9 + 10 * t.toNatClampNeg + fof w) v) 6 (10 * t + w) (fld R t.toNatClampNeg (fof w))
set_option maxRecDepth 20000 in
theorem w211 {σ : gS} {K : gK} {t w v : Int32} (h : (((bI (isT (σ 324) t)) = 0 → K (some (.int (-1))) σ) ∧ (¬ (bI (isT (σ 324) t)) = 0 → ((¬ (bI (inR (σ 324) w v)) = 0 → (0 ≤ (9 + 10 * t + (if w = 4 then 1 else 3 + w)) ∧ (9 + 10 * t + (if w = 4 then 1 else 3 + w)) < 330) ∧ ((¬ (σ 324 (9 + 10 * t + (if w = 4 then 1 else 3 + w)).toNatClampNeg) = v → ((¬ w = 4 → (0 ≤ σ 323 6 ∧ σ 323 6 ≤ 8) ∧ (0 ≤ (9 + 10 * t + (if w = 4 then 1 else 3 + w)) ∧ (9 + 10 * t + (if w = 4 then 1 else 3 + w)) < 330) ∧ gE 211 92 [some (.ref 323), some (.int t), some (.int w), some (.int v), some (.int (σ 324 (9 + 10 * t + (if w = 4 then 1 else 3 + w)).toNatClampNeg))] [] (gup (hKe σ) 324 (9 + 10 * t + (if w = 4 then 1 else 3 + w)).toNatClampNeg v) K) ∧ (w = 4 → (0 ≤ (9 + 10 * t + (0 : Int32)) ∧ (9 + 10 * t + (0 : Int32)) < 330) ∧ (0 ≤ (1 : Int32) ∧ (1 : Int32) < 330) ∧ ((¬ (bI (v = 1 ∨ (σ 324 1) ≤ (σ 324 (9 + 10 * t + (0 : Int32)).toNatClampNeg) / 4)) = 0 → (0 ≤ σ 323 6 ∧ σ 323 6 ≤ 8) ∧ (0 ≤ (9 + 10 * t + (if w = 4 then 1 else 3 + w)) ∧ (9 + 10 * t + (if w = 4 then 1 else 3 + w)) < 330) ∧ gE 211 92 [some (.ref 323), some (.int t), some (.int w), some (.int v), some (.int (σ 324 (9 + 10 * t + (if w = 4 then 1 else 3 + w)).toNatClampNeg))] [] (gup (hKe σ) 324 (9 + 10 * t + (if w = 4 then 1 else 3 + w)).toNatClampNeg v) K) ∧ ((bI (v = 1 ∨ (σ 324 1) ≤ (σ 324 (9 + 10 * t + (0 : Int32)).toNatClampNeg) / 4)) = 0 → K (some (.int (-4))) σ))))) ∧ ((σ 324 (9 + 10 * t + (if w = 4 then 1 else 3 + w)).toNatClampNeg) = v → K (some (.int (-2))) σ))) ∧ ((bI (inR (σ 324) w v)) = 0 → K (some (.int (-1))) σ))))) : gE 211 0 [some (.ref 323), some (.int t), some (.int w), some (.int v), none] [] σ K :=
  gw_run (cy := 211) (cuts := [92]) (inl := []) (pf := gpfO) gpfO_ok 400 (by decide) h
set_option maxRecDepth 20000 in
theorem c211_92 {σ : gS} {K : gK} {l1 l2 l3 l4 : Int32} (h : (0 ≤ σ 324 209 ∧ σ 324 209 ≤ 40) ∧ ((¬ l2 < 2 → K (some (.int l4)) (grow σ 324 (fTe (σ 324) (6 : Int32) ((10 * l1) + l2) l4))) ∧ (l2 < 2 → K (some (.int (l4 + 9))) (grow σ 324 (fTe (σ 324) (6 : Int32) ((10 * l1) + l2) l4))))) : gE 211 92 [some (.ref 323), some (.int l1), some (.int l2), some (.int l3), some (.int l4)] [] σ K :=
  gw_run (cy := 211) (cuts := [92]) (inl := []) (pf := gpfO) gpfO_ok 400 (by decide) h
theorem s211 {σ : gS} {K : gK} {t w v : Int32} (hc : RS σ) (hK : K (some (.int (aSet (σ 324) t w v))) (hOp σ (gSet (σ 324) t w v) (nSet (σ 324) t w v))) : gE 211 0 [some (.ref 323), some (.int t), some (.int w), some (.int v), none] [] σ K := by
  obtain ⟨⟨h3, h9⟩, hu⟩ := hc
  unfold aSet hOp at hK
  refine w211 ?_
  simp only [bI_0]
  have no : ¬ (isT (σ 324) t ∧ inR (σ 324) w v) → K (some (.int (-1))) σ := by
    intro q
    rw [if_neg q, if_neg (fun e => q e.1.1)] at hK
    exact hK
  refine ⟨fun h => no (fun q => h q.1), fun h => ⟨fun h1 => ?_, fun h1 => no (fun q => h1 q.2)⟩⟩
  have h := Decidable.not_not.mp h
  have h1 := Decidable.not_not.mp h1
  have ht := isT_of h3 h
  have lt := (t20 ht).2
  obtain ⟨ia, ja⟩ := idf ht h1
  obtain ⟨i0, j0⟩ := idx ht 0 (by decide)
  have i0 : (9 + 10 * t + (0 : Int32)).toNatClampNeg = 9 + 10 * t.toNatClampNeg + 0 := i0
  have fl := fof_le h1
  rw [if_pos ⟨h, h1⟩] at hK
  have fin : ¬ fld (σ 324) t.toNatClampNeg (fof w) = v → ¬ (w = 4 ∧ ¬ (v = 1 ∨ σ 324 1 ≤ fld (σ 324) t.toNatClampNeg 0 / 4)) → gE 211 92 [some (.ref 323), some (.int t), some (.int w), some (.int v), some (.int (σ 324 (9 + 10 * t.toNatClampNeg + fof w)))] [] (gup (hKe σ) 324 (9 + 10 * t.toNatClampNeg + fof w) v) K := by
    intro h2 h4
    rw [if_neg h2, if_neg h4, if_pos (show gSet (σ 324) t w v from ⟨⟨⟨h, h1⟩, h2⟩, h4⟩)] at hK
    refine c211_92 ?_
    simp (disch := decide) only [gup_grow, grow_grow, grow_at, hKe_324]
    refine ⟨bnd209 (by omega) h9, fun q => ?_, fun q => ?_⟩
    · rw [if_neg q] at hK; exact hK
    · rw [if_pos q] at hK; exact hK
  rw [ia, i0]
  refine ⟨ja, fun h2 => ⟨fun h4 => ⟨hu, ja, fin h2 (fun q => h4 q.1)⟩, fun h4 => ⟨j0, by decide, fun h5 => ⟨hu, ja, fin h2 (fun q => h5 q.2)⟩, fun h5 => ?_⟩⟩, fun h2 => ?_⟩
  · have h2 : ¬ fld (σ 324) t.toNatClampNeg (fof w) = v := h2
    rw [if_neg h2, if_pos (show w = 4 ∧ ¬ (v = 1 ∨ σ 324 1 ≤ fld (σ 324) t.toNatClampNeg 0 / 4) from ⟨h4, h5⟩), if_neg (show ¬ gSet (σ 324) t w v from fun q => q.2 ⟨h4, h5⟩)] at hK; exact hK
  · have h2 : fld (σ 324) t.toNatClampNeg (fof w) = v := h2
    rw [if_pos h2, if_neg (show ¬ gSet (σ 324) t w v from fun q => q.1.2 h2)] at hK; exact hK
noncomputable def f211 : gD := fun Lv σ => match Lv with
  | [some (.ref q0), some (.int t), some (.int w), some (.int v), none] => cond (Nat.beq q0 323) (some (some (RS σ), some (.int (aSet (σ 324) t w v)), hOp σ (gSet (σ 324) t w v) (nSet (σ 324) t w v))) none
  | _ => none
theorem ok211 : gFok 211 f211 := by
  intro Lv σ q h hc K hK
  unfold f211 at h
  split at h
  · rename_i q0 t w v
    obtain ⟨hb, h⟩ := c_no h
    have hb0 := hb
    have e0 := b_eq hb0
    subst e0
    cases h
    exact s211 (hc _ rfl) hK
  · cases h
/-- rows end with zeros -/
abbrev zR (R : gW) : Prop := ∀ j, 330 ≤ j → R j = 0
def rowAt (E : gW) (u : Nat) : gW := fun j => if j < 330 then E (330 * u + j) else 0
theorem rla_row {E N : gW} (u : Nat) (hz : zR N) : rla E N (330 * u) 0 330 = rowAt E u := by
  funext j
  unfold rla rowAt
  by_cases h : j < 330
  · rw [if_pos ⟨by omega, by omega⟩, if_pos h, Nat.sub_zero]
  · rw [if_neg (by omega), if_neg h, hz j (by omega)]
theorem rla_all {N S : gW} (hz : zR N) (hs : zR S) : rla N S 0 0 330 = N := by
  funext j
  unfold rla
  by_cases h : j < 330
  · rw [if_pos ⟨by omega, by omega⟩, Nat.sub_zero, Nat.zero_add]
  · rw [if_neg (by omega), hs j (by omega), hz j (by omega)]
abbrev RZ (σ : gS) : Prop := zR (σ 324) ∧ zR (σ 325) ∧ zR (σ 326)
theorem hKe_ne {σ : gS} {q : Nat} (h : ¬ q = 323) (h2 : ¬ q = 327) : hKe σ q = σ q := by unfold hKe; rw [grow_ne h, grow_ne h2]
theorem z_nat : (0 : Int32).toNatClampNeg = 0 := by decide
set_option maxRecDepth 20000 in
theorem w154 {σ : gS} {K : gK} (h : ((0 ≤ (0 : Int32) ∧ (0 : Int32) ≤ iN (gln 324 - 330)) ∧ (0 ≤ (0 : Int32) ∧ (0 : Int32) ≤ iN (gln 326 - 330)) ∧ (324 = 326 → (0 : Int32).toNatClampNeg + 330 ≤ (0 : Int32).toNatClampNeg)) ∧ K none (grow σ 326 (rla (σ 324) (σ 326) (0 : Int32).toNatClampNeg (0 : Int32).toNatClampNeg 330))) : gE 154 0 [some (.ref 323)] [] σ K :=
  gw_run (cy := 154) (cuts := []) (inl := []) (pf := gpfO) gpfO_ok 400 (by decide) h
theorem s154 {σ : gS} {K : gK} (hc : RZ σ) (hK : K none (grow σ 326 (σ 324))) : gE 154 0 [some (.ref 323)] [] σ K := by
  refine w154 ⟨⟨by decide, by decide, fun h => absurd h (by decide)⟩, ?_⟩
  rw [z_nat, rla_all hc.1 hc.2.2]
  exact hK
noncomputable def f154 : gD := fun Lv σ => match Lv with
  | [some (.ref q0)] => cond (Nat.beq q0 323) (some (some (RZ σ), none, grow σ 326 (σ 324))) none
  | _ => none
theorem ok154 : gFok 154 f154 := by
  intro Lv σ q h hc K hK
  unfold f154 at h
  split at h
  · rename_i q0
    obtain ⟨hb, h⟩ := c_no h
    have hb0 := hb
    have e0 := b_eq hb0
    subst e0
    cases h
    exact s154 (hc _ rfl) hK
  · cases h
theorem fSt_3 : ∀ (d : Nat) (R : gW), (fSt d R).2 3 = R 3
  | 0, R => rfl
  | d + 1, R => by
    by_cases h : fBest R < 0
    · rw [fSt_lt h]
    · rw [fSt_ge h]
      show (fSt d (fNx R)).2 3 = R 3
      rw [fSt_3 d, fNx_3]
theorem rsw_z {R : gW} {a b : Nat} (ha : a < 32) (hb : b < 32) (h : zR R) : zR (rsw R a b) := by
  intro j hj
  rw [rsw_eq, if_neg (by omega), if_neg (by omega)]
  exact h j hj
theorem fBest_ab {R : gW} (hR : 0 ≤ R 3 ∧ R 3 ≤ 20) (h : ¬ fBest R < 0) : ∃ a b, a < nM R ∧ b < nM R ∧ nM R ≤ 20 ∧ fNx R = rsw R a b := by
  have hn := (nM_of hR).2
  rcases fBest_of R with e | ⟨a, b, ha, hb, e⟩
  · rw [e] at h; exact absurd (by decide) h
  · obtain ⟨d1, d2, -⟩ := dm100 a (by omega) b (by omega)
    refine ⟨a, b, ha, hb, hn, ?_⟩
    unfold fNx
    rw [e, d2, d1, iN_nat (by omega), iN_nat (by omega)]
/-- settling changes seats alone -/
theorem fSt_same {P : gW → Prop} (hP : ∀ R a b, a < 20 → b < 20 → P R → P (rsw R a b)) : ∀ (d : Nat) (R : gW), (0 ≤ R 3 ∧ R 3 ≤ 20) → P R → P (fSt d R).2
  | 0, R, _, h => h
  | d + 1, R, hR, h => by
    by_cases hb : fBest R < 0
    · rw [fSt_lt hb]; exact h
    · rw [fSt_ge hb]
      obtain ⟨a, b, ha, hb2, hn, e⟩ := fBest_ab hR hb
      refine fSt_same hP d (fNx R) (by rw [fNx_3]; exact hR) ?_
      rw [e]
      exact hP R a b (by omega) (by omega) h
theorem fSt_z {d : Nat} {R : gW} (hR : 0 ≤ R 3 ∧ R 3 ≤ 20) (h : zR R) : zR (fSt d R).2 := fSt_same (fun R a b ha hb h => rsw_z (by omega) (by omega) h) d R hR h
theorem fSt_9 {d : Nat} {R : gW} (hR : 0 ≤ R 3 ∧ R 3 ≤ 20) : (fSt d R).2 209 = R 209 := fSt_same (P := fun S => S 209 = R 209) (fun S a b ha hb h => by
  show rsw S a b 209 = R 209
  rw [rsw_eq, if_neg (by omega), if_neg (by omega)]
  exact h) d R hR rfl
theorem fSt_n : ∀ (d : Nat) (R : gW), (fSt d R).1 ≤ d
  | 0, _ => Nat.le_refl 0
  | d + 1, R => by
    by_cases h : fBest R < 0
    · rw [fSt_lt h]; exact Nat.zero_le _
    · rw [fSt_ge h]
      have := fSt_n d (fNx R)
      show (fSt d (fNx R)).1 + 1 ≤ d + 1
      omega
theorem fSt_0 {d : Nat} {R : gW} (h : (fSt d R).1 = 0) : (fSt d R).2 = R := by
  cases d with
  | zero => rfl
  | succ d =>
    by_cases hb : fBest R < 0
    · rw [fSt_lt hb]
    · rw [fSt_ge hb] at h; exact absurd h (by simp)
abbrev gStl (R : gW) : Prop := ¬ (fSt 99 R).1 = 0
def aStl (R : gW) : Int32 := if (fSt 99 R).1 = 0 then -2 else iN (fSt 99 R).1
def nStl (R : gW) : gW := fTe (radd (fSt 99 R).2 4 (iN (fSt 99 R).1)) 5 (iN (fSt 99 R).1) (fJa (radd (fSt 99 R).2 4 (iN (fSt 99 R).1)) - fJa R)
noncomputable def gpfP_l : List (Nat × gD) := (154, f154) :: gpfO_l
noncomputable def gpfP : gP := gpl0 gpfP_l
theorem gpfP_ok : gPok gpfP := gpl0_cons ok154 (gpfO_ok)
set_option maxRecDepth 20000 in
theorem w217 {σ : gS} {K : gK} (h : (RZ σ) ∧ (0 ≤ (grow σ 326 (σ 324)) 326 3 ∧ (grow σ 326 (σ 324)) 326 3 ≤ 20) ∧ (0 ≤ (grow σ 326 (σ 324)) 326 3 ∧ (grow σ 326 (σ 324)) 326 3 ≤ 20) ∧ ((¬ (iN (fSt 99 ((grow σ 326 (σ 324)) 326)).1) = 0 → (0 ≤ (grow (grow σ 326 (σ 324)) 326 (fSt 99 ((grow σ 326 (σ 324)) 326)).2) 323 6 ∧ (grow (grow σ 326 (σ 324)) 326 (fSt 99 ((grow σ 326 (σ 324)) 326)).2) 323 6 ≤ 8) ∧ ((0 ≤ (0 : Int32) ∧ (0 : Int32) ≤ iN (gln 326 - 330)) ∧ (0 ≤ (0 : Int32) ∧ (0 : Int32) ≤ iN (gln 324 - 330)) ∧ (326 = 324 → (0 : Int32).toNatClampNeg + 330 ≤ (0 : Int32).toNatClampNeg)) ∧ gE 217 44 [some (.ref 323), some (.int (fJa ((grow σ 326 (σ 324)) 326))), some (.int (iN (fSt 99 ((grow σ 326 (σ 324)) 326)).1))] [] (grow (hKe (grow (grow σ 326 (σ 324)) 326 (fSt 99 ((grow σ 326 (σ 324)) 326)).2)) 324 (rla ((hKe (grow (grow σ 326 (σ 324)) 326 (fSt 99 ((grow σ 326 (σ 324)) 326)).2)) 326) ((hKe (grow (grow σ 326 (σ 324)) 326 (fSt 99 ((grow σ 326 (σ 324)) 326)).2)) 324) (0 : Int32).toNatClampNeg (0 : Int32).toNatClampNeg 330)) K) ∧ ((iN (fSt 99 ((grow σ 326 (σ 324)) 326)).1) = 0 → K (some (.int (-2))) (grow (grow σ 326 (σ 324)) 326 (fSt 99 ((grow σ 326 (σ 324)) 326)).2)))) : gE 217 0 [some (.ref 323), none, none] [] σ K :=
  gw_run (cy := 217) (cuts := [44, 54]) (inl := []) (pf := gpfP) gpfP_ok 400 (by decide) h
set_option maxRecDepth 20000 in
theorem c217_44 {σ : gS} {K : gK} {l1 l2 : Int32} (h : (0 ≤ (4 : Int32) ∧ (4 : Int32) < 330) ∧ (0 ≤ (4 : Int32) ∧ (4 : Int32) < 330) ∧ gE 217 54 [some (.ref 323), some (.int l1), some (.int l2)] [] (gup σ 324 4 ((σ 324 4) + l2)) K) : gE 217 44 [some (.ref 323), some (.int l1), some (.int l2)] [] σ K :=
  gw_run (cy := 217) (cuts := [44, 54]) (inl := []) (pf := gpfP) gpfP_ok 400 (by decide) h
set_option maxRecDepth 20000 in
theorem c217_54 {σ : gS} {K : gK} {l1 l2 : Int32} (h : (0 ≤ σ 324 3 ∧ σ 324 3 ≤ 20) ∧ (0 ≤ σ 324 209 ∧ σ 324 209 ≤ 40) ∧ K (some (.int l2)) (grow σ 324 (fTe (σ 324) (5 : Int32) l2 ((fJa (σ 324)) - l1)))) : gE 217 54 [some (.ref 323), some (.int l1), some (.int l2)] [] σ K :=
  gw_run (cy := 217) (cuts := [44, 54]) (inl := []) (pf := gpfP) gpfP_ok 400 (by decide) h
theorem s217 {σ : gS} {K : gK} (hc : RS σ ∧ RZ σ) (hK : K (some (.int (aStl (σ 324)))) (hOp (grow σ 326 (fSt 99 (σ 324)).2) (gStl (σ 324)) (nStl (σ 324)))) : gE 217 0 [some (.ref 323), none, none] [] σ K := by
  obtain ⟨⟨⟨h3, h9⟩, hu⟩, hz⟩ := hc
  unfold aStl hOp at hK
  have e0 : iN (fSt 99 (σ 324)).1 = 0 ↔ (fSt 99 (σ 324)).1 = 0 := by
    have := fSt_n 99 (σ 324)
    exact iN_inj (m := 0) (by omega) (by decide)
  refine w217 ?_
  rw [grow_at, e0]
  refine ⟨hz, h3, h3, fun h => ?_, fun h => ?_⟩
  · rw [if_neg h, if_pos h] at hK
    rw [grow_grow, grow_ne (by decide), z_nat]
    refine ⟨hu, ⟨by decide, by decide, fun h => absurd h (by decide)⟩, ?_⟩
    rw [hKe_324, hKe_ne (by decide) (by decide), grow_at, grow_ne (by decide), rla_all (fSt_z h3 hz.1) hz.1]
    refine c217_44 ⟨by decide, by decide, c217_54 ?_⟩
    simp (disch := decide) only [gup_grow, grow_grow, grow_at]
    refine ⟨?_, bnd209 (by decide) (by rw [fSt_9 h3]; exact h9), hK⟩
    rw [rup_ne (by decide), fSt_3]
    exact h3
  · rw [if_pos h, if_neg (fun q => q h)] at hK
    rw [grow_grow]
    exact hK
noncomputable def f217 : gD := fun Lv σ => match Lv with
  | [some (.ref q0), none, none] => cond (Nat.beq q0 323) (some (some (RS σ ∧ RZ σ), some (.int (aStl (σ 324))), hOp (grow σ 326 (fSt 99 (σ 324)).2) (gStl (σ 324)) (nStl (σ 324)))) none
  | _ => none
theorem ok217 : gFok 217 f217 := by
  intro Lv σ q h hc K hK
  unfold f217 at h
  split at h
  · rename_i q0
    obtain ⟨hb, h⟩ := c_no h
    have hb0 := hb
    have e0 := b_eq hb0
    subst e0
    cases h
    exact s217 (hc _ rfl) hK
  · cases h
