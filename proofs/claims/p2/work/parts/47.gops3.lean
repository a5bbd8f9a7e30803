/-! THE REFERENCE: its calls, set, settle, keep, restore, undo -/
def fof (w : Int32) : Nat := if w = 4 then 1 else 3 + w.toNatClampNeg
theorem inR_cases {R : gW} {w n : Int32} (h : inR R w n) : w = 0 ∨ w = 1 ∨ w = 2 ∨ w = 3 ∨ w = 4 := by
  rcases h with q | q | q | q
  · exact q.1.elim Or.inl (fun e => Or.inr (Or.inl e))
  · exact Or.inr (Or.inr (Or.inl q.1))
  · exact Or.inr (Or.inr (Or.inr (Or.inl q.1)))
  · exact Or.inr (Or.inr (Or.inr (Or.inr q.1)))
theorem idf {R : gW} {t w n : Int32} (ht : 0 ≤ t ∧ t < 20) (h : inR R w n) : (9 + 10 * t + (if w = 4 then 1 else 3 + w)).toNatClampNeg = 9 + 10 * t.toNatClampNeg + fof w ∧ 0 ≤ 9 + 10 * t + (if w = 4 then 1 else 3 + w) ∧ 9 + 10 * t + (if w = 4 then 1 else 3 + w) < 330 := by
  rcases inR_cases h with e | e | e | e | e <;> subst e
  · exact idx ht 3 (by decide)
  · exact idx ht 4 (by decide)
  · exact idx ht 5 (by decide)
  · exact idx ht 6 (by decide)
  · exact idx ht 1 (by decide)
theorem fof_le {R : gW} {w n : Int32} (h : inR R w n) : 1 ≤ fof w ∧ fof w ≤ 6 := by
  rcases inR_cases h with e | e | e | e | e <;> subst e <;> decide
abbrev gSet (R : gW) (t w v : Int32) : Prop := ((isT R t ∧ inR R w v) ∧ ¬ fld R t.toNatClampNeg (fof w) = v) ∧ ¬ (w = 4 ∧ ¬ (v = 1 ∨ R 1 ≤ fld R t.toNatClampNeg 0 / 4))
def aSet (R : gW) (t w v : Int32) : Int32 := if isT R t ∧ inR R w v then (if fld R t.toNatClampNeg (fof w) = v then -2 else if w = 4 ∧ ¬ (v = 1 ∨ R 1 ≤ fld R t.toNatClampNeg 0 / 4) then -4 else if w < 2 then fld R t.toNatClampNeg (fof w) + 9 else fld R t.toNatClampNeg (fof w)) else -1
def nSet (R : gW) (t w v : Int32) : gW := fTe (rup R (9 + 10 * t.toNatClampNeg + fof w) v) 6 (10 * t + w) (fld R t.toNatClampNeg (fof w))
set_option maxRecDepth 20000 in
theorem w211 {σ : gS} {K : gK} {t w v : Int32} (h : (((bI (isT (σ 324) t)) = 0 → K (some (.int (-1))) σ) ∧ (¬ (bI (isT (σ 324) t)) = 0 → ((¬ (bI (inR (σ 324) w v)) = 0 → (0 ≤ (9 + 10 * t + (if w = 4 then 1 else 3 + w)) ∧ (9 + 10 * t + (if w = 4 then 1 else 3 + w)) < 330) ∧ ((¬ (σ 324 (9 + 10 * t + (if w = 4 then 1 else 3 + w)).toNatClampNeg) = v → ((¬ w = 4 → (0 ≤ σ 323 6 ∧ σ 323 6 ≤ 8) ∧ (0 ≤ (9 + 10 * t + (if w = 4 then 1 else 3 + w)) ∧ (9 + 10 * t + (if w = 4 then 1 else 3 + w)) < 330) ∧ gE 211 92 [some (.ref 323), some (.int t), some (.int w), some (.int v), some (.int (σ 324 (9 + 10 * t + (if w = 4 then 1 else 3 + w)).toNatClampNeg))] [] (gup (hKe σ) 324 (9 + 10 * t + (if w = 4 then 1 else 3 + w)).toNatClampNeg v) K) ∧ (w = 4 → (0 ≤ (9 + 10 * t + (0 : Int32)) ∧ (9 + 10 * t + (0 : Int32)) < 330) ∧ (0 ≤ (1 : Int32) ∧ (1 : Int32) < 330) ∧ ((¬ (bI (v = 1 ∨ (σ 324 1) ≤ (σ 324 (9 + 10 * t + (0 : Int32)).toNatClampNeg) / 4)) = 0 → (0 ≤ σ 323 6 ∧ σ 323 6 ≤ 8) ∧ (0 ≤ (9 + 10 * t + (if w = 4 then 1 else 3 + w)) ∧ (9 + 10 * t + (if w = 4 then 1 else 3 + w)) < 330) ∧ gE 211 92 [some (.ref 323), some (.int t), some (.int w), some (.int v), some (.int (σ 324 (9 + 10 * t + (if w = 4 then 1 else 3 + w)).toNatClampNeg))] [] (gup (hKe σ) 324 (9 + 10 * t + (if w = 4 then 1 else 3 + w)).toNatClampNeg v) K) ∧ ((bI (v = 1 ∨ (σ 324 1) ≤ (σ 324 (9 + 10 * t + (0 : Int32)).toNatClampNeg) / 4)) = 0 → K (some (.int (-4))) σ))))) ∧ ((σ 324 (9 + 10 * t + (if w = 4 then 1 else 3 + w)).toNatClampNeg) = v → K (some (.int (-2))) σ))) ∧ ((bI (inR (σ 324) w v)) = 0 → K (some (.int (-1))) σ))))) : gE 211 0 [some (.ref 323), some (.int t), some (.int w), some (.int v), none] [] σ K :=
  gw_run (cy := 211) (cuts := [92]) (inl := []) (pf := gpfO) gpfO_ok 400 (by decide) h
set_option maxRecDepth 20000 in
theorem c211_92 {σ : gS} {K : gK} {l1 l2 l3 l4 : Int32} (h : (0 ≤ σ 324 209 ∧ σ 324 209 ≤ 40) ∧ ((¬ l2 < 2 → K (some (.int l4)) (grow σ 324 (fTe (σ 324) (6 : Int32) ((10 * l1) + l2) l4))) ∧ (l2 < 2 → K (some (.int (l4 + 9))) (grow σ 324 (fTe (σ 324) (6 : Int32) ((10 * l1) + l2) l4))))) : gE 211 92 [some (.ref 323), some (.int l1), some (.int l2), some (.int l3), some (.int l4)] [] σ K :=
  gw_run (cy := 211) (cuts := [92]) (inl := []) (pf := gpfO) gpfO_ok 400 (by decide) h
theorem s211 {σ : gS} {K : gK} {t w v : Int32} (hc : RS σ) (hK : K (some (.int (aSet (σ 324) t w v))) (hOp σ (gSet (σ 324) t w v) (nSet (σ 324) t w v))) : gE 211 0 [some (.ref 323), some (.int t), some (.int w), some (.int v), none] [] σ K := by
  obtain ⟨⟨h3, h9⟩, hu⟩ := hc
  unfold aSet hOp at hK
  refine w211 ?_
  simp only [bI_0]
  have no : ¬ (isT (σ 324) t ∧ inR (σ 324) w v) → K (some (.int (-1))) σ := by
    intro q
    rw [if_neg q, if_neg (fun e => q e.1.1)] at hK
    exact hK
  refine ⟨fun h => no (fun q => h q.1), fun h => ⟨fun h1 => ?_, fun h1 => no (fun q => h1 q.2)⟩⟩
  have h := Decidable.not_not.mp h
  have h1 := Decidable.not_not.mp h1
  have ht := isT_of h3 h
  have lt := (t20 ht).2
  obtain ⟨ia, ja⟩ := idf ht h1
  obtain ⟨i0, j0⟩ := idx ht 0 (by decide)
  have i0 : (9 + 10 * t + (0 : Int32)).toNatClampNeg = 9 + 10 * t.toNatClampNeg + 0 := i0
  have fl := fof_le h1
  rw [if_pos ⟨h, h1⟩] at hK
  have fin : ¬ fld (σ 324) t.toNatClampNeg (fof w) = v → ¬ (w = 4 ∧ ¬ (v = 1 ∨ σ 324 1 ≤ fld (σ 324) t.toNatClampNeg 0 / 4)) → gE 211 92 [some (.ref 323), some (.int t), some (.int w), some (.int v), some (.int (σ 324 (9 + 10 * t.toNatClampNeg + fof w)))] [] (gup (hKe σ) 324 (9 + 10 * t.toNatClampNeg + fof w) v) K := by
    intro h2 h4
    rw [if_neg h2, if_neg h4, if_pos (show gSet (σ 324) t w v from ⟨⟨⟨h, h1⟩, h2⟩, h4⟩)] at hK
    refine c211_92 ?_
    simp (disch := decide) only [gup_grow, grow_grow, grow_at, hKe_324]
    refine ⟨bnd209 (by omega) h9, fun q => ?_, fun q => ?_⟩
    · rw [if_neg q] at hK; exact hK
    · rw [if_pos q] at hK; exact hK
  rw [ia, i0]
  refine ⟨ja, fun h2 => ⟨fun h4 => ⟨hu, ja, fin h2 (fun q => h4 q.1)⟩, fun h4 => ⟨j0, by decide, fun h5 => ⟨hu, ja, fin h2 (fun q => h5 q.2)⟩, fun h5 => ?_⟩⟩, fun h2 => ?_⟩
  · have h2 : ¬ fld (σ 324) t.toNatClampNeg (fof w) = v := h2
    rw [if_neg h2, if_pos (show w = 4 ∧ ¬ (v = 1 ∨ σ 324 1 ≤ fld (σ 324) t.toNatClampNeg 0 / 4) from ⟨h4, h5⟩), if_neg (show ¬ gSet (σ 324) t w v from fun q => q.2 ⟨h4, h5⟩)] at hK; exact hK
  · have h2 : fld (σ 324) t.toNatClampNeg (fof w) = v := h2
    rw [if_pos h2, if_neg (show ¬ gSet (σ 324) t w v from fun q => q.1.2 h2)] at hK; exact hK
noncomputable def f211 : gD := fun Lv σ => match Lv with
  | [some (.ref q0), some (.int t), some (.int w), some (.int v), none] => cond (Nat.beq q0 323) (some (some (RS σ), some (.int (aSet (σ 324) t w v)), hOp σ (gSet (σ 324) t w v) (nSet (σ 324) t w v))) none
  | _ => none
theorem ok211 : gFok 211 f211 := by
  intro Lv σ q h hc K hK
  unfold f211 at h
  split at h
  · rename_i q0 t w v
    obtain ⟨hb, h⟩ := c_no h
    have hb0 := hb
    have e0 := b_eq hb0
    subst e0
    cases h
    exact s211 (hc _ rfl) hK
  · cases h
/-- rows end with zeros -/
abbrev zR (R : gW) : Prop := ∀ j, 330 ≤ j → R j = 0
def rowAt (E : gW) (u : Nat) : gW := fun j => if j < 330 then E (330 * u + j) else 0
theorem rla_row {E N : gW} (u : Nat) (hz : zR N) : rla E N (330 * u) 0 330 = rowAt E u := by
  funext j
  unfold rla rowAt
  by_cases h : j < 330
  · rw [if_pos ⟨by omega, by omega⟩, if_pos h, Nat.sub_zero]
  · rw [if_neg (by omega), if_neg h, hz j (by omega)]
theorem rla_all {N S : gW} (hz : zR N) (hs : zR S) : rla N S 0 0 330 = N := by
  funext j
  unfold rla
  by_cases h : j < 330
  · rw [if_pos ⟨by omega, by omega⟩, Nat.sub_zero, Nat.zero_add]
  · rw [if_neg (by omega), hs j (by omega), hz j (by omega)]
abbrev RZ (σ : gS) : Prop := zR (σ 324) ∧ zR (σ 325) ∧ zR (σ 326)
theorem hKe_ne {σ : gS} {q : Nat} (h : ¬ q = 323) (h2 : ¬ q = 327) : hKe σ q = σ q := by unfold hKe; rw [grow_ne h, grow_ne h2]
theorem z_nat : (0 : Int32).toNatClampNeg = 0 := by decide
set_option maxRecDepth 20000 in
theorem w154 {σ : gS} {K : gK} (h : ((0 ≤ (0 : Int32) ∧ (0 : Int32) ≤ iN (gln 324 - 330)) ∧ (0 ≤ (0 : Int32) ∧ (0 : Int32) ≤ iN (gln 326 - 330)) ∧ (324 = 326 → (0 : Int32).toNatClampNeg + 330 ≤ (0 : Int32).toNatClampNeg)) ∧ K none (grow σ 326 (rla (σ 324) (σ 326) (0 : Int32).toNatClampNeg (0 : Int32).toNatClampNeg 330))) : gE 154 0 [some (.ref 323)] [] σ K :=
  gw_run (cy := 154) (cuts := []) (inl := []) (pf := gpfO) gpfO_ok 400 (by decide) h
theorem s154 {σ : gS} {K : gK} (hc : RZ σ) (hK : K none (grow σ 326 (σ 324))) : gE 154 0 [some (.ref 323)] [] σ K := by
  refine w154 ⟨⟨by decide, by decide, fun h => absurd h (by decide)⟩, ?_⟩
  rw [z_nat, rla_all hc.1 hc.2.2]
  exact hK
noncomputable def f154 : gD := fun Lv σ => match Lv with
  | [some (.ref q0)] => cond (Nat.beq q0 323) (some (some (RZ σ), none, grow σ 326 (σ 324))) none
  | _ => none
theorem ok154 : gFok 154 f154 := by
  intro Lv σ q h hc K hK
  unfold f154 at h
  split at h
  · rename_i q0
    obtain ⟨hb, h⟩ := c_no h
    have hb0 := hb
    have e0 := b_eq hb0
    subst e0
    cases h
    exact s154 (hc _ rfl) hK
  · cases h
theorem fSt_3 : ∀ (d : Nat) (R : gW), (fSt d R).2 3 = R 3
  | 0, R => rfl
  | d + 1, R => by
    by_cases h : fBest R < 0
    · rw [fSt_lt h]
    · rw [fSt_ge h]
      show (fSt d (fNx R)).2 3 = R 3
      rw [fSt_3 d, fNx_3]
theorem rsw_z {R : gW} {a b : Nat} (ha : a < 32) (hb : b < 32) (h : zR R) : zR (rsw R a b) := by
  intro j hj
  rw [rsw_eq, if_neg (by omega), if_neg (by omega)]
  exact h j hj
theorem fBest_ab {R : gW} (hR : 0 ≤ R 3 ∧ R 3 ≤ 20) (h : ¬ fBest R < 0) : ∃ a b, a < nM R ∧ b < nM R ∧ nM R ≤ 20 ∧ fNx R = rsw R a b := by
  have hn := (nM_of hR).2
  rcases fBest_of R with e | ⟨a, b, ha, hb, e⟩
  · rw [e] at h; exact absurd (by decide) h
  · obtain ⟨d1, d2, -⟩ := dm100 a (by omega) b (by omega)
    refine ⟨a, b, ha, hb, hn, ?_⟩
    unfold fNx
    rw [e, d2, d1, iN_nat (by omega), iN_nat (by omega)]
/-- settling changes seats alone -/
theorem fSt_same {P : gW → Prop} (hP : ∀ R a b, a < 20 → b < 20 → P R → P (rsw R a b)) : ∀ (d : Nat) (R : gW), (0 ≤ R 3 ∧ R 3 ≤ 20) → P R → P (fSt d R).2
  | 0, R, _, h => h
  | d + 1, R, hR, h => by
    by_cases hb : fBest R < 0
    · rw [fSt_lt hb]; exact h
    · rw [fSt_ge hb]
      obtain ⟨a, b, ha, hb2, hn, e⟩ := fBest_ab hR hb
      refine fSt_same hP d (fNx R) (by rw [fNx_3]; exact hR) ?_
      rw [e]
      exact hP R a b (by omega) (by omega) h
theorem fSt_z {d : Nat} {R : gW} (hR : 0 ≤ R 3 ∧ R 3 ≤ 20) (h : zR R) : zR (fSt d R).2 := fSt_same (fun R a b ha hb h => rsw_z (by omega) (by omega) h) d R hR h
theorem fSt_9 {d : Nat} {R : gW} (hR : 0 ≤ R 3 ∧ R 3 ≤ 20) : (fSt d R).2 209 = R 209 := fSt_same (P := fun S => S 209 = R 209) (fun S a b ha hb h => by
  show rsw S a b 209 = R 209
  rw [rsw_eq, if_neg (by omega), if_neg (by omega)]
  exact h) d R hR rfl
theorem fSt_n : ∀ (d : Nat) (R : gW), (fSt d R).1 ≤ d
  | 0, _ => Nat.le_refl 0
  | d + 1, R => by
    by_cases h : fBest R < 0
    · rw [fSt_lt h]; exact Nat.zero_le _
    · rw [fSt_ge h]
      have := fSt_n d (fNx R)
      show (fSt d (fNx R)).1 + 1 ≤ d + 1
      omega
theorem fSt_0 {d : Nat} {R : gW} (h : (fSt d R).1 = 0) : (fSt d R).2 = R := by
  cases d with
  | zero => rfl
  | succ d =>
    by_cases hb : fBest R < 0
    · rw [fSt_lt hb]
    · rw [fSt_ge hb] at h; exact absurd h (by simp)
abbrev gStl (R : gW) : Prop := ¬ (fSt 99 R).1 = 0
def aStl (R : gW) : Int32 := if (fSt 99 R).1 = 0 then -2 else iN (fSt 99 R).1
def nStl (R : gW) : gW := fTe (radd (fSt 99 R).2 4 (iN (fSt 99 R).1)) 5 (iN (fSt 99 R).1) (fJa (radd (fSt 99 R).2 4 (iN (fSt 99 R).1)) - fJa R)
noncomputable def gpfP_l : List (Nat × gD) := (154, f154) :: gpfO_l
noncomputable def gpfP : gP := gpl0 gpfP_l
theorem gpfP_ok : gPok gpfP := gpl0_cons ok154 (gpfO_ok)
set_option maxRecDepth 20000 in
theorem w217 {σ : gS} {K : gK} (h : (RZ σ) ∧ (0 ≤ (grow σ 326 (σ 324)) 326 3 ∧ (grow σ 326 (σ 324)) 326 3 ≤ 20) ∧ (0 ≤ (grow σ 326 (σ 324)) 326 3 ∧ (grow σ 326 (σ 324)) 326 3 ≤ 20) ∧ ((¬ (iN (fSt 99 ((grow σ 326 (σ 324)) 326)).1) = 0 → (0 ≤ (grow (grow σ 326 (σ 324)) 326 (fSt 99 ((grow σ 326 (σ 324)) 326)).2) 323 6 ∧ (grow (grow σ 326 (σ 324)) 326 (fSt 99 ((grow σ 326 (σ 324)) 326)).2) 323 6 ≤ 8) ∧ ((0 ≤ (0 : Int32) ∧ (0 : Int32) ≤ iN (gln 326 - 330)) ∧ (0 ≤ (0 : Int32) ∧ (0 : Int32) ≤ iN (gln 324 - 330)) ∧ (326 = 324 → (0 : Int32).toNatClampNeg + 330 ≤ (0 : Int32).toNatClampNeg)) ∧ gE 217 44 [some (.ref 323), some (.int (fJa ((grow σ 326 (σ 324)) 326))), some (.int (iN (fSt 99 ((grow σ 326 (σ 324)) 326)).1))] [] (grow (hKe (grow (grow σ 326 (σ 324)) 326 (fSt 99 ((grow σ 326 (σ 324)) 326)).2)) 324 (rla ((hKe (grow (grow σ 326 (σ 324)) 326 (fSt 99 ((grow σ 326 (σ 324)) 326)).2)) 326) ((hKe (grow (grow σ 326 (σ 324)) 326 (fSt 99 ((grow σ 326 (σ 324)) 326)).2)) 324) (0 : Int32).toNatClampNeg (0 : Int32).toNatClampNeg 330)) K) ∧ ((iN (fSt 99 ((grow σ 326 (σ 324)) 326)).1) = 0 → K (some (.int (-2))) (grow (grow σ 326 (σ 324)) 326 (fSt 99 ((grow σ 326 (σ 324)) 326)).2)))) : gE 217 0 [some (.ref 323), none, none] [] σ K :=
  gw_run (cy := 217) (cuts := [44, 54]) (inl := []) (pf := gpfP) gpfP_ok 400 (by decide) h
set_option maxRecDepth 20000 in
theorem c217_44 {σ : gS} {K : gK} {l1 l2 : Int32} (h : (0 ≤ (4 : Int32) ∧ (4 : Int32) < 330) ∧ (0 ≤ (4 : Int32) ∧ (4 : Int32) < 330) ∧ gE 217 54 [some (.ref 323), some (.int l1), some (.int l2)] [] (gup σ 324 4 ((σ 324 4) + l2)) K) : gE 217 44 [some (.ref 323), some (.int l1), some (.int l2)] [] σ K :=
  gw_run (cy := 217) (cuts := [44, 54]) (inl := []) (pf := gpfP) gpfP_ok 400 (by decide) h
set_option maxRecDepth 20000 in
theorem c217_54 {σ : gS} {K : gK} {l1 l2 : Int32} (h : (0 ≤ σ 324 3 ∧ σ 324 3 ≤ 20) ∧ (0 ≤ σ 324 209 ∧ σ 324 209 ≤ 40) ∧ K (some (.int l2)) (grow σ 324 (fTe (σ 324) (5 : Int32) l2 ((fJa (σ 324)) - l1)))) : gE 217 54 [some (.ref 323), some (.int l1), some (.int l2)] [] σ K :=
  gw_run (cy := 217) (cuts := [44, 54]) (inl := []) (pf := gpfP) gpfP_ok 400 (by decide) h
theorem s217 {σ : gS} {K : gK} (hc : RS σ ∧ RZ σ) (hK : K (some (.int (aStl (σ 324)))) (hOp (grow σ 326 (fSt 99 (σ 324)).2) (gStl (σ 324)) (nStl (σ 324)))) : gE 217 0 [some (.ref 323), none, none] [] σ K := by
  obtain ⟨⟨⟨h3, h9⟩, hu⟩, hz⟩ := hc
  unfold aStl hOp at hK
  have e0 : iN (fSt 99 (σ 324)).1 = 0 ↔ (fSt 99 (σ 324)).1 = 0 := by
    have := fSt_n 99 (σ 324)
    exact iN_inj (m := 0) (by omega) (by decide)
  refine w217 ?_
  rw [grow_at, e0]
  refine ⟨hz, h3, h3, fun h => ?_, fun h => ?_⟩
  · rw [if_neg h, if_pos h] at hK
    rw [grow_grow, grow_ne (by decide), z_nat]
    refine ⟨hu, ⟨by decide, by decide, fun h => absurd h (by decide)⟩, ?_⟩
    rw [hKe_324, hKe_ne (by decide) (by decide), grow_at, grow_ne (by decide), rla_all (fSt_z h3 hz.1) hz.1]
    refine c217_44 ⟨by decide, by decide, c217_54 ?_⟩
    simp (disch := decide) only [gup_grow, grow_grow, grow_at]
    refine ⟨?_, bnd209 (by decide) (by rw [fSt_9 h3]; exact h9), hK⟩
    rw [rup_ne (by decide), fSt_3]
    exact h3
  · rw [if_pos h, if_neg (fun q => q h)] at hK
    rw [grow_grow]
    exact hK
noncomputable def f217 : gD := fun Lv σ => match Lv with
  | [some (.ref q0), none, none] => cond (Nat.beq q0 323) (some (some (RS σ ∧ RZ σ), some (.int (aStl (σ 324))), hOp (grow σ 326 (fSt 99 (σ 324)).2) (gStl (σ 324)) (nStl (σ 324)))) none
  | _ => none
theorem ok217 : gFok 217 f217 := by
  intro Lv σ q h hc K hK
  unfold f217 at h
  split at h
  · rename_i q0
    obtain ⟨hb, h⟩ := c_no h
    have hb0 := hb
    have e0 := b_eq hb0
    subst e0
    cases h
    exact s217 (hc _ rfl) hK
  · cases h
