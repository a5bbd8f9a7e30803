/-! THE CLASS: members counted, joys -/
noncomputable def gpcc_l : List (Nat × gD) := (56, f56) :: (58, f58) :: (59, f59) :: gpcb_l
noncomputable def gpcc : gP := gpl0 gpcc_l
theorem gpcc_ok : gPok gpcc := gpl0_cons ok56 (gpl0_cons ok58 (gpl0_cons ok59 (gpcb_ok)))
/-- how many of a family sit at a table -/
def memP (R : gW) (b f : Int32) (t : Nat) : Bool := decide (fld R t 0 / 8 = b ∧ fld R t 2 = f)
def mem (R : gW) (b f : Int32) : Nat := cnt (memP R b f) (nM R)
abbrev cM (σ : gS) (p : Nat) : Prop := ∀ a, a < 5 → ∀ f, f < 10 → σ (p + 23) (a * 10 + f) = iN (mem (cR σ p) (iN a) (iN f))
/-- the train at place p is sound -/
abbrev TC (σ : gS) (p : Nat) : Prop := (0 ≤ cR σ p 3 ∧ cR σ p 3 ≤ 20) ∧ bT (cR σ p) ∧ cM σ p
def cMa (σ : gS) (p : Nat) (b f : Int32) : Int32 := if 0 ≤ b * 10 + f ∧ b * 10 + f < 50 then σ (p + 23) (b * 10 + f).toNatClampNeg else 0
def cRel (σ : gS) (p w : Nat) (b : Int32) : Int32 := if σ w 3 = 0 then 0 else if σ w 1 / 8 = b then cMa σ p b (σ w 3) - 1 else cMa σ p b (σ w 3)
theorem cMa_of {σ : gS} {p a f : Nat} (ha : a < 5) (hf : f < 10) : cMa σ p (iN a) (iN f) = σ (p + 23) (a * 10 + f) := by
  unfold cMa
  have e : (iN a * 10 + iN f : Int32) = iN (a * 10 + f) := by
    show iN a * iN 10 + iN f = _
    rw [iN_mul, iN_add]
  rw [e, iN_nat (by omega), if_pos ⟨(iN_le (k := 0) (by decide) (by omega)).mpr (by omega), (iN_lt (m := 50) (by omega) (by decide)).mpr (by omega)⟩]
theorem cnt_ex {Q : Nat → Bool} {t : Nat} : ∀ {n : Nat}, t < n → cnt (fun j => Q j && decide (j ≠ t)) n + (if Q t = true then 1 else 0) = cnt Q n
  | 0, h => absurd h (Nat.not_lt_zero t)
  | n + 1, h => by
    by_cases e : t = n
    · subst e
      have e1 : cnt (fun j => Q j && decide (j ≠ t)) t = cnt Q t := cnt_congr (fun j hj => by
        have : decide (j ≠ t) = true := decide_eq_true (by omega)
        simp only [this, Bool.and_true])
      show cnt (fun j => Q j && decide (j ≠ t)) t + (if (Q t && decide (t ≠ t)) = true then 1 else 0) + _ = cnt Q t + (if Q t = true then 1 else 0)
      rw [e1]
      simp
    · have ih := cnt_ex (Q := Q) (show t < n by omega)
      have e2 : decide (n ≠ t) = true := decide_eq_true (fun q => e q.symm)
      show cnt (fun j => Q j && decide (j ≠ t)) n + (if (Q n && decide (n ≠ t)) = true then 1 else 0) + _ = cnt Q n + (if Q n = true then 1 else 0)
      rw [e2, Bool.and_true]
      omega
theorem kin_mem {R : gW} {t : Nat} {b : Int32} (hR : 0 ≤ R 3 ∧ R 3 ≤ 20) (ht : t < nM R) (hf : 0 ≤ fld R t 2) : kin R t b = if fld R t 2 = 0 then 0 else if fld R t 0 / 8 = b then iN (mem R b (fld R t 2)) - 1 else iN (mem R b (fld R t 2)) := by
  have hn := (nM_of hR).2
  unfold kin mem
  by_cases h0 : fld R t 2 = 0
  · rw [if_pos h0]
    have : cnt (kinP R t b) (nM R) = 0 := by
      have h : ∀ n, cnt (kinP R t b) n = 0 := by
        intro n
        induction n with
        | zero => rfl
        | succ n ih =>
          rw [cnt_f, ih]
          intro q
          have q := (of_decide_eq_true q).2.1
          rw [h0] at q
          exact absurd q (by decide)
      exact h _
    rw [this]
    rfl
  · rw [if_neg h0]
    have hp : 0 < fld R t 2 := by grind
    have e1 : cnt (kinP R t b) (nM R) = cnt (fun j => memP R b (fld R t 2) j && decide (j ≠ t)) (nM R) := cnt_congr (fun j hj => by
      unfold kinP memP
      rw [← Bool.decide_and]
      congr 1
      apply propext
      constructor
      · intro q; exact ⟨⟨q.2.2.2, q.2.2.1⟩, q.1⟩
      · intro q; exact ⟨q.2, hp, q.1.2, q.1.1⟩)
    have e2 := cnt_ex (Q := memP R b (fld R t 2)) ht
    rw [e1]
    by_cases hb : fld R t 0 / 8 = b
    · rw [if_pos hb]
      have : memP R b (fld R t 2) t = true := decide_eq_true ⟨hb, rfl⟩
      rw [if_pos this] at e2
      have hle := cnt_le (memP R b (fld R t 2)) (nM R)
      rw [← e2]
      have e3 := iN_sub (m := cnt (fun j => memP R b (fld R t 2) j && decide (j ≠ t)) (nM R) + 1) (d := 1) (by omega) (by omega)
      rw [Nat.add_sub_cancel] at e3
      exact e3.symm
    · rw [if_neg hb]
      have : ¬ memP R b (fld R t 2) t = true := fun q => hb (of_decide_eq_true q).1
      rw [if_neg this, Nat.add_zero] at e2
      rw [e2]
theorem i8 {x : Int32} (h : 0 ≤ x ∧ x < 40) : ∃ a, a < 5 ∧ x / 8 = iN a := by
  obtain ⟨e, l⟩ := iN_of h.1
  have l2 : x.toNatClampNeg < 40 := by
    have h2 := h.2
    rw [e] at h2
    exact (iN_lt (m := 40) l (by decide)).mp h2
  refine ⟨x.toNatClampNeg / 8, by omega, ?_⟩
  rw [e, show (8 : Int32) = iN 8 from rfl, iN_div (by omega) (by decide), iN_nat l]
theorem i10 {x : Int32} (h : 0 ≤ x ∧ x ≤ 9) : ∃ a, a < 10 ∧ x = iN a := by
  obtain ⟨e, l⟩ := iN_of h.1
  refine ⟨x.toNatClampNeg, ?_, e⟩
  have h2 := h.2
  rw [e] at h2
  have := (iN_le (m := 9) l (by decide)).mp h2
  omega
theorem cRel_kin {σ : gS} {p t : Nat} {x : Int32} (h : TC σ p) (ht : t < nM (cR σ p)) (hx : 0 ≤ x ∧ x < 40) : cRel σ p (p + 2 + t) (x / 8) = kin (cR σ p) t (x / 8) := by
  obtain ⟨h3, hb, hm⟩ := h
  have hn := (nM_of h3).2
  obtain ⟨-, -, hf⟩ := hb t ht
  have e0 := cR_f (σ := σ) (p := p) (t := t) (f := 0) (by omega) (by decide)
  have e2 := cR_f (σ := σ) (p := p) (t := t) (f := 2) (by omega) (by decide)
  obtain ⟨a, ha, ea⟩ := i8 hx
  obtain ⟨f, hf2, ef⟩ := i10 hf
  rw [kin_mem h3 ht hf.1]
  unfold cRel
  rw [← e0, ← e2, ea, ef, cMa_of ha hf2, hm a ha f hf2]
set_option maxRecDepth 20000 in
theorem w60_6 {σ : gS} {K : gK} {b f : Int32} (h : ((((b * 10) + f) < 0 → K (some (.int 0)) σ) ∧ (¬ ((b * 10) + f) < 0 → ((¬ ((b * 10) + f) < 50 → K (some (.int 0)) σ) ∧ (((b * 10) + f) < 50 → (0 ≤ ((b * 10) + f) ∧ ((b * 10) + f) < 50) ∧ K (some (.int (σ 29 ((b * 10) + f).toNatClampNeg))) σ))))) : gE 60 0 [some (.ref 6), some (.int b), some (.int f), none] [] σ K :=
  gw_run (cy := 60) (cuts := []) (inl := []) (pf := gpcc) gpcc_ok 400 (by decide) h
theorem s60_6 {σ : gS} {K : gK} {b f : Int32} (hK : K (some (.int (cMa σ 6 b f))) σ) : gE 60 0 [some (.ref 6), some (.int b), some (.int f), none] [] σ K := by
  unfold cMa at hK
  refine w60_6 ?_
  grind
set_option maxRecDepth 20000 in
theorem w60_32 {σ : gS} {K : gK} {b f : Int32} (h : ((((b * 10) + f) < 0 → K (some (.int 0)) σ) ∧ (¬ ((b * 10) + f) < 0 → ((¬ ((b * 10) + f) < 50 → K (some (.int 0)) σ) ∧ (((b * 10) + f) < 50 → (0 ≤ ((b * 10) + f) ∧ ((b * 10) + f) < 50) ∧ K (some (.int (σ 55 ((b * 10) + f).toNatClampNeg))) σ))))) : gE 60 0 [some (.ref 32), some (.int b), some (.int f), none] [] σ K :=
  gw_run (cy := 60) (cuts := []) (inl := []) (pf := gpcc) gpcc_ok 400 (by decide) h
theorem s60_32 {σ : gS} {K : gK} {b f : Int32} (hK : K (some (.int (cMa σ 32 b f))) σ) : gE 60 0 [some (.ref 32), some (.int b), some (.int f), none] [] σ K := by
  unfold cMa at hK
  refine w60_32 ?_
  grind
noncomputable def f60 : gD := fun Lv σ => match Lv with
  | [some (.ref p), some (.int b), some (.int f), none] => cond (Nat.beq p 6 || Nat.beq p 32) (some (none, some (.int (cMa σ p b f)), σ)) none
  | _ => none
theorem ok60 : gFok 60 f60 := by
  intro Lv σ q h hc K hK
  unfold f60 at h
  split at h
  · rename_i p b f
    obtain ⟨hb, h⟩ := c_no h
    have hb0 := hb
    rcases s_or hb0 with hb0 | hb0
    · have e := b_eq hb0
      subst e
      cases h
      exact s60_6 hK
    · have e := b_eq hb0
      subst e
      cases h
      exact s60_32 hK
  · cases h
noncomputable def gpcd_l : List (Nat × gD) := (60, f60) :: gpcc_l
noncomputable def gpcd : gP := gpl0 gpcd_l
theorem gpcd_ok : gPok gpcd := gpl0_cons ok60 (gpcc_ok)
set_option maxRecDepth 20000 in
theorem w67_6 {σ : gS} {K : gK} {b : Int32} {w : Nat} (h : gTv w ∧ ((¬ (σ w 3) = 0 → gTv w ∧ gTv w ∧ (8 : Int32) ≠ 0 ∧ ((¬ ((σ w 1) / 8) = b → K (some (.int (cMa σ 6 b (σ w 3)))) σ) ∧ (((σ w 1) / 8) = b → K (some (.int ((cMa σ 6 b (σ w 3)) - 1))) σ))) ∧ ((σ w 3) = 0 → K (some (.int 0)) σ))) : gE 67 0 [some (.ref 6), some (.ref w), some (.int b), none] [] σ K :=
  gw_run (cy := 67) (cuts := []) (inl := []) (pf := gpcd) gpcd_ok 400 (by decide) h
theorem s67_6 {σ : gS} {K : gK} {w : Nat} {b : Int32} (hc : gTv w) (hK : K (some (.int (cRel σ 6 w b))) σ) : gE 67 0 [some (.ref 6), some (.ref w), some (.int b), none] [] σ K := by
  unfold cRel at hK
  refine w67_6 ?_
  have h8 : (8 : Int32) ≠ 0 := by decide
  grind
set_option maxRecDepth 20000 in
theorem w67_32 {σ : gS} {K : gK} {b : Int32} {w : Nat} (h : gTv w ∧ ((¬ (σ w 3) = 0 → gTv w ∧ gTv w ∧ (8 : Int32) ≠ 0 ∧ ((¬ ((σ w 1) / 8) = b → K (some (.int (cMa σ 32 b (σ w 3)))) σ) ∧ (((σ w 1) / 8) = b → K (some (.int ((cMa σ 32 b (σ w 3)) - 1))) σ))) ∧ ((σ w 3) = 0 → K (some (.int 0)) σ))) : gE 67 0 [some (.ref 32), some (.ref w), some (.int b), none] [] σ K :=
  gw_run (cy := 67) (cuts := []) (inl := []) (pf := gpcd) gpcd_ok 400 (by decide) h
theorem s67_32 {σ : gS} {K : gK} {w : Nat} {b : Int32} (hc : gTv w) (hK : K (some (.int (cRel σ 32 w b))) σ) : gE 67 0 [some (.ref 32), some (.ref w), some (.int b), none] [] σ K := by
  unfold cRel at hK
  refine w67_32 ?_
  have h8 : (8 : Int32) ≠ 0 := by decide
  grind
noncomputable def f67 : gD := fun Lv σ => match Lv with
  | [some (.ref p), some (.ref w), some (.int b), none] => cond (Nat.beq p 6 || Nat.beq p 32) (some (some (gTv w), some (.int (cRel σ p w b)), σ)) none
  | _ => none
theorem ok67 : gFok 67 f67 := by
  intro Lv σ q h hc K hK
  unfold f67 at h
  split at h
  · rename_i p w b
    obtain ⟨hb, h⟩ := c_no h
    have hb0 := hb
    rcases s_or hb0 with hb0 | hb0
    · have e := b_eq hb0
      subst e
      cases h
      exact s67_6 (hc _ rfl) hK
    · have e := b_eq hb0
      subst e
      cases h
      exact s67_32 (hc _ rfl) hK
  · cases h
noncomputable def gpce_l : List (Nat × gD) := (67, f67) :: gpcd_l
noncomputable def gpce : gP := gpl0 gpce_l
theorem gpce_ok : gPok gpce := gpl0_cons ok67 (gpcd_ok)
set_option maxRecDepth 20000 in
theorem w65_6 {σ : gS} {K : gK} {t x : Int32} (h : (0 ≤ t ∧ t < 20) ∧ (4 : Int32) ≠ 0 ∧ (4 : Int32) ≠ 0 ∧ (8 : Int32) ≠ 0 ∧ (gTv (6 + 2 + t.toNatClampNeg)) ∧ gTv (6 + 2 + t.toNatClampNeg) ∧ gTv (6 + 2 + t.toNatClampNeg) ∧ (((x - x / 4 * 4) = 0 → gTv (6 + 2 + t.toNatClampNeg) ∧ (((bI (isFwd (x / 4))) = 0 → K (some (.int (((4 * (cRel σ 6 (6 + 2 + t.toNatClampNeg) (x / 8))) - ((σ (6 + 2 + t.toNatClampNeg) 7) * (if ((x / 4) - (σ (6 + 2 + t.toNatClampNeg) 6)) < 0 then -((x / 4) - (σ (6 + 2 + t.toNatClampNeg) 6)) else ((x / 4) - (σ (6 + 2 + t.toNatClampNeg) 6))))) + (σ (6 + 2 + t.toNatClampNeg) 4)))) σ) ∧ (¬ (bI (isFwd (x / 4))) = 0 → gTv (6 + 2 + t.toNatClampNeg) ∧ K (some (.int ((((4 * (cRel σ 6 (6 + 2 + t.toNatClampNeg) (x / 8))) - ((σ (6 + 2 + t.toNatClampNeg) 7) * (if ((x / 4) - (σ (6 + 2 + t.toNatClampNeg) 6)) < 0 then -((x / 4) - (σ (6 + 2 + t.toNatClampNeg) 6)) else ((x / 4) - (σ (6 + 2 + t.toNatClampNeg) 6))))) + (σ (6 + 2 + t.toNatClampNeg) 4)) + (σ (6 + 2 + t.toNatClampNeg) 5)))) σ))) ∧ (¬ (x - x / 4 * 4) = 0 → ((¬ (x - x / 4 * 4) = 3 → (((bI (isFwd (x / 4))) = 0 → K (some (.int ((4 * (cRel σ 6 (6 + 2 + t.toNatClampNeg) (x / 8))) - ((σ (6 + 2 + t.toNatClampNeg) 7) * (if ((x / 4) - (σ (6 + 2 + t.toNatClampNeg) 6)) < 0 then -((x / 4) - (σ (6 + 2 + t.toNatClampNeg) 6)) else ((x / 4) - (σ (6 + 2 + t.toNatClampNeg) 6))))))) σ) ∧ (¬ (bI (isFwd (x / 4))) = 0 → gTv (6 + 2 + t.toNatClampNeg) ∧ K (some (.int (((4 * (cRel σ 6 (6 + 2 + t.toNatClampNeg) (x / 8))) - ((σ (6 + 2 + t.toNatClampNeg) 7) * (if ((x / 4) - (σ (6 + 2 + t.toNatClampNeg) 6)) < 0 then -((x / 4) - (σ (6 + 2 + t.toNatClampNeg) 6)) else ((x / 4) - (σ (6 + 2 + t.toNatClampNeg) 6))))) + (σ (6 + 2 + t.toNatClampNeg) 5)))) σ))) ∧ ((x - x / 4 * 4) = 3 → gTv (6 + 2 + t.toNatClampNeg) ∧ (((bI (isFwd (x / 4))) = 0 → K (some (.int (((4 * (cRel σ 6 (6 + 2 + t.toNatClampNeg) (x / 8))) - ((σ (6 + 2 + t.toNatClampNeg) 7) * (if ((x / 4) - (σ (6 + 2 + t.toNatClampNeg) 6)) < 0 then -((x / 4) - (σ (6 + 2 + t.toNatClampNeg) 6)) else ((x / 4) - (σ (6 + 2 + t.toNatClampNeg) 6))))) + (σ (6 + 2 + t.toNatClampNeg) 4)))) σ) ∧ (¬ (bI (isFwd (x / 4))) = 0 → gTv (6 + 2 + t.toNatClampNeg) ∧ K (some (.int ((((4 * (cRel σ 6 (6 + 2 + t.toNatClampNeg) (x / 8))) - ((σ (6 + 2 + t.toNatClampNeg) 7) * (if ((x / 4) - (σ (6 + 2 + t.toNatClampNeg) 6)) < 0 then -((x / 4) - (σ (6 + 2 + t.toNatClampNeg) 6)) else ((x / 4) - (σ (6 + 2 + t.toNatClampNeg) 6))))) + (σ (6 + 2 + t.toNatClampNeg) 4)) + (σ (6 + 2 + t.toNatClampNeg) 5)))) σ))))))) : gE 65 0 [some (.ref 6), some (.int t), some (.int x), none, none, none, none] [] σ K :=
  gw_run (cy := 65) (cuts := []) (inl := []) (pf := gpce) gpce_ok 400 (by decide) h
theorem s65_6 {σ : gS} {K : gK} {t x : Int32} (hc : ((0 ≤ t ∧ t < 20) ∧ t.toNatClampNeg < nM (cR σ 6)) ∧ (0 ≤ x ∧ x < 40) ∧ TC σ 6) (hK : K (some (.int (fJoy (cR σ 6) t.toNatClampNeg x))) σ) : gE 65 0 [some (.ref 6), some (.int t), some (.int x), none, none, none, none] [] σ K := by
  obtain ⟨⟨ht, htn⟩, hx, hT⟩ := hc
  have lt := n20 ht
  have ek := cRel_kin hT htn hx
  have tv := tv_6 _ lt
  have e3 := cR_f (σ := σ) (p := 6) (t := t.toNatClampNeg) (f := 3) lt (by decide)
  have e4 := cR_f (σ := σ) (p := 6) (t := t.toNatClampNeg) (f := 4) lt (by decide)
  have e5 := cR_f (σ := σ) (p := 6) (t := t.toNatClampNeg) (f := 5) lt (by decide)
  have e6 := cR_f (σ := σ) (p := 6) (t := t.toNatClampNeg) (f := 6) lt (by decide)
  unfold fJoy at hK
  rw [← ek, e3, e4, e5, e6] at hK
  have h8 : (8 : Int32) ≠ 0 := by decide
  have h4 : (4 : Int32) ≠ 0 := by decide
  refine w65_6 ?_
  simp only [bI_0]
  grind
set_option maxRecDepth 20000 in
theorem w65_32 {σ : gS} {K : gK} {t x : Int32} (h : (0 ≤ t ∧ t < 20) ∧ (4 : Int32) ≠ 0 ∧ (4 : Int32) ≠ 0 ∧ (8 : Int32) ≠ 0 ∧ (gTv (32 + 2 + t.toNatClampNeg)) ∧ gTv (32 + 2 + t.toNatClampNeg) ∧ gTv (32 + 2 + t.toNatClampNeg) ∧ (((x - x / 4 * 4) = 0 → gTv (32 + 2 + t.toNatClampNeg) ∧ (((bI (isFwd (x / 4))) = 0 → K (some (.int (((4 * (cRel σ 32 (32 + 2 + t.toNatClampNeg) (x / 8))) - ((σ (32 + 2 + t.toNatClampNeg) 7) * (if ((x / 4) - (σ (32 + 2 + t.toNatClampNeg) 6)) < 0 then -((x / 4) - (σ (32 + 2 + t.toNatClampNeg) 6)) else ((x / 4) - (σ (32 + 2 + t.toNatClampNeg) 6))))) + (σ (32 + 2 + t.toNatClampNeg) 4)))) σ) ∧ (¬ (bI (isFwd (x / 4))) = 0 → gTv (32 + 2 + t.toNatClampNeg) ∧ K (some (.int ((((4 * (cRel σ 32 (32 + 2 + t.toNatClampNeg) (x / 8))) - ((σ (32 + 2 + t.toNatClampNeg) 7) * (if ((x / 4) - (σ (32 + 2 + t.toNatClampNeg) 6)) < 0 then -((x / 4) - (σ (32 + 2 + t.toNatClampNeg) 6)) else ((x / 4) - (σ (32 + 2 + t.toNatClampNeg) 6))))) + (σ (32 + 2 + t.toNatClampNeg) 4)) + (σ (32 + 2 + t.toNatClampNeg) 5)))) σ))) ∧ (¬ (x - x / 4 * 4) = 0 → ((¬ (x - x / 4 * 4) = 3 → (((bI (isFwd (x / 4))) = 0 → K (some (.int ((4 * (cRel σ 32 (32 + 2 + t.toNatClampNeg) (x / 8))) - ((σ (32 + 2 + t.toNatClampNeg) 7) * (if ((x / 4) - (σ (32 + 2 + t.toNatClampNeg) 6)) < 0 then -((x / 4) - (σ (32 + 2 + t.toNatClampNeg) 6)) else ((x / 4) - (σ (32 + 2 + t.toNatClampNeg) 6))))))) σ) ∧ (¬ (bI (isFwd (x / 4))) = 0 → gTv (32 + 2 + t.toNatClampNeg) ∧ K (some (.int (((4 * (cRel σ 32 (32 + 2 + t.toNatClampNeg) (x / 8))) - ((σ (32 + 2 + t.toNatClampNeg) 7) * (if ((x / 4) - (σ (32 + 2 + t.toNatClampNeg) 6)) < 0 then -((x / 4) - (σ (32 + 2 + t.toNatClampNeg) 6)) else ((x / 4) - (σ (32 + 2 + t.toNatClampNeg) 6))))) + (σ (32 + 2 + t.toNatClampNeg) 5)))) σ))) ∧ ((x - x / 4 * 4) = 3 → gTv (32 + 2 + t.toNatClampNeg) ∧ (((bI (isFwd (x / 4))) = 0 → K (some (.int (((4 * (cRel σ 32 (32 + 2 + t.toNatClampNeg) (x / 8))) - ((σ (32 + 2 + t.toNatClampNeg) 7) * (if ((x / 4) - (σ (32 + 2 + t.toNatClampNeg) 6)) < 0 then -((x / 4) - (σ (32 + 2 + t.toNatClampNeg) 6)) else ((x / 4) - (σ (32 + 2 + t.toNatClampNeg) 6))))) + (σ (32 + 2 + t.toNatClampNeg) 4)))) σ) ∧ (¬ (bI (isFwd (x / 4))) = 0 → gTv (32 + 2 + t.toNatClampNeg) ∧ K (some (.int ((((4 * (cRel σ 32 (32 + 2 + t.toNatClampNeg) (x / 8))) - ((σ (32 + 2 + t.toNatClampNeg) 7) * (if ((x / 4) - (σ (32 + 2 + t.toNatClampNeg) 6)) < 0 then -((x / 4) - (σ (32 + 2 + t.toNatClampNeg) 6)) else ((x / 4) - (σ (32 + 2 + t.toNatClampNeg) 6))))) + (σ (32 + 2 + t.toNatClampNeg) 4)) + (σ (32 + 2 + t.toNatClampNeg) 5)))) σ))))))) : gE 65 0 [some (.ref 32), some (.int t), some (.int x), none, none, none, none] [] σ K :=
  gw_run (cy := 65) (cuts := []) (inl := []) (pf := gpce) gpce_ok 400 (by decide) h
theorem s65_32 {σ : gS} {K : gK} {t x : Int32} (hc : ((0 ≤ t ∧ t < 20) ∧ t.toNatClampNeg < nM (cR σ 32)) ∧ (0 ≤ x ∧ x < 40) ∧ TC σ 32) (hK : K (some (.int (fJoy (cR σ 32) t.toNatClampNeg x))) σ) : gE 65 0 [some (.ref 32), some (.int t), some (.int x), none, none, none, none] [] σ K := by
  obtain ⟨⟨ht, htn⟩, hx, hT⟩ := hc
  have lt := n20 ht
  have ek := cRel_kin hT htn hx
  have tv := tv_32 _ lt
  have e3 := cR_f (σ := σ) (p := 32) (t := t.toNatClampNeg) (f := 3) lt (by decide)
  have e4 := cR_f (σ := σ) (p := 32) (t := t.toNatClampNeg) (f := 4) lt (by decide)
  have e5 := cR_f (σ := σ) (p := 32) (t := t.toNatClampNeg) (f := 5) lt (by decide)
  have e6 := cR_f (σ := σ) (p := 32) (t := t.toNatClampNeg) (f := 6) lt (by decide)
  unfold fJoy at hK
  rw [← ek, e3, e4, e5, e6] at hK
  have h8 : (8 : Int32) ≠ 0 := by decide
  have h4 : (4 : Int32) ≠ 0 := by decide
  refine w65_32 ?_
  simp only [bI_0]
  grind
noncomputable def f65 : gD := fun Lv σ => match Lv with
  | [some (.ref p), some (.int t), some (.int x), none, none, none, none] => cond (Nat.beq p 6 || Nat.beq p 32) (some (some (((0 ≤ t ∧ t < 20) ∧ t.toNatClampNeg < nM (cR σ p)) ∧ (0 ≤ x ∧ x < 40) ∧ TC σ p), some (.int (fJoy (cR σ p) t.toNatClampNeg x)), σ)) none
  | _ => none
theorem ok65 : gFok 65 f65 := by
  intro Lv σ q h hc K hK
  unfold f65 at h
  split at h
  · rename_i p t x
    obtain ⟨hb, h⟩ := c_no h
    have hb0 := hb
    rcases s_or hb0 with hb0 | hb0
    · have e := b_eq hb0
      subst e
      cases h
      exact s65_6 (hc _ rfl) hK
    · have e := b_eq hb0
      subst e
      cases h
      exact s65_32 (hc _ rfl) hK
  · cases h
noncomputable def gpcf_l : List (Nat × gD) := (65, f65) :: gpce_l
noncomputable def gpcf : gP := gpl0 gpcf_l
theorem gpcf_ok : gPok gpcf := gpl0_cons ok65 (gpce_ok)
set_option maxRecDepth 20000 in
theorem w66_6 {σ : gS} {K : gK} {t : Int32} (h : (0 ≤ t ∧ t < 20) ∧ gTv (6 + 2 + t.toNatClampNeg) ∧ (((0 ≤ t ∧ t < 20) ∧ t.toNatClampNeg < nM (cR σ 6)) ∧ (0 ≤ (σ (6 + 2 + t.toNatClampNeg) 1) ∧ (σ (6 + 2 + t.toNatClampNeg) 1) < 40) ∧ TC σ 6) ∧ K (some (.int (fJoy (cR σ 6) t.toNatClampNeg (σ (6 + 2 + t.toNatClampNeg) 1)))) σ) : gE 66 0 [some (.ref 6), some (.int t)] [] σ K :=
  gw_run (cy := 66) (cuts := []) (inl := []) (pf := gpcf) gpcf_ok 400 (by decide) h
theorem s66_6 {σ : gS} {K : gK} {t : Int32} (hc : ((0 ≤ t ∧ t < 20) ∧ t.toNatClampNeg < nM (cR σ 6)) ∧ TC σ 6) (hK : K (some (.int (fJo (cR σ 6) t.toNatClampNeg))) σ) : gE 66 0 [some (.ref 6), some (.int t)] [] σ K := by
  obtain ⟨⟨ht, htn⟩, hT⟩ := hc
  have lt := n20 ht
  have e0 := cR_f (σ := σ) (p := 6) (t := t.toNatClampNeg) (f := 0) lt (by decide)
  have hs := (hT.2.1 _ htn).2.1
  refine w66_6 ⟨ht, tv_6 _ lt, ?_⟩
  unfold fJo at hK
  rw [e0] at hs hK
  exact ⟨⟨⟨ht, htn⟩, hs, hT⟩, hK⟩
set_option maxRecDepth 20000 in
theorem w66_32 {σ : gS} {K : gK} {t : Int32} (h : (0 ≤ t ∧ t < 20) ∧ gTv (32 + 2 + t.toNatClampNeg) ∧ (((0 ≤ t ∧ t < 20) ∧ t.toNatClampNeg < nM (cR σ 32)) ∧ (0 ≤ (σ (32 + 2 + t.toNatClampNeg) 1) ∧ (σ (32 + 2 + t.toNatClampNeg) 1) < 40) ∧ TC σ 32) ∧ K (some (.int (fJoy (cR σ 32) t.toNatClampNeg (σ (32 + 2 + t.toNatClampNeg) 1)))) σ) : gE 66 0 [some (.ref 32), some (.int t)] [] σ K :=
  gw_run (cy := 66) (cuts := []) (inl := []) (pf := gpcf) gpcf_ok 400 (by decide) h
theorem s66_32 {σ : gS} {K : gK} {t : Int32} (hc : ((0 ≤ t ∧ t < 20) ∧ t.toNatClampNeg < nM (cR σ 32)) ∧ TC σ 32) (hK : K (some (.int (fJo (cR σ 32) t.toNatClampNeg))) σ) : gE 66 0 [some (.ref 32), some (.int t)] [] σ K := by
  obtain ⟨⟨ht, htn⟩, hT⟩ := hc
  have lt := n20 ht
  have e0 := cR_f (σ := σ) (p := 32) (t := t.toNatClampNeg) (f := 0) lt (by decide)
  have hs := (hT.2.1 _ htn).2.1
  refine w66_32 ⟨ht, tv_32 _ lt, ?_⟩
  unfold fJo at hK
  rw [e0] at hs hK
  exact ⟨⟨⟨ht, htn⟩, hs, hT⟩, hK⟩
noncomputable def f66 : gD := fun Lv σ => match Lv with
  | [some (.ref p), some (.int t)] => cond (Nat.beq p 6 || Nat.beq p 32) (some (some (((0 ≤ t ∧ t < 20) ∧ t.toNatClampNeg < nM (cR σ p)) ∧ TC σ p), some (.int (fJo (cR σ p) t.toNatClampNeg)), σ)) none
  | _ => none
theorem ok66 : gFok 66 f66 := by
  intro Lv σ q h hc K hK
  unfold f66 at h
  split at h
  · rename_i p t
    obtain ⟨hb, h⟩ := c_no h
    have hb0 := hb
    rcases s_or hb0 with hb0 | hb0
    · have e := b_eq hb0
      subst e
      cases h
      exact s66_6 (hc _ rfl) hK
    · have e := b_eq hb0
      subst e
      cases h
      exact s66_32 (hc _ rfl) hK
  · cases h
noncomputable def gpcg_l : List (Nat × gD) := (66, f66) :: gpcf_l
noncomputable def gpcg : gP := gpl0 gpcg_l
theorem gpcg_ok : gPok gpcg := gpl0_cons ok66 (gpcf_ok)
set_option maxRecDepth 20000 in
theorem w69_6 {σ : gS} {K : gK} (h : gE 69 4 [some (.ref 6), some (.int 0), some (.int 0)] [] σ K) : gE 69 0 [some (.ref 6), none, none] [] σ K :=
  gw_run (cy := 69) (cuts := [4]) (inl := []) (pf := gpcg) gpcg_ok 400 (by decide) h
set_option maxRecDepth 20000 in
theorem v69_6 {σ : gS} {K : gK} {s t : Int32} (h : ((¬ t < (σ 6 7) → K (some (.int s)) σ) ∧ (t < (σ 6 7) → (((0 ≤ t ∧ t < 20) ∧ t.toNatClampNeg < nM (cR σ 6)) ∧ TC σ 6) ∧ gE 69 4 [some (.ref 6), some (.int (s + (fJo (cR σ 6) t.toNatClampNeg))), some (.int (t + 1))] [] σ K))) : gE 69 4 [some (.ref 6), some (.int s), some (.int t)] [] σ K :=
  gw_run (cy := 69) (cuts := [4]) (inl := []) (pf := gpcg) gpcg_ok 400 (by decide) h
theorem s69_6 {σ : gS} {K : gK} (hc : TC σ 6) (hK : K (some (.int (fJa (cR σ 6)))) σ) : gE 69 0 [some (.ref 6), none, none] [] σ K := by
  have h3 := hc.1
  refine w69_6 ?_
  refine g_forI (nM (cR σ 6)) (fun k => [some (.ref 6), some (.int (sm (fJo (cR σ 6)) k)), some (.int (iN k))]) (fun _ => σ) (fun _ => True) (fun _ => ?_) (fun k hk _ ih => ?_) 0 (Nat.zero_le _) trivial
  · have hn := (nM_of h3).2
    refine v69_6 ⟨fun _ => hK, fun h => ?_⟩
    rw [← cR_3 σ 6, nM_lt h3 (by omega)] at h; omega
  · have hn := (nM_of h3).2
    have hk20 : k < 20 := by omega
    have ek : (iN k).toNatClampNeg = k := iN_nat (by omega)
    refine v69_6 ⟨fun h => ?_, fun h => ?_⟩
    · rw [← cR_3 σ 6, nM_lt h3 (by omega)] at h; omega
    · rw [ek, iN_one]
      exact ⟨⟨⟨b20 hk20, hk⟩, hc⟩, ih trivial⟩
set_option maxRecDepth 20000 in
theorem w69_32 {σ : gS} {K : gK} (h : gE 69 4 [some (.ref 32), some (.int 0), some (.int 0)] [] σ K) : gE 69 0 [some (.ref 32), none, none] [] σ K :=
  gw_run (cy := 69) (cuts := [4]) (inl := []) (pf := gpcg) gpcg_ok 400 (by decide) h
set_option maxRecDepth 20000 in
theorem v69_32 {σ : gS} {K : gK} {s t : Int32} (h : ((¬ t < (σ 32 7) → K (some (.int s)) σ) ∧ (t < (σ 32 7) → (((0 ≤ t ∧ t < 20) ∧ t.toNatClampNeg < nM (cR σ 32)) ∧ TC σ 32) ∧ gE 69 4 [some (.ref 32), some (.int (s + (fJo (cR σ 32) t.toNatClampNeg))), some (.int (t + 1))] [] σ K))) : gE 69 4 [some (.ref 32), some (.int s), some (.int t)] [] σ K :=
  gw_run (cy := 69) (cuts := [4]) (inl := []) (pf := gpcg) gpcg_ok 400 (by decide) h
theorem s69_32 {σ : gS} {K : gK} (hc : TC σ 32) (hK : K (some (.int (fJa (cR σ 32)))) σ) : gE 69 0 [some (.ref 32), none, none] [] σ K := by
  have h3 := hc.1
  refine w69_32 ?_
  refine g_forI (nM (cR σ 32)) (fun k => [some (.ref 32), some (.int (sm (fJo (cR σ 32)) k)), some (.int (iN k))]) (fun _ => σ) (fun _ => True) (fun _ => ?_) (fun k hk _ ih => ?_) 0 (Nat.zero_le _) trivial
  · have hn := (nM_of h3).2
    refine v69_32 ⟨fun _ => hK, fun h => ?_⟩
    rw [← cR_3 σ 32, nM_lt h3 (by omega)] at h; omega
  · have hn := (nM_of h3).2
    have hk20 : k < 20 := by omega
    have ek : (iN k).toNatClampNeg = k := iN_nat (by omega)
    refine v69_32 ⟨fun h => ?_, fun h => ?_⟩
    · rw [← cR_3 σ 32, nM_lt h3 (by omega)] at h; omega
    · rw [ek, iN_one]
      exact ⟨⟨⟨b20 hk20, hk⟩, hc⟩, ih trivial⟩
noncomputable def f69 : gD := fun Lv σ => match Lv with
  | [some (.ref p), none, none] => cond (Nat.beq p 6 || Nat.beq p 32) (some (some (TC σ p), some (.int (fJa (cR σ p))), σ)) none
  | _ => none
theorem ok69 : gFok 69 f69 := by
  intro Lv σ q h hc K hK
  unfold f69 at h
  split at h
  · rename_i p
    obtain ⟨hb, h⟩ := c_no h
    have hb0 := hb
    rcases s_or hb0 with hb0 | hb0
    · have e := b_eq hb0
      subst e
      cases h
      exact s69_6 (hc _ rfl) hK
    · have e := b_eq hb0
      subst e
      cases h
      exact s69_32 (hc _ rfl) hK
  · cases h
set_option maxRecDepth 20000 in
theorem w70_6 {σ : gS} {K : gK} (h : gE 70 4 [some (.ref 6), some (.int 0), some (.int 0)] [] σ K) : gE 70 0 [some (.ref 6), none, none] [] σ K :=
  gw_run (cy := 70) (cuts := [4]) (inl := []) (pf := gpcg) gpcg_ok 400 (by decide) h
set_option maxRecDepth 20000 in
theorem v70_6 {σ : gS} {K : gK} {s t : Int32} (h : ((¬ t < (σ 6 7) → K (some (.int s)) σ) ∧ (t < (σ 6 7) → (((0 ≤ t ∧ t < 20) ∧ t.toNatClampNeg < nM (cR σ 6)) ∧ TC σ 6) ∧ ((¬ (fJo (cR σ 6) t.toNatClampNeg) < 0 → gE 70 4 [some (.ref 6), some (.int s), some (.int (t + 1))] [] σ K) ∧ ((fJo (cR σ 6) t.toNatClampNeg) < 0 → gE 70 4 [some (.ref 6), some (.int (s + 1)), some (.int (t + 1))] [] σ K))))) : gE 70 4 [some (.ref 6), some (.int s), some (.int t)] [] σ K :=
  gw_run (cy := 70) (cuts := [4]) (inl := []) (pf := gpcg) gpcg_ok 400 (by decide) h
theorem s70_6 {σ : gS} {K : gK} (hc : TC σ 6) (hK : K (some (.int (fGr (cR σ 6)))) σ) : gE 70 0 [some (.ref 6), none, none] [] σ K := by
  have h3 := hc.1
  refine w70_6 ?_
  refine g_forI (nM (cR σ 6)) (fun k => [some (.ref 6), some (.int (iN (cnt (fun t => decide (fJo (cR σ 6) t < 0)) k))), some (.int (iN k))]) (fun _ => σ) (fun _ => True) (fun _ => ?_) (fun k hk _ ih => ?_) 0 (Nat.zero_le _) trivial
  · have hn := (nM_of h3).2
    refine v70_6 ⟨fun _ => hK, fun h => ?_⟩
    rw [← cR_3 σ 6, nM_lt h3 (by omega)] at h; omega
  · have hn := (nM_of h3).2
    have hk20 : k < 20 := by omega
    have ek : (iN k).toNatClampNeg = k := iN_nat (by omega)
    refine v70_6 ⟨fun h => ?_, fun h => ?_⟩
    · rw [← cR_3 σ 6, nM_lt h3 (by omega)] at h; omega
    · rw [ek, iN_one, iN_one]
      have ih := ih trivial
      refine ⟨⟨⟨b20 hk20, hk⟩, hc⟩, fun h => ?_, fun h => ?_⟩
      · rw [cnt_f (fun e => h (of_decide_eq_true e))] at ih
        exact ih
      · rw [cnt_t (decide_eq_true h)] at ih
        exact ih
set_option maxRecDepth 20000 in
theorem w70_32 {σ : gS} {K : gK} (h : gE 70 4 [some (.ref 32), some (.int 0), some (.int 0)] [] σ K) : gE 70 0 [some (.ref 32), none, none] [] σ K :=
  gw_run (cy := 70) (cuts := [4]) (inl := []) (pf := gpcg) gpcg_ok 400 (by decide) h
set_option maxRecDepth 20000 in
theorem v70_32 {σ : gS} {K : gK} {s t : Int32} (h : ((¬ t < (σ 32 7) → K (some (.int s)) σ) ∧ (t < (σ 32 7) → (((0 ≤ t ∧ t < 20) ∧ t.toNatClampNeg < nM (cR σ 32)) ∧ TC σ 32) ∧ ((¬ (fJo (cR σ 32) t.toNatClampNeg) < 0 → gE 70 4 [some (.ref 32), some (.int s), some (.int (t + 1))] [] σ K) ∧ ((fJo (cR σ 32) t.toNatClampNeg) < 0 → gE 70 4 [some (.ref 32), some (.int (s + 1)), some (.int (t + 1))] [] σ K))))) : gE 70 4 [some (.ref 32), some (.int s), some (.int t)] [] σ K :=
  gw_run (cy := 70) (cuts := [4]) (inl := []) (pf := gpcg) gpcg_ok 400 (by decide) h
theorem s70_32 {σ : gS} {K : gK} (hc : TC σ 32) (hK : K (some (.int (fGr (cR σ 32)))) σ) : gE 70 0 [some (.ref 32), none, none] [] σ K := by
  have h3 := hc.1
  refine w70_32 ?_
  refine g_forI (nM (cR σ 32)) (fun k => [some (.ref 32), some (.int (iN (cnt (fun t => decide (fJo (cR σ 32) t < 0)) k))), some (.int (iN k))]) (fun _ => σ) (fun _ => True) (fun _ => ?_) (fun k hk _ ih => ?_) 0 (Nat.zero_le _) trivial
  · have hn := (nM_of h3).2
    refine v70_32 ⟨fun _ => hK, fun h => ?_⟩
    rw [← cR_3 σ 32, nM_lt h3 (by omega)] at h; omega
  · have hn := (nM_of h3).2
    have hk20 : k < 20 := by omega
    have ek : (iN k).toNatClampNeg = k := iN_nat (by omega)
    refine v70_32 ⟨fun h => ?_, fun h => ?_⟩
    · rw [← cR_3 σ 32, nM_lt h3 (by omega)] at h; omega
    · rw [ek, iN_one, iN_one]
      have ih := ih trivial
      refine ⟨⟨⟨b20 hk20, hk⟩, hc⟩, fun h => ?_, fun h => ?_⟩
      · rw [cnt_f (fun e => h (of_decide_eq_true e))] at ih
        exact ih
      · rw [cnt_t (decide_eq_true h)] at ih
        exact ih
noncomputable def f70 : gD := fun Lv σ => match Lv with
  | [some (.ref p), none, none] => cond (Nat.beq p 6 || Nat.beq p 32) (some (some (TC σ p), some (.int (fGr (cR σ p))), σ)) none
  | _ => none
theorem ok70 : gFok 70 f70 := by
  intro Lv σ q h hc K hK
  unfold f70 at h
  split at h
  · rename_i p
    obtain ⟨hb, h⟩ := c_no h
    have hb0 := hb
    rcases s_or hb0 with hb0 | hb0
    · have e := b_eq hb0
      subst e
      cases h
      exact s70_6 (hc _ rfl) hK
    · have e := b_eq hb0
      subst e
      cases h
      exact s70_32 (hc _ rfl) hK
  · cases h
