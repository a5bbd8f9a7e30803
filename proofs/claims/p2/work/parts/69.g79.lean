-- text 79
/-! THE CLASS: whole numbers, likes, seats, names -/
theorem cNu_k {σ : gS} (h : ¬ cNu σ = -1) : σ 1 4 = 3 := by
  unfold cNu at h
  by_cases q : σ 1 4 = 3 ∧ ¬ 2 < σ 1 3 - σ 1 2
  · exact q.1
  · rw [if_neg q] at h; exact absurd rfl h
def cInt (σ : gS) (a b : Int32) : gS := cPs σ (bI (a ≤ cNu σ ∧ cNu σ ≤ b))
theorem cInt_RK {σ : gS} {a b : Int32} (h : RK σ) (ha : 0 ≤ a) : RK (cInt σ a b) := by
  refine cPs_RK h (fun q => ?_)
  have q := Decidable.not_not.mp (fun z => q (bI_0.mpr z))
  have k : ¬ cNu σ = -1 := fun e => by
    have := q.1
    rw [e] at this
    exact absurd (Int32.le_trans ha this) (by decide)
  rw [cNu_k k]
  decide
set_option maxRecDepth 20000 in
theorem w25 {σ : gS} {K : gK} {a b : Int32} (h : (RK σ) ∧ (((cNu σ) < a → (¬ (0 : Int32) = 0 → RD σ) ∧ K (some (.int (cNu σ))) (cPs σ (0 : Int32))) ∧ (¬ (cNu σ) < a → ((b < (cNu σ) → (¬ (0 : Int32) = 0 → RD σ) ∧ K (some (.int (cNu σ))) (cPs σ (0 : Int32))) ∧ (¬ b < (cNu σ) → (¬ (1 : Int32) = 0 → RD σ) ∧ K (some (.int (cNu σ))) (cPs σ (1 : Int32))))))) : gE 25 0 [some (.ref 1), some (.int a), some (.int b), none] [] σ K :=
  gw_run (cy := 25) (cuts := []) (inl := []) (pf := gpdo) gpdo_ok 400 (by decide) h
theorem s25 {σ : gS} {K : gK} {a b : Int32} (hc : RK σ ∧ 0 ≤ a) (hK : K (some (.int (cNu σ))) (cInt σ a b)) : gE 25 0 [some (.ref 1), some (.int a), some (.int b), none] [] σ K := by
  obtain ⟨hr, ha⟩ := hc
  unfold cInt at hK
  refine w25 ⟨hr, fun h => ⟨fun q => absurd rfl q, ?_⟩, fun h => ⟨fun h2 => ⟨fun q => absurd rfl q, ?_⟩, fun h2 => ⟨fun _ => hr.1.1.2 ?_, ?_⟩⟩⟩
  · rw [bI_n (fun q => absurd h (Int32.not_lt.mpr q.1))] at hK; exact hK
  · rw [bI_n (fun q => absurd h2 (Int32.not_lt.mpr q.2))] at hK; exact hK
  · have k : ¬ cNu σ = -1 := fun e => by
      have := Int32.not_lt.mp h
      rw [e] at this
      exact absurd (Int32.le_trans ha this) (by decide)
    rw [cNu_k k]
    decide
  · rw [bI_y ⟨Int32.not_lt.mp h, Int32.not_lt.mp h2⟩] at hK; exact hK
noncomputable def f25 : gD := fun Lv σ => match Lv with
  | [some (.ref q0), some (.int a), some (.int b), none] => cond (Nat.beq q0 1) (some (some (RK σ ∧ 0 ≤ a), some (.int (cNu σ)), cInt σ a b)) none
  | _ => none
theorem ok25 : gFok 25 f25 := by
  intro Lv σ q h hc K hK
  unfold f25 at h
  split at h
  · rename_i q0 a b
    obtain ⟨hb, h⟩ := c_no h
    have hb0 := hb
    have e0 := b_eq hb0
    subst e0
    cases h
    exact s25 (hc _ rfl) hK
  · cases h
set_option maxRecDepth 20000 in
theorem w28 {σ : gS} {K : gK} (h : (RW σ ∧ (0 ≤ σ 1 3 ∧ σ 1 3 ≤ 1001)) ∧ (RW σ) ∧ (¬ (bI (cNm σ)) = 0 → RD σ) ∧ K (some (.int (cPk (σ 3) (σ 2 1).toNatClampNeg (σ 1 2).toNatClampNeg (min ((σ 1 3).toNatClampNeg - (σ 1 2).toNatClampNeg) 5)))) (cPs σ (bI (cNm σ)))) : gE 28 0 [some (.ref 1), none] [] σ K :=
  gw_run (cy := 28) (cuts := []) (inl := []) (pf := gpdo) gpdo_ok 400 (by decide) h
theorem s28 {σ : gS} {K : gK} (hc : RK σ) (hK : K (some (.int (cPk (σ 3) (σ 2 1).toNatClampNeg (σ 1 2).toNatClampNeg (min ((σ 1 3).toNatClampNeg - (σ 1 2).toNatClampNeg) 5)))) (cPs σ (bI (cNm σ)))) : gE 28 0 [some (.ref 1), none] [] σ K := by
  refine w28 ⟨⟨hc.1.1.1, hc.1.2⟩, hc.1.1.1, fun h => hc.1.1.2 ?_, hK⟩
  have q : cNm σ := Decidable.not_not.mp (fun q => h (bI_0.mpr q))
  rw [q.1]
  decide
noncomputable def f28 : gD := fun Lv σ => match Lv with
  | [some (.ref q0), none] => cond (Nat.beq q0 1) (some (some (RK σ), some (.int (cPk (σ 3) (σ 2 1).toNatClampNeg (σ 1 2).toNatClampNeg (min ((σ 1 3).toNatClampNeg - (σ 1 2).toNatClampNeg) 5))), cPs σ (bI (cNm σ)))) none
  | _ => none
theorem ok28 : gFok 28 f28 := by
  intro Lv σ q h hc K hK
  unfold f28 at h
  split at h
  · rename_i q0
    obtain ⟨hb, h⟩ := c_no h
    have hb0 := hb
    have e0 := b_eq hb0
    subst e0
    cases h
    exact s28 (hc _ rfl) hK
  · cases h
noncomputable def gpdp_l : List (Nat × gD) := (25, f25) :: (28, f28) :: gpdo_l
noncomputable def gpdp : gP := gpl0 gpdp_l
theorem gpdp_ok : gPok gpdp := gpl0_cons ok25 (gpl0_cons ok28 (gpdo_ok))
/-- the byte the token begins with -/
abbrev cB0 (σ : gS) : Int32 := cBy (σ 3) (σ 2 1).toNatClampNeg (σ 1 2).toNatClampNeg
theorem RK_sg {σ : gS} {c : Int32} (h : RK σ) (hb : cB0 σ = c) (hc : ¬ cKd c = 0) : ¬ σ 1 4 = 0 := by
  have e : σ 1 4 = cKd (cB0 σ) := h.2
  rw [e, hb]; exact hc
/-- a like is taken -/
def cLkH (σ : gS) : gS := cPs σ (bI (cB0 σ = 45 ∨ cB0 σ = 43))
def cLik (σ : gS) : Int32 := if cB0 σ = 45 then -(cNu (cLkH σ)) else cNu (cLkH σ)
theorem cLkH_RK {σ : gS} (h : RK σ) : RK (cLkH σ) := by
  refine cPs_RK h (fun q => ?_)
  have q := Decidable.not_not.mp (fun z => q (bI_0.mpr z))
  rcases q with q | q
  · exact RK_sg h q (by decide)
  · exact RK_sg h q (by decide)
set_option maxRecDepth 20000 in
theorem w26 {σ : gS} {K : gK} (h : (RW σ) ∧ ((¬ (bI (cBy (σ 3) (σ 2 1).toNatClampNeg (σ 1 2).toNatClampNeg = (45 : Int32))) = 0 → (¬ (1 : Int32) = 0 → RD σ) ∧ (RK (cPs σ (1 : Int32)) ∧ 0 ≤ (0 : Int32)) ∧ (((bI (cBy (σ 3) (σ 2 1).toNatClampNeg (σ 1 2).toNatClampNeg = (45 : Int32))) = 0 → K (some (.int (cNu (cPs σ (1 : Int32))))) (cInt (cPs σ (1 : Int32)) (0 : Int32) (9 : Int32))) ∧ (¬ (bI (cBy (σ 3) (σ 2 1).toNatClampNeg (σ 1 2).toNatClampNeg = (45 : Int32))) = 0 → K (some (.int (-(cNu (cPs σ (1 : Int32)))))) (cInt (cPs σ (1 : Int32)) (0 : Int32) (9 : Int32))))) ∧ ((bI (cBy (σ 3) (σ 2 1).toNatClampNeg (σ 1 2).toNatClampNeg = (45 : Int32))) = 0 → (RW σ) ∧ (((bI (cBy (σ 3) (σ 2 1).toNatClampNeg (σ 1 2).toNatClampNeg = (43 : Int32))) = 0 → (¬ (0 : Int32) = 0 → RD σ) ∧ (RK (cPs σ (0 : Int32)) ∧ 0 ≤ (0 : Int32)) ∧ (((bI (cBy (σ 3) (σ 2 1).toNatClampNeg (σ 1 2).toNatClampNeg = (45 : Int32))) = 0 → K (some (.int (cNu (cPs σ (0 : Int32))))) (cInt (cPs σ (0 : Int32)) (0 : Int32) (9 : Int32))) ∧ (¬ (bI (cBy (σ 3) (σ 2 1).toNatClampNeg (σ 1 2).toNatClampNeg = (45 : Int32))) = 0 → K (some (.int (-(cNu (cPs σ (0 : Int32)))))) (cInt (cPs σ (0 : Int32)) (0 : Int32) (9 : Int32))))) ∧ (¬ (bI (cBy (σ 3) (σ 2 1).toNatClampNeg (σ 1 2).toNatClampNeg = (43 : Int32))) = 0 → (¬ (1 : Int32) = 0 → RD σ) ∧ (RK (cPs σ (1 : Int32)) ∧ 0 ≤ (0 : Int32)) ∧ (((bI (cBy (σ 3) (σ 2 1).toNatClampNeg (σ 1 2).toNatClampNeg = (45 : Int32))) = 0 → K (some (.int (cNu (cPs σ (1 : Int32))))) (cInt (cPs σ (1 : Int32)) (0 : Int32) (9 : Int32))) ∧ (¬ (bI (cBy (σ 3) (σ 2 1).toNatClampNeg (σ 1 2).toNatClampNeg = (45 : Int32))) = 0 → K (some (.int (-(cNu (cPs σ (1 : Int32)))))) (cInt (cPs σ (1 : Int32)) (0 : Int32) (9 : Int32))))))))) : gE 26 0 [some (.ref 1), none, none] [] σ K :=
  gw_run (cy := 26) (cuts := []) (inl := []) (pf := gpdp) gpdp_ok 400 (by decide) h
theorem s26 {σ : gS} {K : gK} (hc : RK σ) (hK : K (some (.int (cLik σ))) (cInt (cLkH σ) 0 9)) : gE 26 0 [some (.ref 1), none, none] [] σ K := by
  have kL := cLkH_RK hc
  unfold cLik at hK
  have z0 : (0 : Int32) ≤ 0 := by decide
  refine w26 ⟨hc.1.1.1, fun h => ?_, fun h => ?_⟩
  · have hb : cB0 σ = 45 := Decidable.not_not.mp (fun q => h (bI_0.mpr q))
    have e : cLkH σ = cPs σ 1 := by unfold cLkH; rw [bI_y (Or.inl hb)]
    rw [e] at hK kL
    rw [if_pos hb] at hK
    refine ⟨fun _ => hc.1.1.2 (RK_sg hc hb (by decide)), ⟨kL, z0⟩, fun q => absurd q h, fun _ => hK⟩
  · have hb : ¬ cB0 σ = 45 := bI_0.mp h
    rw [if_neg hb] at hK
    refine ⟨hc.1.1.1, fun h2 => ?_, fun h2 => ?_⟩
    · have hb2 : ¬ cB0 σ = 43 := bI_0.mp h2
      have e : cLkH σ = cPs σ 0 := by unfold cLkH; rw [bI_n (fun q => q.elim hb hb2)]
      rw [e] at hK kL
      exact ⟨fun q => absurd rfl q, ⟨kL, z0⟩, fun _ => hK, fun q => absurd h q⟩
    · have hb2 : cB0 σ = 43 := Decidable.not_not.mp (fun q => h2 (bI_0.mpr q))
      have e : cLkH σ = cPs σ 1 := by unfold cLkH; rw [bI_y (Or.inr hb2)]
      rw [e] at hK kL
      exact ⟨fun _ => hc.1.1.2 (RK_sg hc hb2 (by decide)), ⟨kL, z0⟩, fun _ => hK, fun q => absurd h q⟩
noncomputable def f26 : gD := fun Lv σ => match Lv with
  | [some (.ref q0), none, none] => cond (Nat.beq q0 1) (some (some (RK σ), some (.int (cLik σ)), cInt (cLkH σ) 0 9)) none
  | _ => none
theorem ok26 : gFok 26 f26 := by
  intro Lv σ q h hc K hK
  unfold f26 at h
  split at h
  · rename_i q0
    obtain ⟨hb, h⟩ := c_no h
    have hb0 := hb
    have e0 := b_eq hb0
    subst e0
    cases h
    exact s26 (hc _ rfl) hK
  · cases h
noncomputable def gpdq_l : List (Nat × gD) := (26, f26) :: gpdp_l
noncomputable def gpdq : gP := gpl0 gpdq_l
theorem gpdq_ok : gPok gpdq := gpl0_cons ok26 (gpdp_ok)
