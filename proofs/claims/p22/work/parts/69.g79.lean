-- text 79
/-! THE CLASS: whole numbers, likes, seats, names -/
theorem cNu_k {σ : gS} (h : ¬ cNu σ = -1) : σ 1 4 = 3 := by
  unfold cNu at h
  by_cases q : σ 1 4 = 3 ∧ ¬ 2 < σ 1 3 - σ 1 2
  · exact q.1
  · rw [if_neg q] at h; exact absurd rfl h
def cInt (σ : gS) (a b : Int32) : gS := cPs σ (bI (a ≤ cNu σ ∧ cNu σ ≤ b))
theorem cInt_RK {σ : gS} {a b : Int32} (h : RK σ) (ha : 0 ≤ a) : RK (cInt σ a b) := by
  refine cPs_RK h (fun q => ?_)
  have q := Decidable.not_not.mp (fun z => q (bI_0.mpr z))
  have k : ¬ cNu σ = -1 := fun e => by
    have := q.1
    rw [e] at this
    exact absurd (Int32.le_trans ha this) (by decide)
  rw [cNu_k k]
  decide
set_option maxRecDepth 20000 in
theorem w25 {σ : gS} {K : gK} {a b : Int32} (h : (RK σ) ∧ (((cNu σ) < a → (¬ (0 : Int32) = 0 → RD σ) ∧ K (some (.int (cNu σ))) (cPs σ (0 : Int32))) ∧ (¬ (cNu σ) < a → ((b < (cNu σ) → (¬ (0 : Int32) = 0 → RD σ) ∧ K (some (.int (cNu σ))) (cPs σ (0 : Int32))) ∧ (¬ b < (cNu σ) → (¬ (1 : Int32) = 0 → RD σ) ∧ K (some (.int (cNu σ))) (cPs σ (1 : Int32))))))) : gE 25 0 [some (.ref 1), some (.int a), some (.int b), none] [] σ K :=
  gw_run (cy := 25) (cuts := []) (inl := []) (pf := gpdo) gpdo_ok 400 (by decide) h
theorem s25 {σ : gS} {K : gK} {a b : Int32} (hc : RK σ ∧ 0 ≤ a) (hK : K (some (.int (cNu σ))) (cInt σ a b)) : gE 25 0 [some (.ref 1), some (.int a), some (.int b), none] [] σ K := by
  obtain ⟨hr, ha⟩ := hc
  unfold cInt at hK
  refine w25 ⟨hr, fun h => ⟨fun q => absurd rfl q, ?_⟩, fun h => ⟨fun h2 => ⟨fun q => absurd rfl q, ?_⟩, fun h2 => ⟨fun _ => hr.1.1.2 ?_, ?_⟩⟩⟩
  · rw [bI_n (fun q => absurd h (Int32.not_lt.mpr q.1))] at hK; exact hK
  · rw [bI_n (fun q => absurd h2 (Int32.not_lt.mpr q.2))] at hK; exact hK
  · have k : ¬ cNu σ = -1 := fun e => by
      have := Int32.not_lt.mp h
      rw [e] at this
      exact absurd (Int32.le_trans ha this) (by decide)
    rw [cNu_k k]
    decide
  · rw [bI_y ⟨Int32.not_lt.mp h, Int32.not_lt.mp h2⟩] at hK; exact hK
noncomputable def f25 : gD := fun Lv σ => match Lv with
  | [some (.ref q0), some (.int a), some (.int b), none] => cond (Nat.beq q0 1) (some (some (RK σ ∧ 0 ≤ a), some (.int (cNu σ)), cInt σ a b)) none
  | _ => none
theorem ok25 : gFok 25 f25 := by
  intro Lv σ q h hc K hK
  unfold f25 at h
  split at h
  · rename_i q0 a b
    obtain ⟨hb, h⟩ := c_no h
    have hb0 := hb
    have e0 := b_eq hb0
    subst e0
    cases h
    exact s25 (hc _ rfl) hK
  · cases h
set_option maxRecDepth 20000 in
theorem w28 {σ : gS} {K : gK} (h : (RW σ ∧ (0 ≤ σ 1 3 ∧ σ 1 3 ≤ 1001)) ∧ (RW σ) ∧ (¬ (bI (cNm σ)) = 0 → RD σ) ∧ K (some (.int (cPk (σ 3) (σ 2 1).toNatClampNeg (σ 1 2).toNatClampNeg (min ((σ 1 3).toNatClampNeg - (σ 1 2).toNatClampNeg) 5)))) (cPs σ (bI (cNm σ)))) : gE 28 0 [some (.ref 1), none] [] σ K :=
  gw_run (cy := 28) (cuts := []) (inl := []) (pf := gpdo) gpdo_ok 400 (by decide) h
theorem s28 {σ : gS} {K : gK} (hc : RK σ) (hK : K (some (.int (cPk (σ 3) (σ 2 1).toNatClampNeg (σ 1 2).toNatClampNeg (min ((σ 1 3).toNatClampNeg - (σ 1 2).toNatClampNeg) 5)))) (cPs σ (bI (cNm σ)))) : gE 28 0 [some (.ref 1), none] [] σ K := by
  refine w28 ⟨⟨hc.1.1.1, hc.1.2⟩, hc.1.1.1, fun h => hc.1.1.2 ?_, hK⟩
  have q : cNm σ := Decidable.not_not.mp (fun q => h (bI_0.mpr q))
  rw [q.1]
  decide
noncomputable def f28 : gD := fun Lv σ => match Lv with
  | [some (.ref q0), none] => cond (Nat.beq q0 1) (some (some (RK σ), some (.int (cPk (σ 3) (σ 2 1).toNatClampNeg (σ 1 2).toNatClampNeg (min ((σ 1 3).toNatClampNeg - (σ 1 2).toNatClampNeg) 5))), cPs σ (bI (cNm σ)))) none
  | _ => none
theorem ok28 : gFok 28 f28 := by
  intro Lv σ q h hc K hK
  unfold f28 at h
  split at h
  · rename_i q0
    obtain ⟨hb, h⟩ := c_no h
    have hb0 := hb
    have e0 := b_eq hb0
    subst e0
    cases h
    exact s28 (hc _ rfl) hK
  · cases h
noncomputable def gpdp_l : List (Nat × gD) := (25, f25) :: (28, f28) :: gpdo_l
noncomputable def gpdp : gP := gpl0 gpdp_l
theorem gpdp_ok : gPok gpdp := gpl0_cons ok25 (gpl0_cons ok28 (gpdo_ok))
/-- the byte the token begins with -/
abbrev cB0 (σ : gS) : Int32 := cBy (σ 3) (σ 2 1).toNatClampNeg (σ 1 2).toNatClampNeg
theorem RK_sg {σ : gS} {c : Int32} (h : RK σ) (hb : cB0 σ = c) (hc : ¬ cKd c = 0) : ¬ σ 1 4 = 0 := by
  have e : σ 1 4 = cKd (cB0 σ) := h.2
  rw [e, hb]; exact hc
/-- a like is taken -/
def cLkH (σ : gS) : gS := cPs σ (bI (cB0 σ = 45 ∨ cB0 σ = 43))
def cLik (σ : gS) : Int32 := if cB0 σ = 45 then -(cNu (cLkH σ)) else cNu (cLkH σ)
theorem cLkH_RK {σ : gS} (h : RK σ) : RK (cLkH σ) := by
  refine cPs_RK h (fun q => ?_)
  have q := Decidable.not_not.mp (fun z => q (bI_0.mpr z))
  rcases q with q | q
  · exact RK_sg h q (by decide)
  · exact RK_sg h q (by decide)
set_option maxRecDepth 20000 in
theorem w26 {σ : gS} {K : gK} (h : (RW σ) ∧ ((¬ (bI (cBy (σ 3) (σ 2 1).toNatClampNeg (σ 1 2).toNatClampNeg = (45 : Int32))) = 0 → (¬ (1 : Int32) = 0 → RD σ) ∧ (RK (cPs σ (1 : Int32)) ∧ 0 ≤ (0 : Int32)) ∧ (((bI (cBy (σ 3) (σ 2 1).toNatClampNeg (σ 1 2).toNatClampNeg = (45 : Int32))) = 0 → K (some (.int (cNu (cPs σ (1 : Int32))))) (cInt (cPs σ (1 : Int32)) (0 : Int32) (9 : Int32))) ∧ (¬ (bI (cBy (σ 3) (σ 2 1).toNatClampNeg (σ 1 2).toNatClampNeg = (45 : Int32))) = 0 → K (some (.int (-(cNu (cPs σ (1 : Int32)))))) (cInt (cPs σ (1 : Int32)) (0 : Int32) (9 : Int32))))) ∧ ((bI (cBy (σ 3) (σ 2 1).toNatClampNeg (σ 1 2).toNatClampNeg = (45 : Int32))) = 0 → (RW σ) ∧ (((bI (cBy (σ 3) (σ 2 1).toNatClampNeg (σ 1 2).toNatClampNeg = (43 : Int32))) = 0 → (¬ (0 : Int32) = 0 → RD σ) ∧ (RK (cPs σ (0 : Int32)) ∧ 0 ≤ (0 : Int32)) ∧ (((bI (cBy (σ 3) (σ 2 1).toNatClampNeg (σ 1 2).toNatClampNeg = (45 : Int32))) = 0 → K (some (.int (cNu (cPs σ (0 : Int32))))) (cInt (cPs σ (0 : Int32)) (0 : Int32) (9 : Int32))) ∧ (¬ (bI (cBy (σ 3) (σ 2 1).toNatClampNeg (σ 1 2).toNatClampNeg = (45 : Int32))) = 0 → K (some (.int (-(cNu (cPs σ (0 : Int32)))))) (cInt (cPs σ (0 : Int32)) (0 : Int32) (9 : Int32))))) ∧ (¬ (bI (cBy (σ 3) (σ 2 1).toNatClampNeg (σ 1 2).toNatClampNeg = (43 : Int32))) = 0 → (¬ (1 : Int32) = 0 → RD σ) ∧ (RK (cPs σ (1 : Int32)) ∧ 0 ≤ (0 : Int32)) ∧ (((bI (cBy (σ 3) (σ 2 1).toNatClampNeg (σ 1 2).toNatClampNeg = (45 : Int32))) = 0 → K (some (.int (cNu (cPs σ (1 : Int32))))) (cInt (cPs σ (1 : Int32)) (0 : Int32) (9 : Int32))) ∧ (¬ (bI (cBy (σ 3) (σ 2 1).toNatClampNeg (σ 1 2).toNatClampNeg = (45 : Int32))) = 0 → K (some (.int (-(cNu (cPs σ (1 : Int32)))))) (cInt (cPs σ (1 : Int32)) (0 : Int32) (9 : Int32))))))))) : gE 26 0 [some (.ref 1), none, none] [] σ K :=
  gw_run (cy := 26) (cuts := []) (inl := []) (pf := gpdp) gpdp_ok 400 (by decide) h
theorem s26 {σ : gS} {K : gK} (hc : RK σ) (hK : K (some (.int (cLik σ))) (cInt (cLkH σ) 0 9)) : gE 26 0 [some (.ref 1), none, none] [] σ K := by
  have kL := cLkH_RK hc
  unfold cLik at hK
  have z0 : (0 : Int32) ≤ 0 := by decide
  refine w26 ⟨hc.1.1.1, fun h => ?_, fun h => ?_⟩
  · have hb : cB0 σ = 45 := Decidable.not_not.mp (fun q => h (bI_0.mpr q))
    have e : cLkH σ = cPs σ 1 := by unfold cLkH; rw [bI_y (Or.inl hb)]
    rw [e] at hK kL
    rw [if_pos hb] at hK
    refine ⟨fun _ => hc.1.1.2 (RK_sg hc hb (by decide)), ⟨kL, z0⟩, fun q => absurd q h, fun _ => hK⟩
  · have hb : ¬ cB0 σ = 45 := bI_0.mp h
    rw [if_neg hb] at hK
    refine ⟨hc.1.1.1, fun h2 => ?_, fun h2 => ?_⟩
    · have hb2 : ¬ cB0 σ = 43 := bI_0.mp h2
      have e : cLkH σ = cPs σ 0 := by unfold cLkH; rw [bI_n (fun q => q.elim hb hb2)]
      rw [e] at hK kL
      exact ⟨fun q => absurd rfl q, ⟨kL, z0⟩, fun _ => hK, fun q => absurd h q⟩
    · have hb2 : cB0 σ = 43 := Decidable.not_not.mp (fun q => h2 (bI_0.mpr q))
      have e : cLkH σ = cPs σ 1 := by unfold cLkH; rw [bI_y (Or.inr hb2)]
      rw [e] at hK kL
      exact ⟨fun _ => hc.1.1.2 (RK_sg hc hb2 (by decide)), ⟨kL, z0⟩, fun _ => hK, fun q => absurd h q⟩
noncomputable def f26 : gD := fun Lv σ => match Lv with
  | [some (.ref q0), none, none] => cond (Nat.beq q0 1) (some (some (RK σ), some (.int (cLik σ)), cInt (cLkH σ) 0 9)) none
  | _ => none
theorem ok26 : gFok 26 f26 := by
  intro Lv σ q h hc K hK
  unfold f26 at h
  split at h
  · rename_i q0
    obtain ⟨hb, h⟩ := c_no h
    have hb0 := hb
    have e0 := b_eq hb0
    subst e0
    cases h
    exact s26 (hc _ rfl) hK
  · cases h
noncomputable def gpdq_l : List (Nat × gD) := (26, f26) :: gpdp_l
noncomputable def gpdq : gP := gpl0 gpdq_l
theorem gpdq_ok : gPok gpdq := gpl0_cons ok26 (gpdp_ok)
-- text 80
/-! THE CLASS: a free seat, an empty train -/
/-- the seat told is free, or the reader is wrong -/
def cFs (σ : gS) : gS := if σ 1 5 = 0 ∧ fWho (cR σ 32) (cNu σ) = -2 then σ else gup σ 1 5 1
theorem cFs_RK {σ : gS} (h : RK σ) : RK (cFs σ) := by
  unfold cFs
  split
  · exact h
  · exact RK_w h
theorem cFs_ne {σ : gS} {q j : Nat} (h : ¬ (q = 1 ∧ j = 5)) : cFs σ q j = σ q j := by
  unfold cFs
  split
  · rfl
  · exact gup_ne h
set_option maxRecDepth 20000 in
theorem w27 {σ : gS} {K : gK} (h : ((¬ (σ 1 5) = 0 → ((1 : Int32) = 0 ∨ (1 : Int32) = 1) ∧ (RK (gup σ 1 5 1) ∧ 0 ≤ (0 : Int32)) ∧ K (some (.int (cNu (gup σ 1 5 1)))) (cInt (gup σ 1 5 1) (0 : Int32) (((gup σ 1 5 1) 32 4 * 4) - 1))) ∧ ((σ 1 5) = 0 → (RK σ) ∧ (0 ≤ σ 32 7 ∧ σ 32 7 ≤ 20) ∧ ((¬ (bI (fWho (cR σ 32) (cNu σ) = -2)) = 0 → ((0 : Int32) = 0 ∨ (0 : Int32) = 1) ∧ (RK (gup σ 1 5 0) ∧ 0 ≤ (0 : Int32)) ∧ K (some (.int (cNu (gup σ 1 5 0)))) (cInt (gup σ 1 5 0) (0 : Int32) (((gup σ 1 5 0) 32 4 * 4) - 1))) ∧ ((bI (fWho (cR σ 32) (cNu σ) = -2)) = 0 → ((1 : Int32) = 0 ∨ (1 : Int32) = 1) ∧ (RK (gup σ 1 5 1) ∧ 0 ≤ (0 : Int32)) ∧ K (some (.int (cNu (gup σ 1 5 1)))) (cInt (gup σ 1 5 1) (0 : Int32) (((gup σ 1 5 1) 32 4 * 4) - 1))))))) : gE 27 0 [some (.ref 1), some (.ref 32)] [] σ K :=
  gw_run (cy := 27) (cuts := []) (inl := []) (pf := gpdq) gpdq_ok 400 (by decide) h
theorem s27 {σ : gS} {K : gK} (hc : RK σ ∧ (0 ≤ σ 32 7 ∧ σ 32 7 ≤ 20)) (hK : K (some (.int (cNu (cFs σ)))) (cInt (cFs σ) 0 (σ 32 4 * 4 - 1))) : gE 27 0 [some (.ref 1), some (.ref 32)] [] σ K := by
  obtain ⟨hr, h7⟩ := hc
  have z0 : (0 : Int32) ≤ 0 := by decide
  have g1 : gup σ 1 5 1 32 4 = σ 32 4 := gup_ne (by omega)
  have g0 : gup σ 1 5 0 32 4 = σ 32 4 := gup_ne (by omega)
  rw [show cFs σ = if σ 1 5 = 0 ∧ fWho (cR σ 32) (cNu σ) = -2 then σ else gup σ 1 5 1 from rfl] at hK
  refine w27 ?_
  rw [g1, g0]
  refine ⟨fun h => ⟨Or.inr rfl, ⟨RK_w hr, z0⟩, ?_⟩, fun h => ⟨hr, h7, fun h2 => ⟨Or.inl rfl, ?_, ?_⟩, fun h2 => ⟨Or.inr rfl, ⟨RK_w hr, z0⟩, ?_⟩⟩⟩
  · rw [if_neg (fun q => h q.1)] at hK; exact hK
  · rw [gup_id h]; exact ⟨hr, z0⟩
  · have q : fWho (cR σ 32) (cNu σ) = -2 := Decidable.not_not.mp (fun q => h2 (bI_0.mpr q))
    rw [if_pos ⟨h, q⟩] at hK
    rw [gup_id h]; exact hK
  · have q := bI_0.mp h2
    rw [if_neg (fun z => q z.2)] at hK; exact hK
noncomputable def f27 : gD := fun Lv σ => match Lv with
  | [some (.ref q0), some (.ref q1)] => cond ((Nat.beq q0 1) && (Nat.beq q1 32)) (some (some (RK σ ∧ (0 ≤ σ 32 7 ∧ σ 32 7 ≤ 20)), some (.int (cNu (cFs σ))), cInt (cFs σ) 0 (σ 32 4 * 4 - 1))) none
  | _ => none
theorem ok27 : gFok 27 f27 := by
  intro Lv σ q h hc K hK
  unfold f27 at h
  split at h
  · rename_i q0 q1
    obtain ⟨hb, h⟩ := c_no h
    obtain ⟨hc1, hb1⟩ := s_and hb
    have hb0 := hc1
    have e0 := b_eq hb0
    subst e0
    have e1 := b_eq hb1
    subst e1
    cases h
    exact s27 (hc _ rfl) hK
  · cases h
set_option maxRecDepth 20000 in
theorem w1 {σ : gS} {K : gK} (h : K none (gup (gup σ 56 1 0) 56 2 0)) : gE 1 0 [some (.ref 56)] [] σ K :=
  gw_run (cy := 1) (cuts := []) (inl := []) (pf := gpdq) gpdq_ok 400 (by decide) h
theorem s1 {σ : gS} {K : gK} (hK : K none (gup (gup σ 56 1 0) 56 2 0)) : gE 1 0 [some (.ref 56)] [] σ K := by
  exact w1 hK
noncomputable def f1 : gD := fun Lv σ => match Lv with
  | [some (.ref q0)] => cond (Nat.beq q0 56) (some (none, none, gup (gup σ 56 1 0) 56 2 0)) none
  | _ => none
theorem ok1 : gFok 1 f1 := by
  intro Lv σ q h hc K hK
  unfold f1 at h
  split at h
  · rename_i q0
    obtain ⟨hb, h⟩ := c_no h
    have hb0 := hb
    have e0 := b_eq hb0
    subst e0
    cases h
    exact s1 hK
  · cases h
noncomputable def gpdr_l : List (Nat × gD) := (27, f27) :: (1, f1) :: gpdq_l
noncomputable def gpdr : gP := gpl0 gpdr_l
theorem gpdr_ok : gPok gpdr := gpl0_cons ok27 (gpl0_cons ok1 (gpdq_ok))
def cZk (σ : gS) (k : Nat) : gS := fun q j => if q = 55 ∧ j < k then 0 else σ q j
theorem cZk_s (σ : gS) (k : Nat) : gup (cZk σ k) 55 k 0 = cZk σ (k + 1) := by
  funext q j
  unfold gup cZk
  grind
/-- an empty train -/
def cClT (σ : gS) : gS := fun q j => if q = 55 ∧ j < 50 then 0 else if q = 56 ∧ (j = 1 ∨ j = 2) then 0 else if q = 32 ∧ 5 ≤ j ∧ j ≤ 12 then 0 else σ q j
set_option maxRecDepth 20000 in
theorem w47 {σ : gS} {K : gK} (h : gE 47 2 [some (.ref 32), some (.int 0)] [] σ K) : gE 47 0 [some (.ref 32), none] [] σ K :=
  gw_run (cy := 47) (cuts := [2]) (inl := []) (pf := gpdr) gpdr_ok 400 (by decide) h
set_option maxRecDepth 20000 in
theorem v47 {σ : gS} {K : gK} {k : Int32} (h : ((¬ k < 50 → K none (gup (gup (gup (gup (gup (gup (gup (gup (gup (gup σ 56 1 0) 56 2 0) 32 5 0) 32 6 0) 32 7 0) 32 8 0) 32 9 0) 32 10 0) 32 11 0) 32 12 0)) ∧ (k < 50 → (0 ≤ k ∧ k < 50) ∧ gE 47 2 [some (.ref 32), some (.int (k + 1))] [] (gup σ 55 k.toNatClampNeg 0) K))) : gE 47 2 [some (.ref 32), some (.int k)] [] σ K :=
  gw_run (cy := 47) (cuts := [2]) (inl := []) (pf := gpdr) gpdr_ok 400 (by decide) h
theorem s47 {σ : gS} {K : gK} (hK : K none (cClT σ)) : gE 47 0 [some (.ref 32), none] [] σ K := by
  refine w47 ?_
  have key : ∀ d k, k + d = 50 → gE 47 2 [some (.ref 32), some (.int (iN k))] [] (cZk σ k) K := by
    intro d
    induction d with
    | zero =>
      intro k hk
      have : k = 50 := by omega
      subst this
      refine v47 ⟨fun _ => ?_, fun h => absurd h (by decide)⟩
      have e : gup (gup (gup (gup (gup (gup (gup (gup (gup (gup (cZk σ 50) 56 1 0) 56 2 0) 32 5 0) 32 6 0) 32 7 0) 32 8 0) 32 9 0) 32 10 0) 32 11 0) 32 12 0 = cClT σ := by
        funext q j
        unfold gup cZk cClT
        grind (splits := 60)
      rw [e]
      exact hK
    | succ d ih =>
      intro k hk
      refine v47 ⟨fun h => absurd ((iN_lt (k := k) (m := 50) (by omega) (by decide)).mpr (by omega)) h, fun _ => ⟨⟨(iN_le (k := 0) (by decide) (by omega)).mpr (by omega), (iN_lt (m := 50) (by omega) (by decide)).mpr (by omega)⟩, ?_⟩⟩
      rw [iN_nat (by omega), cZk_s, iN_one]
      exact ih (k + 1) (by omega)
  have e0 : cZk σ 0 = σ := by
    funext q j
    unfold cZk
    rw [if_neg (by omega)]
  have := key 50 0 (by omega)
  rw [e0] at this
  exact this
noncomputable def f47 : gD := fun Lv σ => match Lv with
  | [some (.ref q0), none] => cond (Nat.beq q0 32) (some (none, none, cClT σ)) none
  | _ => none
theorem ok47 : gFok 47 f47 := by
  intro Lv σ q h hc K hK
  unfold f47 at h
  split at h
  · rename_i q0
    obtain ⟨hb, h⟩ := c_no h
    have hb0 := hb
    have e0 := b_eq hb0
    subst e0
    cases h
    exact s47 hK
  · cases h
noncomputable def gpds_l : List (Nat × gD) := (47, f47) :: gpdr_l
noncomputable def gpds : gP := gpl0 gpds_l
theorem gpds_ok : gPok gpds := gpl0_cons ok47 (gpdr_ok)
