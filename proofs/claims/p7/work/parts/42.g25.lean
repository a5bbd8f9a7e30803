-- text 25
/-! THE CLASS: sitting down, exchanging seats -/
noncomputable def gpch_l : List (Nat × gD) := (69, f69) :: (70, f70) :: gpcg_l
noncomputable def gpch : gP := gpl0 gpch_l
theorem gpch_ok : gPok gpch := gpl0_cons ok69 (gpl0_cons ok70 (gpcg_ok))
def cIx (σ : gS) (w : Nat) : Int32 := σ w 1 / 8 * 10 + σ w 3
def cCnt (σ : gS) (p w : Nat) (k : Int32) : gS := if 0 ≤ cIx σ w ∧ cIx σ w < 50 then gup σ (p + 23) (cIx σ w).toNatClampNeg (σ (p + 23) (cIx σ w).toNatClampNeg + k) else σ
def cSit (σ : gS) (p t : Nat) (x : Int32) : gS := cCnt (gup (cCnt σ p (p + 2 + t) (-1)) (p + 2 + t) 1 x) p (p + 2 + t) 1
def cExS (σ : gS) (p a b : Nat) : gS := cSit (cSit σ p a (σ (p + 2 + b) 1)) p b (σ (p + 2 + a) 1)
set_option maxRecDepth 20000 in
theorem w61_6 {σ : gS} {K : gK} {k : Int32} {w : Nat} (h : gTv w ∧ (8 : Int32) ≠ 0 ∧ gTv w ∧ ((((((σ w 1) / 8) * 10) + (σ w 3)) < 0 → K none σ) ∧ (¬ ((((σ w 1) / 8) * 10) + (σ w 3)) < 0 → ((¬ ((((σ w 1) / 8) * 10) + (σ w 3)) < 50 → K none σ) ∧ (((((σ w 1) / 8) * 10) + (σ w 3)) < 50 → (0 ≤ ((((σ w 1) / 8) * 10) + (σ w 3)) ∧ ((((σ w 1) / 8) * 10) + (σ w 3)) < 50) ∧ (0 ≤ ((((σ w 1) / 8) * 10) + (σ w 3)) ∧ ((((σ w 1) / 8) * 10) + (σ w 3)) < 50) ∧ K none (gup σ 29 ((((σ w 1) / 8) * 10) + (σ w 3)).toNatClampNeg ((σ 29 ((((σ w 1) / 8) * 10) + (σ w 3)).toNatClampNeg) + k))))))) : gE 61 0 [some (.ref 6), some (.ref w), some (.int k), none] [] σ K :=
  gw_run (cy := 61) (cuts := []) (inl := []) (pf := gpch) gpch_ok 400 (by decide) h
theorem s61_6 {σ : gS} {K : gK} {w : Nat} {k : Int32} (hc : gTv w) (hK : K none (cCnt σ 6 w k)) : gE 61 0 [some (.ref 6), some (.ref w), some (.int k), none] [] σ K := by
  unfold cCnt cIx at hK
  have h8 : (8 : Int32) ≠ 0 := by decide
  refine w61_6 ?_
  grind
set_option maxRecDepth 20000 in
theorem w61_32 {σ : gS} {K : gK} {k : Int32} {w : Nat} (h : gTv w ∧ (8 : Int32) ≠ 0 ∧ gTv w ∧ ((((((σ w 1) / 8) * 10) + (σ w 3)) < 0 → K none σ) ∧ (¬ ((((σ w 1) / 8) * 10) + (σ w 3)) < 0 → ((¬ ((((σ w 1) / 8) * 10) + (σ w 3)) < 50 → K none σ) ∧ (((((σ w 1) / 8) * 10) + (σ w 3)) < 50 → (0 ≤ ((((σ w 1) / 8) * 10) + (σ w 3)) ∧ ((((σ w 1) / 8) * 10) + (σ w 3)) < 50) ∧ (0 ≤ ((((σ w 1) / 8) * 10) + (σ w 3)) ∧ ((((σ w 1) / 8) * 10) + (σ w 3)) < 50) ∧ K none (gup σ 55 ((((σ w 1) / 8) * 10) + (σ w 3)).toNatClampNeg ((σ 55 ((((σ w 1) / 8) * 10) + (σ w 3)).toNatClampNeg) + k))))))) : gE 61 0 [some (.ref 32), some (.ref w), some (.int k), none] [] σ K :=
  gw_run (cy := 61) (cuts := []) (inl := []) (pf := gpch) gpch_ok 400 (by decide) h
theorem s61_32 {σ : gS} {K : gK} {w : Nat} {k : Int32} (hc : gTv w) (hK : K none (cCnt σ 32 w k)) : gE 61 0 [some (.ref 32), some (.ref w), some (.int k), none] [] σ K := by
  unfold cCnt cIx at hK
  have h8 : (8 : Int32) ≠ 0 := by decide
  refine w61_32 ?_
  grind
noncomputable def f61 : gD := fun Lv σ => match Lv with
  | [some (.ref p), some (.ref w), some (.int k), none] => cond (Nat.beq p 6 || Nat.beq p 32) (some (some (gTv w), none, cCnt σ p w k)) none
  | _ => none
theorem ok61 : gFok 61 f61 := by
  intro Lv σ q h hc K hK
  unfold f61 at h
  split at h
  · rename_i p w k
    obtain ⟨hb, h⟩ := c_no h
    have hb0 := hb
    rcases s_or hb0 with hb0 | hb0
    · have e := b_eq hb0
      subst e
      cases h
      exact s61_6 (hc _ rfl) hK
    · have e := b_eq hb0
      subst e
      cases h
      exact s61_32 (hc _ rfl) hK
  · cases h
