/-- a traveller of the train -/
abbrev isN (σ : gS) (p : Nat) (t : Int32) : Prop := (0 ≤ t ∧ t < 20) ∧ t.toNatClampNeg < nM (cR σ p)
theorem fWho_c (R : gW) (x : Int32) (h : 0 ≤ R 3 ∧ R 3 ≤ 20) : fWho R x = -2 ∨ 0 ≤ fWho R x := by
  have hn := (nM_of h).2
  unfold fWho
  generalize nM R = n at hn
  induction n with
  | zero => exact Or.inl rfl
  | succ n ih =>
    unfold fnd
    by_cases e : fnd (fun t => decide (fld R t 0 = x)) n = -2
    · rw [if_pos e]
      split
      · exact Or.inr ((iN_le (k := 0) (by decide) (by omega)).mpr (by omega))
      · exact Or.inl rfl
    · rw [if_neg e]
      exact ih (by omega)
set_option maxRecDepth 20000 in
theorem w84_6 {σ : gS} {K : gK} {a b : Int32} (h : (0 ≤ a ∧ a < 20) ∧ gTv (6 + 2 + a.toNatClampNeg) ∧ (0 ≤ b ∧ b < 20) ∧ gTv (6 + 2 + b.toNatClampNeg) ∧ (0 ≤ a ∧ a < 20) ∧ (0 ≤ b ∧ b < 20) ∧ K none (cSit (cSit σ 6 a.toNatClampNeg (σ (6 + 2 + b.toNatClampNeg) 1)) 6 b.toNatClampNeg (σ (6 + 2 + a.toNatClampNeg) 1))) : gE 84 0 [some (.ref 6), some (.int a), some (.int b), none] [] σ K :=
  gw_run (cy := 84) (cuts := []) (inl := []) (pf := gpcj) gpcj_ok 400 (by decide) h
theorem s84_6 {σ : gS} {K : gK} {a b : Int32} (hc : (0 ≤ a ∧ a < 20) ∧ (0 ≤ b ∧ b < 20)) (hK : K none (cExS σ 6 a.toNatClampNeg b.toNatClampNeg)) : gE 84 0 [some (.ref 6), some (.int a), some (.int b), none] [] σ K := by
  obtain ⟨ha, hb⟩ := hc
  exact w84_6 ⟨ha, tv_6 _ (n20 ha), hb, tv_6 _ (n20 hb), ha, hb, hK⟩
set_option maxRecDepth 20000 in
theorem w84_32 {σ : gS} {K : gK} {a b : Int32} (h : (0 ≤ a ∧ a < 20) ∧ gTv (32 + 2 + a.toNatClampNeg) ∧ (0 ≤ b ∧ b < 20) ∧ gTv (32 + 2 + b.toNatClampNeg) ∧ (0 ≤ a ∧ a < 20) ∧ (0 ≤ b ∧ b < 20) ∧ K none (cSit (cSit σ 32 a.toNatClampNeg (σ (32 + 2 + b.toNatClampNeg) 1)) 32 b.toNatClampNeg (σ (32 + 2 + a.toNatClampNeg) 1))) : gE 84 0 [some (.ref 32), some (.int a), some (.int b), none] [] σ K :=
  gw_run (cy := 84) (cuts := []) (inl := []) (pf := gpcj) gpcj_ok 400 (by decide) h
theorem s84_32 {σ : gS} {K : gK} {a b : Int32} (hc : (0 ≤ a ∧ a < 20) ∧ (0 ≤ b ∧ b < 20)) (hK : K none (cExS σ 32 a.toNatClampNeg b.toNatClampNeg)) : gE 84 0 [some (.ref 32), some (.int a), some (.int b), none] [] σ K := by
  obtain ⟨ha, hb⟩ := hc
  exact w84_32 ⟨ha, tv_32 _ (n20 ha), hb, tv_32 _ (n20 hb), ha, hb, hK⟩
noncomputable def f84 : gD := fun Lv σ => match Lv with
  | [some (.ref p), some (.int a), some (.int b), none] => cond (Nat.beq p 6 || Nat.beq p 32) (some (some ((0 ≤ a ∧ a < 20) ∧ (0 ≤ b ∧ b < 20)), none, cExS σ p a.toNatClampNeg b.toNatClampNeg)) none
  | _ => none
