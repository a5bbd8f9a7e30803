-- text 87
/-! THE CLASS: load -/
set_option maxRecDepth 20000 in
theorem w110 {σ : gS} {K : gK} (h : (0 ≤ σ 2 1 ∧ σ 2 1 ≤ 1000) ∧ gE 110 12 [some (.ref 0), some (.int (bI (cSet σ 1 4 = 0 ∧ cSet σ 1 5 = 0))), none] [] (cSet σ) K) : gE 110 0 [some (.ref 0), none, none] [] σ K :=
  gw_run (cy := 110) (cuts := [12, 46, 57, 59, 77]) (inl := []) (pf := gpdu) gpdu_ok 400 (by decide) h
set_option maxRecDepth 20000 in
theorem c110_12 {σ : gS} {K : gK} {l1 : Int32} (h : ((l1 = 0 → ((¬ l1 = 0 → gE 110 46 [some (.ref 0), some (.int l1), none] [] (gup (gup σ 0 9 (σ 1 2)) 2 1 0) K) ∧ (l1 = 0 → K (some (.int (-1))) (gup (gup σ 0 9 (σ 1 2)) 2 1 0)))) ∧ (¬ l1 = 0 → ((¬ l1 = 0 → gE 110 46 [some (.ref 0), some (.int l1), none] [] (gup (gup σ 0 9 (-2)) 2 1 0) K) ∧ (l1 = 0 → K (some (.int (-1))) (gup (gup σ 0 9 (-2)) 2 1 0)))))) : gE 110 12 [some (.ref 0), some (.int l1), none] [] σ K :=
  gw_run (cy := 110) (cuts := [12, 46, 57, 59, 77]) (inl := []) (pf := gpdu) gpdu_ok 400 (by decide) h
set_option maxRecDepth 20000 in
theorem c110_46 {σ : gS} {K : gK} {l1 : Int32} (h : (0 ≤ σ 32 7 ∧ σ 32 7 ≤ 20) ∧ gE 110 57 [some (.ref 0), some (.int l1), none] [] (cCo σ 6 32) K) : gE 110 46 [some (.ref 0), some (.int l1), none] [] σ K :=
  gw_run (cy := 110) (cuts := [12, 46, 57, 59, 77]) (inl := []) (pf := gpdu) gpdu_ok 400 (by decide) h
set_option maxRecDepth 20000 in
theorem c110_57 {σ : gS} {K : gK} {l1 : Int32} (h : gE 110 59 [some (.ref 0), some (.int l1), some (.int 0)] [] σ K) : gE 110 57 [some (.ref 0), some (.int l1), none] [] σ K :=
  gw_run (cy := 110) (cuts := [12, 46, 57, 59, 77]) (inl := []) (pf := gpdu) gpdu_ok 400 (by decide) h
set_option maxRecDepth 20000 in
theorem c110_59 {σ : gS} {K : gK} {l1 l2 : Int32} (h : ((¬ l2 < 2 → gE 110 77 [some (.ref 0), some (.int l1), some (.int l2)] [] σ K) ∧ (l2 < 2 → ((0 ≤ l2 ∧ l2 < 2) ∧ ((0 : Int32) = 0 ∨ (0 : Int32) = 1)) ∧ gE 110 59 [some (.ref 0), some (.int l1), some (.int (l2 + 1))] [] (gup σ 112 l2.toNatClampNeg 0) K))) : gE 110 59 [some (.ref 0), some (.int l1), some (.int l2)] [] σ K :=
  gw_run (cy := 110) (cuts := [12, 46, 57, 59, 77]) (inl := []) (pf := gpdu) gpdu_ok 400 (by decide) h
set_option maxRecDepth 20000 in
theorem c110_77 {σ : gS} {K : gK} {l1 l2 : Int32} (h : K (some (.int ((gup σ 113 2 0) 6 7))) (gup σ 113 2 0)) : gE 110 77 [some (.ref 0), some (.int l1), some (.int l2)] [] σ K :=
  gw_run (cy := 110) (cuts := [12, 46, 57, 59, 77]) (inl := []) (pf := gpdu) gpdu_ok 400 (by decide) h
/-- what a good load leaves -/
noncomputable def cLo1 (σ : gS) : gS := gup (gup (gup (cCo (gup (gup (cSet σ) 0 9 (-2)) 2 1 0) 6 32) 112 0 0) 112 1 0) 113 2 0
noncomputable def cLo0 (σ : gS) : gS := gup (gup (cSet σ) 0 9 (cSet σ 1 2)) 2 1 0
abbrev cLk (σ : gS) : Prop := cSet σ 1 4 = 0 ∧ cSet σ 1 5 = 0
theorem clL_x : ∃ f : gS → gS, ∀ σ, f σ = (if cLk σ then cLo1 σ else cLo0 σ) := ⟨fun σ => (if cLk σ then cLo1 σ else cLo0 σ), fun _ => rfl⟩
noncomputable def clL : gS → gS := Classical.choose clL_x
theorem clL_e : ∀ σ, clL σ = (if cLk σ then cLo1 σ else cLo0 σ) := Classical.choose_spec clL_x
theorem s110 {σ : gS} {K : gK} (hc : 0 ≤ σ 2 1 ∧ σ 2 1 ≤ 1000) (hK : K (some (.int (if cLk σ then cSet σ 32 7 else -1))) (clL σ)) : gE 110 0 [some (.ref 0), none, none] [] σ K := by
  obtain ⟨k, h7⟩ := cSet_ok hc
  rw [clL_e] at hK
  refine w110 ⟨hc, c110_12 ?_⟩
  by_cases q : cLk σ
  · rw [if_pos q, if_pos q] at hK
    rw [bI_y q]
    obtain ⟨τ, hτ⟩ : ∃ τ, gup (gup (cSet σ) 0 9 (-2)) 2 1 0 = τ := ⟨_, rfl⟩
    have e7 : τ 32 7 = cSet σ 32 7 := by rw [← hτ, gup_ne (by omega), gup_ne (by omega)]
    have n7 : (τ 32 7).toNatClampNeg ≤ 20 := by rw [e7]; exact (c20 h7).2
    unfold cLo1 at hK
    rw [hτ] at hK ⊢
    refine ⟨fun z => absurd z (by decide), fun _ => ⟨fun _ => c110_46 ⟨by rw [e7]; exact h7, c110_57 (c110_59 ⟨fun z => absurd (by decide) z, fun _ => ⟨⟨by decide, Or.inl rfl⟩, c110_59 ⟨fun z => absurd (by decide) z, fun _ => ⟨⟨by decide, Or.inl rfl⟩, c110_59 ⟨fun _ => c110_77 ?_, fun z => absurd z (by decide)⟩⟩⟩⟩⟩)⟩, fun z => absurd z (by decide)⟩⟩
    have a0 : (0 : Int32).toNatClampNeg = 0 := rfl
    have a1 : ((0 : Int32) + 1).toNatClampNeg = 1 := by decide
    rw [a0, a1]
    have v : gup (gup (gup (cCo τ 6 32) 112 0 0) 112 1 0) 113 2 0 6 7 = cSet σ 32 7 := by
      rw [gup_ne (by omega), gup_ne (by omega), gup_ne (by omega), cCo_hd (Or.inr (by decide)) n7 (by decide) (by decide), e7]
    rw [v]
    exact hK
  · rw [if_neg q, if_neg q] at hK
    rw [bI_n q]
    exact ⟨fun _ => ⟨fun z => absurd rfl z, fun _ => hK⟩, fun z => absurd rfl z⟩
noncomputable def f110 : gD := fun Lv σ => match Lv with
  | [some (.ref q0), none, none] => cond (Nat.beq q0 0) (some (some (0 ≤ σ 2 1 ∧ σ 2 1 ≤ 1000), some (.int (if cLk σ then cSet σ 32 7 else -1)), clL σ)) none
  | _ => none
theorem ok110 : gFok 110 f110 := by
  intro Lv σ q h hc K hK
  unfold f110 at h
  split at h
  · rename_i q0
    obtain ⟨hb, h⟩ := c_no h
    have hb0 := hb
    have e0 := b_eq hb0
    subst e0
    cases h
    exact s110 (hc _ rfl) hK
  · cases h
noncomputable def gpdv_l : List (Nat × gD) := (110, f110) :: gpdu_l
noncomputable def gpdv : gP := gpl0 gpdv_l
theorem gpdv_ok : gPok gpdv := gpl0_cons ok110 (gpdu_ok)
