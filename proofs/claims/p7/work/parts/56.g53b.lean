noncomputable def f102 : gD := fun Lv σ => match Lv with
  | [some (.ref w)] => some (some (gTv w), none, cZr σ w)
  | _ => none
theorem ok102 : gFok 102 f102 := by
  intro Lv σ q h hc K hK
  unfold f102 at h
  split at h
  · rename_i w
    cases h
    exact s102 (hc _ rfl) hK
  · cases h
set_option maxRecDepth 20000 in
theorem w62_6 {σ : gS} {K : gK} {w : Nat} (h : (((σ 6 7) < 20 → (0 ≤ (σ 6 7) ∧ (σ 6 7) < 20) ∧ gTv (6 + 2 + (σ 6 7).toNatClampNeg) ∧ (gTv (6 + 2 + (σ 6 7).toNatClampNeg) ∧ gTv w) ∧ (gTv w) ∧ K none (gup (cCnt (cTv σ (6 + 2 + (σ 6 7).toNatClampNeg) w) 6 w (1 : Int32)) 6 7 (((cCnt (cTv σ (6 + 2 + (σ 6 7).toNatClampNeg) w) 6 w (1 : Int32)) 6 7) + 1))) ∧ (¬ (σ 6 7) < 20 → K none σ))) : gE 62 0 [some (.ref 6), some (.ref w)] [] σ K :=
  gw_run (cy := 62) (cuts := []) (inl := []) (pf := gpdk) gpdk_ok 400 (by decide) h
theorem s62_6 {σ : gS} {K : gK} {w : Nat} (hc : (0 ≤ σ 6 7 ∧ σ 6 7 < 20) ∧ gTv w) (hK : K none (cAdm σ 6 w)) : gE 62 0 [some (.ref 6), some (.ref w)] [] σ K := by
  obtain ⟨h7, hw⟩ := hc
  have tv := tv_6 _ (n20 h7)
  have ln := n20 h7
  have e : cCnt (cTv σ (6 + 2 + (σ 6 7).toNatClampNeg) w) 6 w 1 6 7 = σ 6 7 := by
    rw [cCnt_off (by omega)]
    show (if 6 = 6 + 2 + (σ 6 7).toNatClampNeg ∧ 7 < 10 then _ else _) = _
    rw [if_neg (by omega)]
  refine w62_6 ⟨fun _ => ⟨h7, tv, ⟨tv, hw⟩, hw, ?_⟩, fun h => absurd h7.2 h⟩
  rw [e]
  exact hK
