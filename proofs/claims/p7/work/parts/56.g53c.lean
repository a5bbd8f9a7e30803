set_option maxRecDepth 20000 in
theorem w62_32 {σ : gS} {K : gK} {w : Nat} (h : (((σ 32 7) < 20 → (0 ≤ (σ 32 7) ∧ (σ 32 7) < 20) ∧ gTv (32 + 2 + (σ 32 7).toNatClampNeg) ∧ (gTv (32 + 2 + (σ 32 7).toNatClampNeg) ∧ gTv w) ∧ (gTv w) ∧ K none (gup (cCnt (cTv σ (32 + 2 + (σ 32 7).toNatClampNeg) w) 32 w (1 : Int32)) 32 7 (((cCnt (cTv σ (32 + 2 + (σ 32 7).toNatClampNeg) w) 32 w (1 : Int32)) 32 7) + 1))) ∧ (¬ (σ 32 7) < 20 → K none σ))) : gE 62 0 [some (.ref 32), some (.ref w)] [] σ K :=
  gw_run (cy := 62) (cuts := []) (inl := []) (pf := gpdk) gpdk_ok 400 (by decide) h
theorem s62_32 {σ : gS} {K : gK} {w : Nat} (hc : (0 ≤ σ 32 7 ∧ σ 32 7 < 20) ∧ gTv w) (hK : K none (cAdm σ 32 w)) : gE 62 0 [some (.ref 32), some (.ref w)] [] σ K := by
  obtain ⟨h7, hw⟩ := hc
  have tv := tv_32 _ (n20 h7)
  have ln := n20 h7
  have e : cCnt (cTv σ (32 + 2 + (σ 32 7).toNatClampNeg) w) 32 w 1 32 7 = σ 32 7 := by
    rw [cCnt_off (by omega)]
    show (if 32 = 32 + 2 + (σ 32 7).toNatClampNeg ∧ 7 < 10 then _ else _) = _
    rw [if_neg (by omega)]
  refine w62_32 ⟨fun _ => ⟨h7, tv, ⟨tv, hw⟩, hw, ?_⟩, fun h => absurd h7.2 h⟩
  rw [e]
  exact hK
noncomputable def f62 : gD := fun Lv σ => match Lv with
  | [some (.ref p), some (.ref w)] => cond (Nat.beq p 6 || Nat.beq p 32) (some (some ((0 ≤ σ p 7 ∧ σ p 7 < 20) ∧ gTv w), none, cAdm σ p w)) none
  | _ => none
theorem ok62 : gFok 62 f62 := by
  intro Lv σ q h hc K hK
  unfold f62 at h
  split at h
  · rename_i p w
    obtain ⟨hb, h⟩ := c_no h
    have hb0 := hb
    rcases s_or hb0 with hb0 | hb0
    · have e := b_eq hb0
      subst e
      cases h
      exact s62_6 (hc _ rfl) hK
    · have e := b_eq hb0
      subst e
      cases h
      exact s62_32 (hc _ rfl) hK
  · cases h
