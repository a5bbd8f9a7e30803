noncomputable def f112 : gD := fun Lv σ => match Lv with
  | [some (.ref q0), some (.int x), some (.int k), some (.int f), some (.int w), some (.int s), none] => cond (Nat.beq q0 0) (some (some (SC σ ∧ (0 ≤ σ 2 1 ∧ σ 2 1 ≤ 1000)), some (.int (if okK σ x k f w s ∧ cTN σ then (if σ 6 7 < 20 then (if okF σ x k then σ 6 7 else -4) else -3) else -1)), if okK σ x k f w s then (if cTN σ ∧ σ 6 7 < 20 ∧ okF σ x k then cCom σ x k f w s else cBeg σ) else σ)) none
  | _ => none
theorem ok112 : gFok 112 f112 := by
  intro Lv σ q h hc K hK
  unfold f112 at h
  split at h
  · rename_i q0 x k f w s
    obtain ⟨hb, h⟩ := c_no h
    have hb0 := hb
    have e0 := b_eq hb0
    subst e0
    cases h
    exact s112 (hc _ rfl) hK
  · cases h

