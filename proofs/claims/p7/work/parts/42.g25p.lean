noncomputable def f93 : gD := fun Lv σ => match Lv with
  | [some (.ref p), some (.int a), some (.int b), some (.int c), none, none] => cond (Nat.beq p 6 || Nat.beq p 32) (some (some ((isN σ p a ∧ isN σ p b ∧ isN σ p c) ∧ (a.toNatClampNeg ≠ b.toNatClampNeg ∧ b.toNatClampNeg ≠ c.toNatClampNeg ∧ a.toNatClampNeg ≠ c.toNatClampNeg) ∧ TC σ p), some (.int (fROR (cR σ p) a.toNatClampNeg b.toNatClampNeg c.toNatClampNeg)), σ)) none
  | _ => none
theorem ok93 : gFok 93 f93 := by
  intro Lv σ q h hc K hK
  unfold f93 at h
  split at h
  · rename_i p a b c
    obtain ⟨hb, h⟩ := c_no h
    have hb0 := hb
    rcases s_or hb0 with hb0 | hb0
    · have e := b_eq hb0
      subst e
      cases h
      exact s93_6 (hc _ rfl) hK
    · have e := b_eq hb0
      subst e
      cases h
      exact s93_32 (hc _ rfl) hK
  · cases h

