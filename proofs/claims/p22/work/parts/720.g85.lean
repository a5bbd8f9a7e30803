-- text 85
/-! THE CLASS: a traveller is read, as a whole; a setup is read -/
theorem rTrv_x : ∃ f : gS → gS, ∀ σ, f σ = rZ (rMid σ) := ⟨fun σ => rZ (rMid σ), fun _ => rfl⟩
noncomputable def rTrv : gS → gS := Classical.choose rTrv_x
theorem rTrv_e : ∀ σ, rTrv σ = rZ (rMid σ) := Classical.choose_spec rTrv_x
theorem s32 {σ : gS} {K : gK} (hc : RK σ ∧ (0 ≤ σ 32 7 ∧ σ 32 7 < 20)) (hK : K none (rTrv σ)) : gE 32 0 [some (.ref 1), some (.ref 32)] [] σ K := by
  obtain ⟨h, h7⟩ := hc
  rw [rTrv_e] at hK
  unfold rMid at hK
  have h20 : 0 ≤ σ 32 7 ∧ σ 32 7 ≤ 20 := ⟨h7.1, by have := h7.2; grind⟩
  have a := rA_RK h
  have b := rB_RK a
  have c := rC_RK b
  have d := rT_RK c
  have e := rF_RK d
  have f := rW_RK e
  have g := rAh_RK f
  have i := rR_RK g
  have j := rS_RK i
  have k := rP_RK j
  refine st_0 h (st_13 a ?_ (st_25 b (st_36 c (st_53 d (st_76 e (st_96 f (st_116 g (st_156 i (st_179 j (st_202 k ?_ hK))))))))))
  · rw [rA_far (by decide) (by decide)]
    exact h20
  · have := rMid_far (σ := σ) (q := 32) (by decide) (by decide)
    unfold rMid at this
    rw [this]
    exact h7
noncomputable def f32 : gD := fun Lv σ => match Lv with
  | [some (.ref q0), some (.ref q1)] => cond ((Nat.beq q0 1) && (Nat.beq q1 32)) (some (some (RK σ ∧ (0 ≤ σ 32 7 ∧ σ 32 7 < 20)), none, rTrv σ)) none
  | _ => none
theorem ok32 : gFok 32 f32 := by
  intro Lv σ q h hc K hK
  unfold f32 at h
  split at h
  · rename_i q0 q1
    obtain ⟨hb, h⟩ := c_no h
    obtain ⟨hc1, hb1⟩ := s_and hb
    have hb0 := hc1
    have e0 := b_eq hb0
    subst e0
    have e1 := b_eq hb1
    subst e1
    cases h
    exact s32 (hc _ rfl) hK
  · cases h
noncomputable def gpdt_l : List (Nat × gD) := (32, f32) :: gpds_l
noncomputable def gpdt : gP := gpl0 gpdt_l
theorem gpdt_ok : gPok gpdt := gpl0_cons ok32 (gpds_ok)
