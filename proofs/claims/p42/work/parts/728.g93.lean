/-! THE REFERENCE: load -/
theorem rTk0_f {σ : gS} : ¬ rTk σ 0 323 15 = 0 := by
  rw [rTk_e]
  split
  · rw [if_pos rfl, gup_ne (by omega), gup_at]
    decide
  · assumption
theorem rTk_25 {σ : gS} {c : Int32} {j : Nat} : rTk σ c 325 j = σ 325 j := by rw [rTk_far (by decide)]
theorem qZ_ok {σ : gS} {n m : Nat} {x : Int32} (h : NX σ) (h3 : σ 325 3 = iN m) : NX (qZ σ n x) ∧ ((¬ qZ σ n x 323 15 = 0 ∧ qZ σ n x 325 3 = iN m) ∨ (KV (qZ σ n x) ∧ qZ σ n x 325 3 = iN (m + 1))) := by
  unfold qZ
  split
  · split
    · rename_i q
      refine ⟨NX_25 (rTk_NX h), Or.inr ⟨?_, ?_⟩⟩
      · have k : KV (rTk σ 1) := by
          rw [rTk_e, if_pos q, if_neg (by decide)]
          exact rNx_KV
        intro z
        rw [gup_ne (by omega)] at z ⊢
        exact k z
      · rw [gup_at, rTk_25, h3, iN_one]
    · rename_i q
      exact ⟨h, Or.inl ⟨q, h3⟩⟩
  · exact ⟨rTk_NX h, Or.inl ⟨rTk0_f, by rw [rTk_25, h3]⟩⟩
theorem hRs_ok {σ : gS} {n : Nat} (h : NX σ) (h3 : σ 325 3 = iN n) (hn : n ≤ 20) : NX (hRs σ) ∧ ((¬ hRs σ 323 15 = 0 ∧ hRs σ 325 3 = iN n) ∨ (n < 20 ∧ KV (hRs σ) ∧ hRs σ 325 3 = iN (n + 1))) := by
  rw [hRs_e]
  split
  · rename_i q
    have l : n < 20 := by
      rw [h3] at q
      exact (iN_lt (m := 20) (by omega) (by decide)).mp q
    obtain ⟨b, hb⟩ : ∃ b, rTk (rTk σ 1) (bI (q2c (rTk σ 1) (rTk σ 1 323 14))) = b := ⟨_, rfl⟩
    have b3 : b 325 3 = iN n := by rw [← hb, rTk_25, rTk_25, h3]
    have bN : NX b := by rw [← hb]; exact rTk_NX (rTk_NX h)
    unfold hRs1
    rw [hb]
    unfold hRs2
    split
    · obtain ⟨ρ, hρ⟩ : ∃ ρ, qMid (grow (rTk b 1) 325 (fNew (b 325) (rTk σ 1 323 14) (b 323 14))) (rTk σ 1 325 3).toNatClampNeg = ρ := ⟨_, rfl⟩
      have I := qMid_I (σ := grow (rTk b 1) 325 (fNew (b 325) (rTk σ 1 323 14) (b 323 14))) (n := (rTk σ 1 325 3).toNatClampNeg)
      rw [hρ] at I ⊢
      have r3 : ρ 325 3 = iN n := by
        rw [I.2.2 3 (by decide), grow_at, fNew_ne (by omega), b3]
      have rN : NX ρ := I.1 (NX_gr (rTk_NX bN))
      obtain ⟨z1, z2⟩ := qZ_ok (n := (rTk σ 1 325 3).toNatClampNeg) (x := rTk σ 1 323 14) rN r3
      exact ⟨z1, z2.elim Or.inl (fun z => Or.inr ⟨l, z.1, z.2⟩)⟩
    · exact ⟨rTk_NX bN, Or.inl ⟨rTk0_f, by rw [rTk_25, b3]⟩⟩
  · exact ⟨rTk_NX h, Or.inl ⟨rTk0_f, by rw [rTk_25, h3]⟩⟩
noncomputable def rLp : Nat → gS → gS
  | 0, σ => σ
  | d + 1, σ => if ¬ σ 323 15 = 0 ∨ ¬ rIs σ 377669 then σ else rLp d (hRs σ)
abbrev rHd (d : Nat) (σ : gS) : Prop := NX σ ∧ ((¬ σ 323 15 = 0 ∧ (0 ≤ σ 325 3 ∧ σ 325 3 ≤ 20)) ∨ (KV σ ∧ ∃ n, n ≤ 20 ∧ n + d = 21 ∧ σ 325 3 = iN n))
theorem rHd_st {d : Nat} {σ : gS} (h : rHd (d + 1) σ) (hf : σ 323 15 = 0) : ((NX σ ∧ KV σ) ∧ σ 323 15 = 0 ∧ (0 ≤ σ 325 3 ∧ σ 325 3 ≤ 20)) ∧ rHd d (hRs σ) := by
  obtain ⟨hN, h | ⟨hk, n, h1, h2, h3⟩⟩ := h
  · exact absurd hf h.1
  have b : 0 ≤ iN n ∧ iN n ≤ 20 := ⟨(iN_le (k := 0) (by decide) (by omega)).mpr (by omega), (iN_le (m := 20) (by omega) (by decide)).mpr h1⟩
  refine ⟨⟨⟨hN, hk⟩, hf, by rw [h3]; exact b⟩, ?_⟩
  obtain ⟨z1, z2⟩ := hRs_ok hN h3 h1
  refine ⟨z1, z2.elim (fun z => Or.inl ⟨z.1, by rw [z.2]; exact b⟩) (fun z => Or.inr ⟨z.2.1, n + 1, by omega, by omega, z.2.2⟩)⟩
theorem rHd_20 {d : Nat} {σ : gS} (h : rHd d σ) : NX σ ∧ (0 ≤ σ 325 3 ∧ σ 325 3 ≤ 20) := by
  obtain ⟨hN, h | ⟨hk, n, h1, h2, h3⟩⟩ := h
  · exact ⟨hN, h.2⟩
  · rw [h3]
    exact ⟨hN, (iN_le (k := 0) (by decide) (by omega)).mpr (by omega), (iN_le (m := 20) (by omega) (by decide)).mpr h1⟩
theorem rLp_ok : ∀ (d : Nat) (σ : gS), rHd d σ → NX (rLp d σ) ∧ (0 ≤ rLp d σ 325 3 ∧ rLp d σ 325 3 ≤ 20)
  | 0, σ, h => rHd_20 h
  | d + 1, σ, h => by
    unfold rLp
    split
    · exact rHd_20 h
    · rename_i q
      exact rLp_ok d _ (rHd_st h (Decidable.not_not.mp (fun z => q (Or.inl z)))).2
/-- the text must end there -/
noncomputable def hEd (τ : gS) : gS := if τ 323 15 = 0 ∧ ¬ τ 323 13 = 0 then rTk τ 0 else τ
noncomputable def hLo1 (ρ : gS) : gS := gup (gup (gup (grow (gup ρ 323 8 0) 324 (rla (ρ 325) (ρ 324) 0 0 330)) 323 6 0) 329 0 0) 329 1 0
noncomputable def hLo (ρ : gS) : gS := if ρ 323 15 = 0 then hLo1 ρ else gup ρ 323 8 0
noncomputable def aLo (ρ : gS) : Int32 := if ρ 323 15 = 0 then ρ 325 3 else -1
/-- the draft is emptied -/
noncomputable def dZk (σ : gS) (k : Nat) : gS := grow σ 325 (fun j => if j < k then 0 else σ 325 j)
theorem dZk_s (σ : gS) (k : Nat) : gup (dZk σ k) 325 k 0 = dZk σ (k + 1) := by
  funext q j
  unfold gup dZk grow
  grind
noncomputable def dS1 (σ : gS) : gS := rNx (gup (gup (gup (dZk σ 330) 323 11 0) 323 15 0) 323 9 (-2))
noncomputable def dS2 (σ : gS) : gS := rTk σ (bI (rIs σ 10984100))
noncomputable def dS3 (σ : gS) : gS := gup (rTn σ 2 10) 325 0 (rNm σ 2 10)
noncomputable def dS4 (σ : gS) : gS := rTk σ (bI (rIs σ 3379448))
noncomputable def dS5 (σ : gS) : gS := gup (rTn σ 0 (σ 325 0)) 325 1 (rNm σ 0 (σ 325 0))
noncomputable def dS6 (σ : gS) : gS := rTk σ (bI (σ 323 13 = 3))
noncomputable def dSet0 (σ : gS) : gS := dS6 (dS5 (dS4 (dS3 (dS2 (dS1 σ)))))
theorem dSet_x : ∃ f : gS → gS, ∀ σ, f σ = hEd (rLp 21 (dSet0 σ)) := ⟨fun σ => hEd (rLp 21 (dSet0 σ)), fun _ => rfl⟩
noncomputable def dSet : gS → gS := Classical.choose dSet_x
theorem dSet_e : ∀ σ, dSet σ = hEd (rLp 21 (dSet0 σ)) := Classical.choose_spec dSet_x
theorem hLoad_x : ∃ f : gS → gS, ∀ σ, f σ = hLo (dSet σ) := ⟨fun σ => hLo (dSet σ), fun _ => rfl⟩
noncomputable def hLoad : gS → gS := Classical.choose hLoad_x
theorem hLoad_e : ∀ σ, hLoad σ = hLo (dSet σ) := Classical.choose_spec hLoad_x
theorem dS1_NX0 {σ : gS} (h : RT σ) : NX (gup (gup (gup (dZk σ 330) 323 11 0) 323 15 0) 323 9 (-2)) := by
  have e8 : gup (gup (gup (dZk σ 330) 323 11 0) 323 15 0) 323 9 (-2) 323 8 = σ 323 8 := by
    rw [gup_ne (by omega), gup_ne (by omega), gup_ne (by omega)]
    unfold dZk
    rw [grow_ne (by decide)]
  have e11 : gup (gup (gup (dZk σ 330) 323 11 0) 323 15 0) 323 9 (-2) 323 11 = 0 := by
    rw [gup_ne (by omega), gup_ne (by omega), gup_at]
  refine ⟨?_, ?_⟩
  · show 0 ≤ gup (gup (gup (dZk σ 330) 323 11 0) 323 15 0) 323 9 (-2) 323 8 ∧ gup (gup (gup (dZk σ 330) 323 11 0) 323 15 0) 323 9 (-2) 323 8 ≤ 1000
    rw [e8]
    exact h
  · rw [e8, e11]
    exact ⟨by decide, h.1⟩
theorem dS1_NX {σ : gS} (h : RT σ) : NX (dS1 σ) := rNx_NX (dS1_NX0 h)
theorem dS_3 {σ : gS} : dSet0 σ 325 3 = 0 := by
  unfold dSet0 dS6 dS5 dS4 dS3 dS2 dS1 rTn
  rw [rTk_25, gup_ne (by omega), rTk_25, rTk_25, gup_ne (by omega), rTk_25, rTk_25, rNx_far (by decide), gup_ne (by omega), gup_ne (by omega), gup_ne (by omega)]
  unfold dZk
  rw [grow_at, if_pos (by decide)]
theorem dSet0_NX {σ : gS} (h : RT σ) : NX (dSet0 σ) := rTk_NX (NX_25 (rTn_NX (rTk_NX (NX_25 (rTn_NX (rTk_NX (dS1_NX h)))))))
theorem dS1_KV {σ : gS} : KV (dS1 σ) := rNx_KV
theorem KV_25 {σ : gS} {j : Nat} {x : Int32} (h : KV σ) : KV (gup σ 325 j x) := by
  intro z
  rw [gup_ne (by omega)] at z ⊢
  exact h z
theorem dSet0_KV {σ : gS} : KV (dSet0 σ) := rTk_KV (KV_25 (rTk_KV (rTk_KV (KV_25 (rTk_KV (rTk_KV dS1_KV))))))
theorem dSet0_hd {σ : gS} (h : RT σ) : rHd 21 (dSet0 σ) := ⟨dSet0_NX h, Or.inr ⟨dSet0_KV, 0, by decide, by decide, dS_3⟩⟩
noncomputable def f203 : gD := fun Lv σ => match Lv with
  | [some (.ref q0), none] => cond (Nat.beq q0 323) (some (some (RT σ), some (.int (aLo (dSet σ))), hLoad σ)) none
  | _ => none
noncomputable def gpec_l : List (Nat × gD) := gpeb_l
noncomputable def gpec : gP := gpl0 gpec_l
theorem gpec_ok : gPok gpec := gpeb_ok
