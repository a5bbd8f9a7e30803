-- text 97
/-! RELATION: a traveller is read by both, the parts that must stand -/
/-- what is wrong stays so, at its place -/
noncomputable def WP (σ ρ : gS) : Prop := ¬ σ 1 5 = 0 → ¬ ρ 1 5 = 0 ∧ ρ 1 2 = σ 1 2
theorem WP_id (σ : gS) : WP σ σ := fun h => ⟨h, rfl⟩
theorem WP_t {σ ρ ν : gS} (h : WP σ ρ) (h2 : WP ρ ν) : WP σ ν := fun z => ⟨(h2 (h z).1).1, (h2 (h z).1).2.trans (h z).2⟩
theorem WP_4 {σ ρ : gS} {j : Nat} {v : Int32} (h : WP σ ρ) : WP σ (gup ρ 4 j v) := fun z => by
  rw [gup_ne (by omega), gup_ne (by omega)]
  exact h z
theorem WP_ps (σ : gS) (c : Int32) : WP σ (cPs σ c) := fun z => by
  unfold cPs
  rw [if_neg (fun q => z q.1), gup_at, gup_ne (by omega)]
  exact ⟨by decide, rfl⟩
theorem WP_fs (σ : gS) : WP σ (cFs σ) := fun z => by
  unfold cFs
  rw [if_neg (fun q => z q.1), gup_at, gup_ne (by omega)]
  exact ⟨by decide, rfl⟩
theorem WP_zr (σ : gS) : WP σ (cZr σ 4) := fun z => by
  rw [cZr_ne (by decide)]
  exact ⟨z, rfl⟩
theorem WP_A (σ : gS) : WP σ (rA σ) := WP_t (WP_zr σ) (WP_ps _ _)
theorem WP_B (σ : gS) : WP σ (rB σ) := WP_4 (WP_t (WP_fs σ) (WP_ps _ _))
theorem WP_C (σ : gS) : WP σ (rC σ) := WP_4 (WP_ps _ _)
theorem WP_T (σ : gS) : WP σ (rT σ) := fun z => by
  unfold rT
  rw [if_neg (fun q => z q.1)]
  exact ⟨z, rfl⟩
theorem WP_F (σ : gS) : WP σ (rF σ) := fun z => by
  unfold rF
  rw [if_neg (fun q => z q.1)]
  exact ⟨z, rfl⟩
theorem WP_W (σ : gS) : WP σ (rW σ) := fun z => by
  unfold rW
  rw [if_neg (fun q => z q.1)]
  exact ⟨z, rfl⟩
theorem WP_Ah (σ : gS) : WP σ (rAh σ) := fun z => by
  unfold rAh
  rw [if_neg (fun q => z q.1)]
  exact ⟨z, rfl⟩
theorem WP_R (σ : gS) : WP σ (rR σ) := fun z => by
  unfold rR
  rw [if_neg (fun q => z q.1)]
  exact ⟨z, rfl⟩
theorem WP_S (σ : gS) : WP σ (rS σ) := fun z => by
  unfold rS
  rw [if_neg (fun q => z q.1)]
  exact ⟨z, rfl⟩
theorem WP_P (σ : gS) : WP σ (rP σ) := fun z => by
  unfold rP
  rw [if_neg (fun q => z q.1)]
  exact ⟨z, rfl⟩
theorem WP_Z {σ : gS} (h7 : 0 ≤ σ 32 7 ∧ σ 32 7 < 20) : WP σ (rZ σ) := fun z => by
  have f7 : cPs σ 1 32 7 = σ 32 7 := by rw [cPs_far (by decide)]
  unfold rZ
  split
  · split
    · rw [cAdm_far (by rw [f7]; exact h7) (by omega)]
      exact WP_ps σ 1 z
    · exact WP_ps σ 1 z
  · exact WP_ps σ 0 z
theorem WP_mid (σ : gS) : WP (rC (rB (rA σ))) (rMid σ) := WP_t (WP_t (WP_t (WP_t (WP_t (WP_t (WP_T _) (WP_F _)) (WP_W _)) (WP_Ah _)) (WP_R _)) (WP_S _)) (WP_P _)
theorem WP_trv {σ : gS} (h7 : 0 ≤ σ 32 7 ∧ σ 32 7 < 20) : WP (rC (rB (rA σ))) (rTrv σ) ∧ WP (rA σ) (rTrv σ) := by
  have k : WP (rC (rB (rA σ))) (rTrv σ) := by
    rw [rTrv_e]
    exact WP_t (WP_mid σ) (WP_Z (by rw [rMid_far (by decide) (by decide)]; exact h7))
  exact ⟨k, WP_t (WP_t (WP_B _) (WP_C _)) k⟩
theorem rTrv_far {σ : gS} {q : Nat} (h : ¬ q = 1) (h4 : ¬ q = 4) (h7 : 0 ≤ σ 32 7 ∧ σ 32 7 < 20) (h32 : q < 32 ∨ 56 ≤ q) : rTrv σ q = σ q := by
  have e := rMid_far (σ := σ) h h4
  have e7 : cPs (rMid σ) 1 32 7 = σ 32 7 := by rw [cPs_far (by decide), rMid_far (by decide) (by decide)]
  rw [rTrv_e, ← e]
  unfold rZ
  split
  · split
    · rw [cAdm_far (by rw [e7]; exact h7) (by omega), cPs_far h]
    · exact cPs_far h
  · exact cPs_far h
theorem nuN_b {T : gW} {S : Nat} : ∀ {k : Nat}, k ≤ 2 → (∀ i, i < k → isDg (T (S + i))) → 0 ≤ nuN T S k
  | 0, _, _ => by
    show (0 : Int32) ≤ 0
    decide
  | 1, _, h => by
    have := h 0 (by decide)
    obtain ⟨a, ha⟩ : ∃ a, T (S + 0) = a := ⟨_, rfl⟩
    show 0 ≤ 10 * 0 + T (S + 0) - 48
    rw [ha] at this ⊢
    have u := this.1
    have v := this.2
    grind
  | 2, _, h => by
    have h1 := h 0 (by decide)
    have h2 := h 1 (by decide)
    obtain ⟨a, ha⟩ : ∃ a, T (S + 0) = a := ⟨_, rfl⟩
    obtain ⟨b, hb⟩ : ∃ b, T (S + 1) = b := ⟨_, rfl⟩
    show 0 ≤ 10 * (10 * 0 + T (S + 0) - 48) + T (S + 1) - 48
    rw [ha] at h1 ⊢
    rw [hb] at h2 ⊢
    have := h1.1
    have := h1.2
    have := h2.1
    have := h2.2
    grind
  | k + 3, h, _ => by omega
theorem PT_nb0 {T : gW} {L n : Nat} {σ τ : gS} (h : PT T L n σ τ) : τ 323 13 = 2 → 0 ≤ τ 323 14 := by
  rw [h.2.2.2.2.1, h.2.2.2.2.2]
  have hn := h.1
  obtain ⟨S, hS⟩ : ∃ S, tkS T L n = S := ⟨_, rfl⟩
  rw [hS]
  unfold rKi rVa
  by_cases q : S = L
  · rw [if_pos q]
    intro z
    exact absurd z (by decide)
  · rw [if_neg q, if_neg q]
    by_cases q1 : isSm (T S)
    · rw [if_pos q1]
      intro z
      exfalso
      split at z
      · exact absurd z (by decide)
      · exact absurd z (by decide)
    · rw [if_neg q1, if_neg q1]
      by_cases q2 : isDg (T S)
      · have hp : rPl T L S = rnE 3 T L S := by unfold rPl; rw [if_neg q, if_neg q1, if_pos q2]
        rw [if_pos q2, if_pos q2, hp]
        intro _
        exact nuN_b (by omega) (fun i hi => cKd_3.mp (rnE_in (c := 3) (L := L) i (by omega)))
      · rw [if_neg q2, if_neg q2]
        intro _
        decide
theorem PQ_w {T : gW} {L : Nat} {σ τ : gS} (h : PQ T L σ τ) (hw : ¬ σ 1 5 = 0) : PQ T L (gup σ 1 5 1) τ := by
  obtain ⟨hc, ⟨w, f, ht⟩ | ⟨w, f, he⟩⟩ := h
  · exact absurd w hw
  · obtain ⟨c1, c2, c3, c4, c5, c6⟩ := hc
    refine ⟨⟨?_, ?_, c3, c4, c5, c6⟩, Or.inr ⟨by rw [gup_at]; decide, f, by rw [gup_ne (by omega)]; exact he⟩⟩
    · funext i; rw [gup_ne (by omega), c1]
    · rw [gup_ne (by omega), c2]
/-- the seat's number -/
theorem PQ_seat {T : gW} {L : Nat} {σ a : gS} (h : PQ T L σ a) (hr : σ 32 4 = a 325 0) (hb : 2 ≤ a 325 0 ∧ a 325 0 ≤ 10) (hw : ∀ v, fWho (cR σ 32) v = -2 ↔ fWho (a 325) v < 0) : PQ T L (cInt (cFs σ) 0 (σ 32 4 * 4 - 1)) (rTk a (bI (q2c a (a 323 14)))) ∧ (cInt (cFs σ) 0 (σ 32 4 * 4 - 1) 1 5 = 0 → σ 1 5 = 0 ∧ (0 ≤ cNu (cFs σ) ∧ cNu (cFs σ) < 40) ∧ a 323 14 = cNu (cFs σ)) := by
  by_cases w : σ 1 5 = 0
  · obtain ⟨f, n, ht⟩ := PQ_no h w
    by_cases q : fWho (cR σ 32) (cNu σ) = -2
    · have e : cFs σ = σ := by unfold cFs; rw [if_pos ⟨w, q⟩]
      rw [e]
      have hb1 := hb.1
      have hb2 := hb.2
      have key : (0 ≤ cNu σ ∧ cNu σ ≤ σ 32 4 * 4 - 1) ↔ q2c a (a 323 14) := by
        unfold q2c
        rcases PT_nb h.1 ht with ⟨z1, z2⟩ | ⟨z1, z2⟩
        · have z0 := PT_nb0 ht z1
          rw [z2] at z0 ⊢
          have y := (hw _).mp q
          rw [hr]
          exact ⟨fun z => ⟨z1, by have := z.2; grind, y⟩, fun z => ⟨z0, by have := z.2.1; grind⟩⟩
        · exact ⟨fun z => by rw [z2] at z; exact absurd z.1 (by decide), fun z => absurd z.1 z1⟩
      refine ⟨PQ_pass h (fun _ m hm => key) (fun _ z => cNu_b z00 z), fun z => ?_⟩
      obtain ⟨y1, y2⟩ := cPs_0 z
      have y2 := Decidable.not_not.mp (fun z => y2 (bI_0.mpr z))
      have y3 := key.mp y2
      refine ⟨w, ⟨y2.1, ?_⟩, ?_⟩
      · have := y2.2
        rw [hr] at this
        grind
      · rcases PT_nb h.1 ht with ⟨z1, z2⟩ | ⟨z1, z2⟩
        · exact z2
        · exact absurd y3.1 z1
    · have e : cFs σ = gup σ 1 5 1 := by unfold cFs; rw [if_neg (fun z => q z.2)]
      have nq : ¬ q2c a (a 323 14) := by
        intro z
        rcases PT_nb h.1 ht with ⟨z1, z2⟩ | ⟨z1, z2⟩
        · have := z.2.2
          rw [z2] at this
          exact q ((hw _).mpr this)
        · exact z1 z.1
      have k := PQ_pass (P := False) (Q := q2c a (a 323 14)) h (fun _ m hm => ⟨fun z => absurd z id, fun z => absurd z nq⟩) (fun _ z => absurd z id)
      have e2 : cPs σ (bI False) = gup σ 1 5 1 := by unfold cPs; rw [bI_n (fun z => z), if_neg (fun z => z.2 rfl)]
      rw [e2] at k
      have e3 : cInt (cFs σ) 0 (σ 32 4 * 4 - 1) = gup σ 1 5 1 := by
        rw [e]
        unfold cInt cPs
        rw [if_neg (fun z => absurd z.1 (by rw [gup_at]; decide)), gup_tw]
      rw [e3]
      exact ⟨k, fun z => absurd z (by rw [gup_at]; decide)⟩
  · have e : cFs σ = gup σ 1 5 1 := by unfold cFs; rw [if_neg (fun z => w z.1)]
    have k := PQ_w h w
    have e3 : cInt (cFs σ) 0 (σ 32 4 * 4 - 1) = gup σ 1 5 1 := by
      rw [e]
      unfold cInt cPs
      rw [if_neg (fun z => absurd z.1 (by rw [gup_at]; decide)), gup_tw]
    have f : ¬ a 323 15 = 0 := by
      obtain ⟨hc, ⟨w2, f, ht⟩ | ⟨w2, f, he⟩⟩ := h
      · exact absurd w2 w
      · exact f
    rw [e3, rTk_f f]
    exact ⟨k, fun z => absurd z (by rw [gup_at]; decide)⟩
theorem cNu_fs {σ : gS} : cNu (cFs σ) = cNu σ := by
  unfold cFs
  split
  · rfl
  · have e3 : gup σ 1 5 1 3 = σ 3 := funext fun j => gup_ne (by omega)
    unfold cNu
    rw [gup_ne (by omega), gup_ne (by omega), gup_ne (by omega), e3]
