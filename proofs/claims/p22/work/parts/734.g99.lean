-- text 99
/-! RELATION: a setup is read by both -/
theorem PQ_wr {T : gW} {L : Nat} {σ τ ρ : gS} (h : PQ T L σ τ) (hw : ¬ σ 1 5 = 0) (hp : WP σ ρ) (h2 : ρ 2 = σ 2) (h3 : ρ 3 = σ 3) : PQ T L ρ τ := by
  obtain ⟨hc, ⟨w, f, ht⟩ | ⟨w, f, he⟩⟩ := h
  · exact absurd w hw
  · obtain ⟨z1, z2⟩ := hp hw
    refine ⟨?_, Or.inr ⟨z1, f, by rw [z2]; exact he⟩⟩
    unfold PC at *
    rw [h2, h3]
    exact hc
noncomputable def HL (T : gW) (L n : Nat) (σ τ : gS) : Prop := PQ T L σ τ ∧ (σ 1 5 = 0 → SV σ 32 (τ 325) ∧ GD (99 * n) (τ 325) ∧ nM (τ 325) = n)
theorem PQ_fw {T : gW} {L : Nat} {σ τ : gS} (h : PQ T L σ τ) (hw : ¬ σ 1 5 = 0) : ¬ τ 323 15 = 0 ∧ τ 323 9 = σ 1 2 := by
  obtain ⟨hc, ⟨w, f, ht⟩ | ⟨w, f, he⟩⟩ := h
  · exact absurd w hw
  · exact ⟨f, he⟩
theorem PQ_f9 {T : gW} {L : Nat} {σ τ : gS} (h : PQ T L σ τ) (hw : σ 1 5 = 0) : τ 323 15 = 0 ∧ τ 323 9 = -2 := by
  obtain ⟨hc, ⟨w, f, ht⟩ | ⟨w, f, he⟩⟩ := h
  · exact f
  · exact absurd hw w
/-- one more traveller -/
theorem TR_all {T : gW} {L n : Nat} {σ τ : gS} (h : HL T L n σ τ) (w : σ 1 5 = 0) (hs : rIs τ 377669) (h20 : n < 20) : HL T L (n + 1) (rTrv σ) (hRs τ) := by
  obtain ⟨hq, hv⟩ := h
  obtain ⟨hV, hG, hn⟩ := hv w
  obtain ⟨b3, bn, e7⟩ := SV_3 hV
  have r3 : τ 325 3 = iN n := by rw [← hn]; exact (nM_of b3).1
  have h7 : 0 ≤ σ 32 7 ∧ σ 32 7 < 20 := by
    rw [e7, r3]
    exact ⟨(iN_le (k := 0) (by decide) (by omega)).mpr (by omega), (iN_lt (m := 20) (by omega) (by decide)).mpr h20⟩
  obtain ⟨k1, k2⟩ := TR_h hq hs hV hG hn
  have eR : hRs τ = hRs2 (rTk (rTk τ 1) (bI (q2c (rTk τ 1) (rTk τ 1 323 14)))) n (rTk τ 1 323 14) := by
    rw [hRs_e, if_pos (by rw [r3]; exact (iN_lt (m := 20) (by omega) (by decide)).mpr h20)]
    have en3 : (rTk τ 1 325 3).toNatClampNeg = n := by rw [rTk_25, r3, iN_nat (by omega)]
    unfold hRs1
    rw [en3]
  rw [eR]
  unfold hRs2
  obtain ⟨x, hx⟩ : ∃ x, rTk τ 1 323 14 = x := ⟨_, rfl⟩
  rw [hx] at k1 k2 ⊢
  obtain ⟨b, hb⟩ : ∃ b, rTk (rTk τ 1) (bI (q2c (rTk τ 1) x)) = b := ⟨_, rfl⟩
  rw [hb] at k1 k2 ⊢
  by_cases q : rC (rB (rA σ)) 1 5 = 0
  · obtain ⟨c1, c2⟩ := k2 q
    rw [if_pos c1]
    rw [bI_y c1.2] at k1
    have p0 : PS T L n x (τ 325) (rC (rB (rA σ))) (grow (rTk b 1) 325 (fNew (b 325) x (b 323 14))) := ⟨PQ_cg k1 rfl rfl rfl (grow_ne (by decide)) (grow_ne (by decide)), fun _ => c2⟩
    have eh : σ 32 4 = τ 325 0 := by
      have := hV.1.1 0 (by decide)
      rw [cR_h (by decide)] at this
      exact this
    have p1 := TR_mid p0 ⟨eh, hG.2.2.2⟩
    have hq2 : q2c (rTk τ 1) x := by
      by_cases z : q2c (rTk τ 1) x
      · exact z
      · exfalso
        have c0 := c1.1
        rw [← hb, bI_n z, rTk_e] at c0
        split at c0
        · rw [if_pos rfl, gup_ne (by omega), gup_at] at c0
          exact absurd c0 (by decide)
        · rename_i z2
          exact z2 c0
    have hx4 : x < 4 * τ 325 0 := by
      have := hq2.2.1
      rw [rTk_25] at this
      exact this
    have := TR_Z p1 (SV_blk hV (fun q q1 q2 => rMid_far (by omega) (by omega))) hG hn h20 hx4
    rw [rTrv_e]
    exact this
  · have c0 : ¬ (b 323 15 = 0 ∧ q3c b) := by
      intro z
      rw [bI_y z.2] at k1
      obtain ⟨f1, f2⟩ := PQ_fw k1 q
      apply f1
      rw [rTk_e, if_pos z.1, if_neg (by decide), rNx_3 (by omega)]
      exact z.1
    rw [if_neg c0]
    have k3 : PQ T L (rC (rB (rA σ))) (rTk b 0) := by
      by_cases z : b 323 15 = 0
      · have nq : ¬ q3c b := fun y => c0 ⟨z, y⟩
        rw [bI_n nq] at k1
        exact k1
      · rw [rTk_f z] at k1 ⊢
        exact k1
    obtain ⟨w1, w2⟩ := WP_trv h7
    have e2 : ∀ p, p = 2 ∨ p = 3 → rTrv σ p = rC (rB (rA σ)) p := fun p hp => by rw [rTrv_far (by omega) (by omega) h7 (by omega), rC_far (by omega) (by omega), rB_far (by omega) (by omega), rA_far (by omega) (by omega)]
    exact ⟨PQ_wr k3 q w1 (e2 2 (by omega)) (e2 3 (by omega)), fun z => absurd z (w1 q).1⟩
/-- how a setup ends: well in both, or wrong in both at the same place -/
noncomputable def FN (σ τ : gS) : Prop := ((σ 1 4 = 0 ∧ σ 1 5 = 0) ∧ (τ 323 15 = 0 ∧ τ 323 9 = -2) ∧ SV σ 32 (τ 325) ∧ GD 1980 (τ 325)) ∨ (¬ (σ 1 4 = 0 ∧ σ 1 5 = 0) ∧ ¬ τ 323 15 = 0 ∧ τ 323 9 = σ 1 2)
theorem cLp_w : ∀ (d : Nat) (σ : gS), ¬ σ 1 5 = 0 → cLp d σ = σ
  | 0, σ, _ => rfl
  | d + 1, σ, h => by unfold cLp; rw [if_pos (Or.inr h)]
theorem cLp_0 : ∀ (d : Nat) (σ : gS), σ 1 4 = 0 → cLp d σ = σ
  | 0, σ, _ => rfl
  | d + 1, σ, h => by unfold cLp; rw [if_pos (Or.inl h)]
theorem rLp_w : ∀ (d : Nat) (σ : gS), (¬ σ 323 15 = 0 ∨ ¬ rIs σ 377669) → rLp d σ = σ
  | 0, σ, _ => rfl
  | d + 1, σ, h => by unfold rLp; rw [if_pos h]
theorem FN_w {T : gW} {L d e : Nat} {σ τ : gS} (h : PQ T L σ τ) (w : ¬ σ 1 5 = 0) : FN (cLp d σ) (hEd (rLp e τ)) := by
  obtain ⟨f1, f2⟩ := PQ_fw h w
  rw [cLp_w d σ w, rLp_w e τ (Or.inl f1)]
  unfold hEd
  rw [if_neg (fun z => f1 z.1)]
  exact Or.inr ⟨fun z => w z.2, f1, f2⟩
theorem FN_lp {T : gW} {L : Nat} : ∀ (d n : Nat) (σ τ : gS), n + d = 20 → HL T L n σ τ → FN (cLp d σ) (hEd (rLp (d + 1) τ)) := by
  intro d
  induction d with
  | zero =>
    intro n σ τ hd h
    have n20 : n = 20 := by omega
    subst n20
    by_cases w : σ 1 5 = 0
    · obtain ⟨hV, hG, hn⟩ := h.2 w
      obtain ⟨f, f9⟩ := PQ_f9 h.1 w
      obtain ⟨f', m, ht⟩ := PQ_no h.1 w
      have en := PT_end h.1.1 ht
      show FN σ _
      by_cases k : σ 1 4 = 0
      · have k2 := en.mp k
        rw [rLp_w _ τ (Or.inr (fun z => by have z1 := z.1; rw [k2] at z1; exact absurd z1 (by decide)))]
        unfold hEd
        rw [if_neg (fun z => z.2 k2)]
        exact Or.inl ⟨⟨k, w⟩, ⟨f, f9⟩, hV, hG⟩
      · have k2 : ¬ τ 323 13 = 0 := fun z => k (en.mpr z)
        have e9 : rTk τ 0 323 9 = σ 1 2 := by
          rw [rTk_e, if_pos f, if_pos rfl, gup_at, ht.2.1.1]
          exact ht.2.2.1
        have r3 : τ 325 3 = iN 20 := by rw [← hn]; exact (nM_of (SV_3 hV).1).1
        have step : hEd (rLp 1 τ) = rTk τ 0 := by
          by_cases q : rIs τ 377669
          · have e1 : rLp 1 τ = hRs τ := by
              unfold rLp
              rw [if_neg (fun z => z.elim (fun z => z f) (fun z => z q))]
              rfl
            have e2 : hRs τ = rTk τ 0 := by
              rw [hRs_e, if_neg (by rw [r3]; decide)]
            rw [e1, e2]
            unfold hEd
            rw [if_neg (fun z => rTk0_f z.1)]
          · rw [rLp_w _ τ (Or.inr q)]
            unfold hEd
            rw [if_pos ⟨f, k2⟩]
        rw [step]
        exact Or.inr ⟨fun z => k z.1, rTk0_f, e9⟩
    · exact FN_w h.1 w
  | succ d ih =>
    intro n σ τ hd h
    by_cases w : σ 1 5 = 0
    · obtain ⟨hV, hG, hn⟩ := h.2 w
      obtain ⟨f, f9⟩ := PQ_f9 h.1 w
      obtain ⟨f', m, ht⟩ := PQ_no h.1 w
      have en := PT_end h.1.1 ht
      by_cases k : σ 1 4 = 0
      · have k2 := en.mp k
        rw [cLp_0 _ σ k, rLp_w _ τ (Or.inr (fun z => by have z1 := z.1; rw [k2] at z1; exact absurd z1 (by decide)))]
        unfold hEd
        rw [if_neg (fun z => z.2 k2)]
        exact Or.inl ⟨⟨k, w⟩, ⟨f, f9⟩, hV, GD_mono hG (by omega)⟩
      · have k2 : ¬ τ 323 13 = 0 := fun z => k (en.mpr z)
        have e1 : cLp (d + 1) σ = cLp d (rTrv σ) := by
          show (if _ then _ else _) = _
          rw [if_neg (fun z => z.elim k (fun z => z w))]
        rw [e1]
        by_cases q : rIs τ 377669
        · have e2 : rLp (d + 1 + 1) τ = rLp (d + 1) (hRs τ) := by
            show (if _ then _ else _) = _
            rw [if_neg (fun z => z.elim (fun z => z f) (fun z => z q))]
          rw [e2]
          exact ih (n + 1) _ _ (by omega) (TR_all h w q (by omega))
        · rw [rLp_w _ τ (Or.inr q)]
          have kA := TR_A h.1
          rw [bI_n q] at kA
          have wA : ¬ rA σ 1 5 = 0 := by
            intro z
            exact rTk0_f (PQ_f9 kA z).1
          obtain ⟨b3, bn, e7⟩ := SV_3 hV
          have r3 : τ 325 3 = iN n := by rw [← hn]; exact (nM_of b3).1
          have h7 : 0 ≤ σ 32 7 ∧ σ 32 7 < 20 := by
            rw [e7, r3]
            exact ⟨(iN_le (k := 0) (by decide) (by omega)).mpr (by omega), (iN_lt (m := 20) (by omega) (by decide)).mpr (by omega)⟩
          obtain ⟨w1, w2⟩ := WP_trv h7
          obtain ⟨g1, g2⟩ := w2 wA
          obtain ⟨f1, f2⟩ := PQ_fw kA wA
          have eE : hEd τ = rTk τ 0 := by
            unfold hEd
            rw [if_pos ⟨f, k2⟩]
          rw [cLp_w d _ g1, eE]
          exact Or.inr ⟨fun z => g1 z.2, f1, by rw [g2]; exact f2⟩
    · exact FN_w h.1 w
