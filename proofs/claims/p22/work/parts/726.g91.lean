-- text 91
/-! THE REFERENCE: a seat is read, its steps -/
/-- a word has a number that is not below 0 -/
noncomputable def KV (σ : gS) : Prop := σ 323 13 = 1 → 0 ≤ σ 323 14
theorem skp_in {P : Nat → Bool} : ∀ {d s i : Nat}, s ≤ i → i < skp P d s → P i = true
  | 0, s, i, h, h2 => by
    have h2 : i < s := h2
    omega
  | d + 1, s, i, h, h2 => by
    unfold skp at h2
    by_cases q : P s = true
    · rw [if_pos q] at h2
      by_cases e : i = s
      · subst e; exact q
      · exact skp_in (d := d) (s := s + 1) (by omega) h2
    · rw [if_neg q] at h2
      omega
/-- the letters from S on -/
noncomputable def dgS (T : gW) (S i : Nat) : Nat := dgt (fun k => T (S + k)) i
theorem wvN_e {T : gW} {S : Nat} : ∀ {k : Nat}, k ≤ 6 → (∀ i, i < k → isSm (T (S + i))) → wvN T S k = iN (nRd (dgS T S) k) ∧ nRd (dgS T S) k < 27 ^ 6
  | 0, _, _ => ⟨rfl, (show (0 : Nat) < 27 ^ 6 from by decide)⟩
  | k + 1, h6, hs => by
    obtain ⟨ih, _⟩ := wvN_e (T := T) (S := S) (k := k) (by omega) (fun j hj => hs j (by omega))
    obtain ⟨e1, e2, e3⟩ := dgt_of (hs k (by omega))
    have l : nRd (dgS T S) k < 27 ^ 5 := Nat.lt_of_lt_of_le (nRd_lt (fun i hi => (dgt_of (hs i (by omega))).2.2)) (Nat.pow_le_pow_right (by decide) (by omega))
    have l5 : (27 : Nat) ^ 5 = 14348907 := by decide
    have l6 : (27 : Nat) ^ 6 = 387420489 := by decide
    have ed : dgS T S k = (T (S + k)).toNatClampNeg - 96 := rfl
    rw [l5] at l
    rw [l6]
    refine ⟨?_, ?_⟩
    · show 27 * wvN T S k + T (S + k) - 96 = iN (27 * nRd (dgS T S) k + dgS T S k)
      rw [ih, e1]
      show iN 27 * iN (nRd (dgS T S) k) + iN (96 + ((T (S + k)).toNatClampNeg - 96)) - 96 = _
      rw [← ed, iN_mul, iN_add, show 27 * nRd (dgS T S) k + dgS T S k = 27 * nRd (dgS T S) k + (96 + dgS T S k) - 96 by omega]
      exact iN_sub (d := 96) (by omega) (by omega)
    · show 27 * nRd (dgS T S) k + dgS T S k < _
      omega
theorem rnE_in {c : Int32} {T : gW} {L S : Nat} : ∀ i, i < rnE c T L S - S → cKd (T (S + i)) = c := fun i hi => of_decide_eq_true (skp_in (P := fun i => decide (cKd (T i) = c)) (d := L - S) (s := S) (i := S + i) (by omega) (by unfold rnE at hi; omega))
theorem rNx_KV {σ : gS} : KV (rNx σ) := by
  intro h
  rw [rNx_e] at h ⊢
  unfold rNx4 at h ⊢
  rw [if_pos rfl, if_neg (by decide), if_neg (by decide), if_pos rfl] at h
  rw [if_pos rfl, if_neg (by decide), if_neg (by decide), if_neg (by decide), if_pos rfl]
  obtain ⟨S, hS⟩ : ∃ S, rSt σ = S := ⟨_, rfl⟩
  obtain ⟨L, hL⟩ : ∃ L, (σ 323 8).toNatClampNeg = L := ⟨_, rfl⟩
  rw [hS, hL] at h ⊢
  unfold rKi at h
  unfold rVa
  by_cases q : S = L
  · rw [if_pos q] at h
    exact absurd h (by decide)
  · rw [if_neg q] at h ⊢
    by_cases q1 : isSm (σ 330 S)
    · rw [if_pos q1] at h ⊢
      have hp : rPl (σ 330) L S = rnE 2 (σ 330) L S := by unfold rPl; rw [if_neg q, if_pos q1]
      rw [hp] at h ⊢
      by_cases q2 : 6 < rnE 2 (σ 330) L S - S
      · rw [if_pos q2] at h
        exact absurd h (by decide)
      · rw [show min (rnE 2 (σ 330) L S - S) 6 = rnE 2 (σ 330) L S - S by omega]
        obtain ⟨e, l⟩ := wvN_e (T := σ 330) (S := S) (k := rnE 2 (σ 330) L S - S) (by omega) (fun i hi => cKd_2.mp (rnE_in i hi))
        have l6 : (27 : Nat) ^ 6 = 387420489 := by decide
        rw [e]
        exact (iN_le (k := 0) (by decide) (by omega)).mpr (by omega)
    · rw [if_neg q1] at h ⊢
      by_cases q2 : isDg (σ 330 S)
      · rw [if_pos q2] at h
        exfalso
        split at h
        · exact absurd h (by decide)
        · exact absurd h (by decide)
      · rw [if_neg q2]
        decide
theorem rTk_KV {σ : gS} {c : Int32} (h : KV σ) : KV (rTk σ c) := by
  rw [rTk_e]
  split
  · split
    · intro q
      rw [gup_ne (by omega), gup_ne (by omega)] at q ⊢
      exact h q
    · exact rNx_KV
  · exact h
theorem rTk_f {σ : gS} {c : Int32} (h : ¬ σ 323 15 = 0) : rTk σ c = σ := by rw [rTk_e, if_neg h]
noncomputable def qT (σ : gS) (n : Nat) : gS := if rTw σ 291828332 then gup (rNx σ) 325 (9 + 10 * n + 1) 1 else σ
noncomputable def qF (σ : gS) (n : Nat) : gS := if rTw σ 86887672 then gup (rTn (rNx σ) 1 9) 325 (9 + 10 * n + 2) (rNm (rNx σ) 1 9) else σ
noncomputable def qW (σ : gS) (n : Nat) : gS := if rTw σ 335086736 then gup (rTn (rLk (rNx σ)) 0 9) 325 (9 + 10 * n + 3) (rLi (rNx σ)) else σ
noncomputable def qAh (σ : gS) (n : Nat) : gS := if rTw σ 692581 then gup (rTn (rLk (rNx σ)) 0 9) 325 (9 + 10 * n + 4) (rLi (rNx σ)) else σ
noncomputable def qR1 (σ : gS) (n : Nat) : gS := gup (rTn (rNx σ) 0 (σ 325 0 - 1)) 325 (9 + 10 * n + 5) (rNm (rNx σ) 0 (σ 325 0 - 1))
noncomputable def qR (σ : gS) (n : Nat) : gS := if rTw σ 13550 then gup (rTn (qR1 σ n) 0 3) 325 (9 + 10 * n + 6) (rNm (qR1 σ n) 0 3) else σ
noncomputable def qS (σ : gS) (n : Nat) : gS := if rTw σ 284954995 then gup (rTn (rNx σ) 0 99) 325 (9 + 10 * n + 7) (rNm (rNx σ) 0 99) else σ
noncomputable def qP (σ : gS) (n : Nat) : gS := if rTw σ 388978 then gup (rTn (rNx σ) 1 99) 325 (9 + 10 * n + 8) (rNm (rNx σ) 1 99) else σ
noncomputable def qZ (σ : gS) (n : Nat) (x : Int32) : gS := if σ 323 13 = 3 ∧ fMay (σ 325) n x then (if σ 323 15 = 0 then gup (rTk σ 1) 325 3 (rTk σ 1 325 3 + 1) else σ) else rTk σ 0
/-- what the steps leave: the parser can go on; no other place is touched; the train's head stays -/
noncomputable def qI (σ τ : gS) : Prop := (NX σ → NX τ) ∧ (∀ q, ¬ q = 323 → ¬ q = 325 → τ q = σ q) ∧ (∀ j, j < 9 → τ 325 j = σ 325 j)
theorem qI_id (σ : gS) : qI σ σ := ⟨fun h => h, fun _ _ _ => rfl, fun _ _ => rfl⟩
theorem qI_t {σ τ ρ : gS} (h : qI σ τ) (h2 : qI τ ρ) : qI σ ρ := ⟨fun h3 => h2.1 (h.1 h3), fun q a b => (h2.2.1 q a b).trans (h.2.1 q a b), fun j hj => (h2.2.2 j hj).trans (h.2.2 j hj)⟩
theorem qI_25 {σ τ : gS} {j : Nat} {x : Int32} (h : qI σ τ) (hj : 9 ≤ j) : qI σ (gup τ 325 j x) := qI_t h ⟨fun h => NX_25 h, fun q a b => funext fun i => gup_ne (by omega), fun i hi => gup_ne (by omega)⟩
theorem qI_nx (σ : gS) : qI σ (rNx σ) := ⟨rNx_NX, fun q a _ => rNx_far a, fun j _ => by rw [rNx_far (by decide)]⟩
theorem qI_tk (σ : gS) (c : Int32) : qI σ (rTk σ c) := ⟨rTk_NX, fun q a _ => rTk_far a, fun j _ => by rw [rTk_far (by decide)]⟩
theorem qI_tn (σ : gS) (a b : Int32) : qI σ (rTn σ a b) := qI_tk _ _
theorem qI_lk (σ : gS) : qI σ (rLk σ) := qI_tk _ _
theorem qT_I {σ : gS} {n : Nat} : qI σ (qT σ n) := by
  unfold qT
  split
  · exact qI_25 (qI_nx σ) (by omega)
  · exact qI_id σ
theorem qF_I {σ : gS} {n : Nat} : qI σ (qF σ n) := by
  unfold qF
  split
  · exact qI_25 (qI_t (qI_nx σ) (qI_tn _ _ _)) (by omega)
  · exact qI_id σ
theorem qW_I {σ : gS} {n : Nat} : qI σ (qW σ n) := by
  unfold qW
  split
  · exact qI_25 (qI_t (qI_t (qI_nx σ) (qI_lk _)) (qI_tn _ _ _)) (by omega)
  · exact qI_id σ
theorem qAh_I {σ : gS} {n : Nat} : qI σ (qAh σ n) := by
  unfold qAh
  split
  · exact qI_25 (qI_t (qI_t (qI_nx σ) (qI_lk _)) (qI_tn _ _ _)) (by omega)
  · exact qI_id σ
theorem qR1_I {σ : gS} {n : Nat} : qI σ (qR1 σ n) := qI_25 (qI_t (qI_nx σ) (qI_tn _ _ _)) (by omega)
theorem qR_I {σ : gS} {n : Nat} : qI σ (qR σ n) := by
  unfold qR
  split
  · exact qI_25 (qI_t qR1_I (qI_tn _ _ _)) (by omega)
  · exact qI_id σ
theorem qS_I {σ : gS} {n : Nat} : qI σ (qS σ n) := by
  unfold qS
  split
  · exact qI_25 (qI_t (qI_nx σ) (qI_tn _ _ _)) (by omega)
  · exact qI_id σ
theorem qP_I {σ : gS} {n : Nat} : qI σ (qP σ n) := by
  unfold qP
  split
  · exact qI_25 (qI_t (qI_nx σ) (qI_tn _ _ _)) (by omega)
  · exact qI_id σ
noncomputable def qMid (σ : gS) (n : Nat) : gS := qP (qS (qR (qAh (qW (qF (qT σ n) n) n) n) n) n) n
theorem qMid_I {σ : gS} {n : Nat} : qI σ (qMid σ n) := qI_t (qI_t (qI_t (qI_t (qI_t (qI_t qT_I qF_I) qW_I) qAh_I) qR_I) qS_I) qP_I
abbrev q2c (σ : gS) (x : Int32) : Prop := σ 323 13 = 2 ∧ x < 4 * σ 325 0 ∧ fWho (σ 325) x < 0
abbrev q3c (σ : gS) : Prop := σ 323 13 = 1 ∧ (nsz (σ 323 14) ≤ 5 ∧ ¬ isKey (σ 323 14))
