/-- what the class writes for a name, and what the reference does -/
def nmR (c r : Int32) : Prop := ∃ l : List Nat, (1 ≤ l.length ∧ l.length ≤ 5) ∧ (∀ x, x ∈ l → 1 ≤ x ∧ x ≤ 26) ∧ c = iN (l.foldr (fun x s => x + 32 * s) 0) ∧ r = iN (l.foldl (fun s x => 27 * s + x) 0)
/-- the train at place p stands for the row R -/
def SV (σ : gS) (p : Nat) (R : gW) : Prop := agr (cR σ p) R ∧ TC σ p ∧ LR σ (p + 24) R ∧ ∀ t, t < nM R → nmR (σ (p + 2 + t) 0) (R (9 + 10 * t + 9))
theorem SV_3 {σ : gS} {p : Nat} {R : gW} (h : SV σ p R) : (0 ≤ R 3 ∧ R 3 ≤ 20) ∧ nM R ≤ 20 ∧ σ p 7 = R 3 := by
  have e : cR σ p 3 = R 3 := h.1.1 3 (by decide)
  have h2 := h.2.1.1
  rw [e] at h2
  refine ⟨h2, (nM_of h2).2, ?_⟩
  rw [← e, cR_3]
theorem SV_b {σ : gS} {p : Nat} {R : gW} (h : SV σ p R) : bN R := ⟨(SV_3 h).1, LR_b h.2.2.1⟩
/-- heaps that are the same in a train's block -/
theorem cR_blk {σ τ : gS} {p : Nat} (h : ∀ q, p ≤ q → q < p + 26 → τ q = σ q) : cR τ p = cR σ p := by
  funext j
  unfold cR
  by_cases h1 : j < 9
  · rw [if_pos h1, if_pos h1, h p (by omega) (by omega)]
  · rw [if_neg h1, if_neg h1]
    by_cases h2 : j < 209
    · rw [if_pos h2, if_pos h2, h _ (by omega) (by omega)]
    · rw [if_neg h2, if_neg h2]
theorem SV_blk {σ τ : gS} {p : Nat} {R : gW} (h : SV σ p R) (hq : ∀ q, p ≤ q → q < p + 26 → τ q = σ q) : SV τ p R := by
  obtain ⟨h1, ⟨t1, t2, t3⟩, h3, h4⟩ := h
  have e := cR_blk hq
  refine ⟨by rw [e]; exact h1, ⟨by rw [e]; exact t1, by rw [e]; exact t2, ?_⟩, ?_, ?_⟩
  · intro a ha f hf
    rw [e, hq _ (by omega) (by omega)]
    exact t3 a ha f hf
  · unfold LR bLg
    rw [hq (p + 24) (by omega) (by omega), hq (p + 24 + 1) (by omega) (by omega)]
    exact h3
  · intro t ht
    have hn := (SV_3 ⟨h1, ⟨t1, t2, t3⟩, h3, h4⟩).2.1
    rw [hq _ (by omega) (by omega)]
    exact h4 t ht
theorem SV_row {σ : gS} {p : Nat} {R S : gW} (h : SV σ p R) (hs : ∀ j, j < 330 → S j = R j) : SV σ p S := by
  have hn := (SV_3 h).2.1
  obtain ⟨h1, h2, h3, h4⟩ := h
  have en : nM S = nM R := by unfold nM; rw [hs 3 (by decide)]
  refine ⟨?_, h2, LR_same h3 (fun j _ hj => hs j hj), ?_⟩
  · refine ⟨fun j hj => by rw [hs j (by omega)]; exact h1.1 j hj, fun t ht f hf => ?_⟩
    have hl : t < nM R := by rw [← agr_n h1]; exact ht
    unfold fld at *
    rw [hs _ (by omega)]
    exact h1.2 t ht f hf
  · intro t ht
    rw [en] at ht
    rw [hs _ (by omega)]
    exact h4 t ht
-- text 32
/-! CLASS AND REFERENCE: copies, the past -/
