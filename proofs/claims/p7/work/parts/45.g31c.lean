theorem mem_agr {R S : gW} (h : agr R S) (b f : Int32) : mem R b f = mem S b f := by
  unfold mem
  rw [← agr_n h]
  refine cnt_congr (fun j hj => ?_)
  unfold memP
  rw [h.2 j hj 0 (by decide), h.2 j hj 2 (by decide)]
theorem bT_agr {R S : gW} (h : agr R S) (hb : bT R) : bT S := by
  intro t ht
  rw [← agr_n h] at ht
  rw [← h.2 t ht 1 (by decide), ← h.2 t ht 0 (by decide), ← h.2 t ht 2 (by decide)]
  exact hb t ht
/-- a copy stands for the same row -/
theorem cCo_ok {σ : gS} {p q : Nat} {R : gW} (hpq : q + 26 ≤ p ∨ p + 26 ≤ q) (h : SV σ q R) : SV (cCo σ p q) p R := by
  obtain ⟨b3, bn, e7⟩ := SV_3 h
  obtain ⟨h1, ⟨t1, t2, t3⟩, h3, h4⟩ := h
  have en : (σ q 7).toNatClampNeg = nM R := by rw [e7]; rfl
  have hn : (σ q 7).toNatClampNeg ≤ 20 := by omega
  have e3 : cR (cCo σ p q) p 3 = cR σ q 3 := by rw [cR_3, cR_3, cCo_hd hpq hn (by decide) (by decide)]
  have eN : nM (cR (cCo σ p q) p) = nM R := by
    unfold nM
    rw [e3, cR_3, e7]
  have ha : agr (cR (cCo σ p q) p) (cR σ q) := by
    refine ⟨fun j hj => ?_, fun t ht f hf => ?_⟩
    · rw [cR_h hj, cR_h hj, cCo_hd hpq hn (by omega) (by omega)]
    · rw [eN] at ht
      rw [cR_f (by omega) hf, cR_f (by omega) hf, cCo_tr hn (by omega) (by omega)]
  refine ⟨agr_trans ha h1, ⟨by rw [e3]; exact t1, bT_agr (agr_symm ha) t2, ?_⟩, ?_, ?_⟩
  · intro a ha2 f hf
    rw [cCo_me hpq hn (by omega), mem_agr ha]
    exact t3 a ha2 f hf
  · obtain ⟨l1, l2, l3⟩ := cCo_lg (σ := σ) hpq hn
    obtain ⟨O, S, eo, es, lo, ls, no, ns⟩ := bLg_n h3.1
    refine ⟨?_, ?_, ?_⟩
    · unfold bLg
      rw [l1, l2]
      exact h3.1
    · rw [l2]; exact h3.2.1
    · intro i hi c hc
      rw [l2] at hi
      rw [l1, l3 _ (by have := Nat.mod_lt ((σ (q + 24) 1).toNatClampNeg + i) (show 0 < 40 by decide); omega)]
      exact h3.2.2 i hi c hc
  · intro t ht
    rw [cCo_tr hn (by omega) (by omega)]
    exact h4 t ht
