-- text 116
/-! THE LAW: pairs of queries, equal answers -/
theorem agr_JF {R S : gW} (h : agr R S) (f : Int32) : fJF R f = fJF S f := by
  unfold fJF
  rw [← agr_n h]
  exact sm_congr (fun j hj => by rw [h.2 j hj 2 (by decide), agr_Jo h hj])
theorem agr_MF {R S : gW} (h : agr R S) (f : Int32) : fMF R f = fMF S f := by
  unfold fMF
  rw [← agr_n h]
  congr 1
  exact cnt_congr (fun j hj => by rw [h.2 j hj 2 (by decide)])
/-- the travellers of a family, table by table -/
theorem mem_part {R : gW} {f : Int32} : ∀ n, (∀ t, t < n → 0 ≤ fld R t 0 ∧ fld R t 0 < 40) → cnt (memP R (iN 0) f) n + cnt (memP R (iN 1) f) n + cnt (memP R (iN 2) f) n + cnt (memP R (iN 3) f) n + cnt (memP R (iN 4) f) n = cnt (fun t => decide (fld R t 2 = f)) n
  | 0, _ => rfl
  | n + 1, h => by
    have ih := mem_part (R := R) (f := f) n (fun t ht => h t (by omega))
    obtain ⟨k, hk, e⟩ := i8 (h n (by omega))
    have m : ∀ a, a < 5 → (if memP R (iN a) f n = true then 1 else 0) = (if a = k ∧ fld R n 2 = f then 1 else 0) := by
      intro a ha
      have e2 : (fld R n 0 / 8 = iN a ∧ fld R n 2 = f) ↔ (a = k ∧ fld R n 2 = f) := by
        rw [e]
        exact ⟨fun z => ⟨((iN_inj (by omega) (by omega)).mp z.1).symm, z.2⟩, fun z => ⟨by rw [z.1], z.2⟩⟩
      unfold memP
      by_cases q : a = k ∧ fld R n 2 = f
      · rw [if_pos q, if_pos (decide_eq_true (e2.mpr q))]
      · rw [if_neg q, if_neg (fun z => q (e2.mp (of_decide_eq_true z)))]
    have m2 : (if decide (fld R n 2 = f) = true then 1 else 0) = (if fld R n 2 = f then 1 else 0) := by
      by_cases q : fld R n 2 = f
      · rw [if_pos q, if_pos (decide_eq_true q)]
      · rw [if_neg q, if_neg (fun z => q (of_decide_eq_true z))]
    show (cnt _ n + _) + (cnt _ n + _) + (cnt _ n + _) + (cnt _ n + _) + (cnt _ n + _) = cnt _ n + _
    rw [m 0 (by omega), m 1 (by omega), m 2 (by omega), m 3 (by omega), m 4 (by omega), m2, ← ih]
    by_cases q : fld R n 2 = f
    · rw [if_pos q]
      have hk5 : k = 0 ∨ k = 1 ∨ k = 2 ∨ k = 3 ∨ k = 4 := by omega
      rcases hk5 with rfl | rfl | rfl | rfl | rfl <;> simp [q] <;> omega
    · rw [if_neg q]
      simp [q]
theorem TC_seat {σ : gS} (h : TC σ 6) : ∀ t, t < nM (cR σ 6) → 0 ≤ fld (cR σ 6) t 0 ∧ fld (cR σ 6) t 0 < 40 := fun t ht => (h.2.1 t ht).2.1
theorem cFm_e {σ : gS} {R : gW} (hc : TC σ 6) (h : agr (cR σ 6) R) {k : Nat} (hk : k < 10) : cFm σ (iN k) = fMF R (iN k) := by
  rw [← agr_MF h]
  unfold cFm fMF
  rw [← mem_part _ (TC_seat hc)]
  have e : ∀ a, a < 5 → cMa σ 6 (iN a) (iN k) = iN (mem (cR σ 6) (iN a) (iN k)) := fun a ha => by
    rw [cMa_of ha hk]
    exact hc.2.2 a ha k hk
  show ((((0 + cMa σ 6 (iN 0) (iN k)) + cMa σ 6 (iN 1) (iN k)) + cMa σ 6 (iN 2) (iN k)) + cMa σ 6 (iN 3) (iN k)) + cMa σ 6 (iN 4) (iN k) = _
  rw [e 0 (by decide), e 1 (by decide), e 2 (by decide), e 3 (by decide), e 4 (by decide), show (0 : Int32) = iN 0 from rfl, iN_add, iN_add, iN_add, iN_add, iN_add, Nat.zero_add]
  rfl
