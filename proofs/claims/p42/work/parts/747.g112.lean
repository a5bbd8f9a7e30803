/-! THE LAW: pairs of calls: texts, slots, queries -/
theorem nmR_b {c r : Int32} (h : nmR c r) : 0 ≤ r ∧ (1 ≤ nsz r ∧ nsz r ≤ 5) := by
  obtain ⟨l, ⟨h1, h5⟩, hx, -, er⟩ := h
  have e : (List.range l.length).map (fun i => l.getD i 0) = l := by
    apply List.ext_getElem
    · simp
    · intro i h1 h2
      simp [List.getElem?_eq_getElem h2]
  have hf := (nm_fold (fun i => l.getD i 0) l.length).1
  rw [e] at hf
  rw [hf] at er
  have hd : ∀ i, i < l.length → 1 ≤ l.getD i 0 ∧ l.getD i 0 ≤ 26 := fun i hi => by
    rw [List.getD_eq_getElem?_getD, List.getElem?_eq_getElem hi]
    exact hx _ (List.getElem_mem hi)
  obtain ⟨k, hk⟩ : ∃ k, l.length = k + 1 := ⟨l.length - 1, by omega⟩
  have lo := nRd_ge (d := fun i => l.getD i 0) (k := k) (fun i hi => (hd i (by omega)).1)
  have hi : nRd (fun i => l.getD i 0) l.length < 27 ^ 5 := Nat.lt_of_lt_of_le (nRd_lt (fun i hi => (hd i hi).2)) (Nat.pow_le_pow_right (by decide) h5)
  have l5 : (27 : Nat) ^ 5 = 14348907 := by decide
  rw [← hk] at lo
  have big : nRd (fun i => l.getD i 0) l.length < 2147483648 := by omega
  have pk : 0 < 27 ^ k := Nat.pow_pos (by decide)
  rw [er]
  refine ⟨(iN_le (k := 0) (by decide) big).mpr (Nat.zero_le _), ?_, ?_⟩
  · unfold nsz
    rw [iN_nat big]
    have := nsN_ge 8 0 (nRd (fun i => l.getD i 0) l.length) (by rw [Nat.pow_zero]; omega) (by decide)
    omega
  · unfold nsz
    rw [iN_nat big]
    exact nsN_lt 8 5 _ hi
theorem GR_rf {B : Nat} {σ : gS} (g : GR B σ) : RS σ ∧ RT σ ∧ RZ σ ∧ (2 ≤ σ 324 0 ∧ σ 324 0 ≤ 10) ∧ bF (σ 324) ∧ bT (σ 324) ∧ nmG (σ 324) := by
  obtain ⟨g1, g2, g3, g4, g5, g6, g7, g8, g9⟩ := g
  refine ⟨g7, g9, g8, g2.2.2.2, g2.1, fun t ht => ?_, fun t ht => nmR_b (g1.2.2.2 t ht)⟩
  have ht' : t < nM (cR σ 6) := by rw [agr_n g1.1]; exact ht
  have := g1.2.1.2.1 t ht'
  rw [g1.1.2 t ht' 0 (by decide), g1.1.2 t ht' 1 (by decide), g1.1.2 t ht' 2 (by decide)] at this
  exact this
theorem and255 (x : Int32) : ¬ x &&& 255 = -1 := by
  intro h
  have h2 := congrArg (fun y : Int32 => y.toBitVec.getLsbD 8) h
  have e1 : (x &&& 255).toBitVec.getLsbD 8 = false := by
    rw [Int32.toBitVec_and, BitVec.getLsbD_and, show (255 : Int32).toBitVec.getLsbD 8 = false from by decide, Bool.and_false]
  have e2 : (-1 : Int32).toBitVec.getLsbD 8 = true := by decide
  have h2 : (x &&& 255).toBitVec.getLsbD 8 = (-1 : Int32).toBitVec.getLsbD 8 := h2
  rw [e1, e2] at h2
  cases h2
/-- as Pr, the reference's answer not told -/
noncomputable def Pa (n : Nat) (σ : gS) (z2 : Nat) (L2 : gL) (Q : Int32 → gS → Prop) : Prop := ∀ x1 s1, Sc σ s1 → (∀ Q2 : Int32 → gS → Prop, (∀ x2 τ, GI (n + 1) τ → Sc σ τ → Q2 x2 τ) → gXi z2 L2 s1 Q2) → Q x1 s1
theorem Pa_r {n : Nat} {σ : gS} {z2 : Nat} {L2 : gL} {Q : Int32 → gS → Prop} (k : Pa n σ z2 L2 Q) : Pr n σ z2 L2 Q := fun x1 s1 hs h => k x1 s1 hs (fun Q2 h2 => h Q2 (fun τ a b => h2 x1 τ a b))
