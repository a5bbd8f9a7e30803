/-! RELATION: a new traveller -/
theorem SV_adm {σ : gS} {p w n : Nat} {R S : gW} (h : SV σ p R) (hw : w < p ∨ p + 26 ≤ w) (hn : nM R = n) (h20 : n < 20) (g0 : 0 ≤ σ w 1 ∧ σ w 1 < 40) (g1 : σ w 2 = 0 ∨ σ w 2 = 1) (g2 : 0 ≤ σ w 3 ∧ σ w 3 ≤ 9)
    (s3 : S 3 = iN (n + 1)) (sH : ∀ j, j < 9 → ¬ j = 3 → S j = R j) (sF : ∀ j, 9 ≤ j → j < 9 + 10 * n → S j = R j) (sN : ∀ f, f < 9 → S (9 + 10 * n + f) = σ w (f + 1)) (sM : nmR (σ w 0) (S (9 + 10 * n + 9))) (sL : ∀ j, 209 ≤ j → j < 330 → S j = R j) : SV (cAdm σ p w) p S := by
  obtain ⟨b3, bn, e7⟩ := SV_3 h
  obtain ⟨a1, ⟨t1, t2, t3⟩, l1, n1⟩ := h
  have eN : nM (cR σ p) = nM R := agr_n a1
  have e3 : R 3 = iN n := by rw [← hn]; exact (nM_of b3).1
  have n7 : (σ p 7).toNatClampNeg = n := by rw [e7, e3, iN_nat (by omega)]
  obtain ⟨a0, ha0, ea0⟩ := i8 g0
  obtain ⟨f0, hf0, ef0⟩ := i10 g2
  obtain ⟨τ, hτ⟩ : ∃ τ, cAdm σ p w = τ := ⟨_, rfl⟩
  have cT : ∀ q i, cTv σ (p + 2 + n) w q i = if q = p + 2 + n ∧ i < 10 then σ w i else σ q i := fun q i => rfl
  have ec := cCnt_eq (σ := cTv σ (p + 2 + n) w) (p := p) (w := w) (k := 1) ha0 hf0 (by rw [cT, if_neg (by omega)]; exact ea0) (by rw [cT, if_neg (by omega)]; exact ef0)
  have v : ∀ q i, τ q i = if q = p + 2 + n ∧ i < 10 then σ w i else if q = p ∧ i = 7 then iN (n + 1) else if q = p + 23 ∧ i = a0 * 10 + f0 then σ (p + 23) (a0 * 10 + f0) + 1 else σ q i := by
    intro q i
    rw [← hτ]
    unfold cAdm
    rw [n7, ec, e7, e3, iN_one]
    show (if q = p ∧ i = 7 then iN (n + 1) else if q = p + 23 ∧ i = a0 * 10 + f0 then cTv σ (p + 2 + n) w (p + 23) (a0 * 10 + f0) + 1 else cTv σ (p + 2 + n) w q i) = _
    rw [cT (p + 23), if_neg (show ¬ (p + 23 = p + 2 + n ∧ a0 * 10 + f0 < 10) by omega), cT q i]
    by_cases x1 : q = p + 2 + n ∧ i < 10
    · rw [if_neg (by omega), if_neg (by omega), if_pos x1, if_pos x1]
    · rw [if_neg x1, if_neg x1]
  rw [hτ]
  have c3 : cR τ p 3 = iN (n + 1) := by rw [cR_3, v, if_neg (by omega), if_pos ⟨rfl, rfl⟩]
  have cN : nM (cR τ p) = n + 1 := nM_iN c3 (by omega)
  have sNn : nM S = n + 1 := nM_iN s3 (by omega)
  have fO : ∀ s, s < n → ∀ f, f < 9 → fld (cR τ p) s f = fld (cR σ p) s f := by
    intro s hs f hf
    rw [cR_f (σ := τ) (p := p) (by omega) hf, v, if_neg (by omega), if_neg (by omega), if_neg (by omega), cR_f (σ := σ) (p := p) (by omega) hf]
  have fN : ∀ f, f < 9 → fld (cR τ p) n f = σ w (f + 1) := by
    intro f hf
    rw [cR_f (σ := τ) (p := p) (by omega) hf, v, if_pos ⟨rfl, by omega⟩]
  refine ⟨⟨fun j hj => ?_, fun s hs f hf => ?_⟩, ⟨?_, ?_, ?_⟩, ?_, ?_⟩
  · by_cases q : j = 3
    · subst q
      rw [c3, s3]
    · rw [cR_h hj, v, if_neg (show ¬ (p = p + 2 + n ∧ j + 4 < 10) by omega), if_neg (show ¬ (p = p ∧ j + 4 = 7) by omega), if_neg (show ¬ (p = p + 23 ∧ j + 4 = a0 * 10 + f0) by omega), sH j hj q, ← cR_h (σ := σ) (p := p) hj]
      exact a1.1 j hj
  · rw [cN] at hs
    by_cases q : s < n
    · rw [fO s q f hf]
      show _ = S (9 + 10 * s + f)
      rw [sF _ (by omega) (by omega)]
      exact a1.2 s (by omega) f hf
    · have : s = n := by omega
      subst this
      rw [fN f hf]
      exact (sN f hf).symm
  · rw [c3]
    exact ⟨(iN_le (k := 0) (by decide) (by omega)).mpr (by omega), (iN_le (m := 20) (by omega) (by decide)).mpr (by omega)⟩
  · intro s hs
    rw [cN] at hs
    by_cases q : s < n
    · rw [fO s q 0 (by decide), fO s q 1 (by decide), fO s q 2 (by decide)]
      exact t2 s (by omega)
    · have : s = n := by omega
      subst this
      rw [fN 0 (by decide), fN 1 (by decide), fN 2 (by decide)]
      exact ⟨g1, g0, g2⟩
  · intro a ha g hg
    rw [v, if_neg (by omega), if_neg (by omega)]
    have m := t3 a ha g hg
    have mc : cnt (memP (cR τ p) (iN a) (iN g)) n = mem (cR σ p) (iN a) (iN g) := by
      unfold mem
      rw [eN, hn]
      refine cnt_congr (fun j hj => ?_)
      unfold memP
      rw [fO j hj 0 (by decide), fO j hj 2 (by decide)]
    have mp : memP (cR τ p) (iN a) (iN g) n = true ↔ (a0 = a ∧ f0 = g) := by
      unfold memP
      rw [decide_eq_true_eq, fN 0 (by decide), fN 2 (by decide)]
      show σ w 1 / 8 = iN a ∧ σ w 3 = iN g ↔ _
      rw [ea0, ef0, iN_inj (by omega) (by omega), iN_inj (by omega) (by omega)]
    have md : mem (cR τ p) (iN a) (iN g) = mem (cR σ p) (iN a) (iN g) + (if memP (cR τ p) (iN a) (iN g) n = true then 1 else 0) := by
      rw [← mc]
      show cnt _ (nM (cR τ p)) = _
      rw [cN]
      rfl
    rw [md]
    by_cases q : a0 = a ∧ f0 = g
    · rw [if_pos (mp.mpr q)]
      obtain ⟨q1, q2⟩ := q
      subst q1 q2
      rw [if_pos ⟨rfl, rfl⟩, m, iN_one]
    · rw [if_neg (fun x => q (mp.mp x)), if_neg (by omega), m, Nat.add_zero]
  · refine LR_same (R := R) ?_ sL
    obtain ⟨c1, c2, c4⟩ := l1
    unfold LR bLg
    have e1 : ∀ i, τ (p + 24) i = σ (p + 24) i := fun i => by rw [v, if_neg (by omega), if_neg (by omega), if_neg (by omega)]
    have e2 : ∀ i, τ (p + 24 + 1) i = σ (p + 24 + 1) i := fun i => by rw [v, if_neg (by omega), if_neg (by omega), if_neg (by omega)]
    simp only [e1, e2]
    exact ⟨c1, c2, c4⟩
  · intro s hs
    rw [sNn] at hs
    by_cases q : s < n
    · rw [v, if_neg (by omega), if_neg (by omega), if_neg (by omega), sF _ (by omega) (by omega)]
      exact n1 s (by omega)
    · have : s = n := by omega
      subst this
      rw [v, if_pos ⟨rfl, by omega⟩]
      exact sM
