-- text 59
/-! RELATION: a new traveller -/
theorem SV_adm {σ : gS} {p w n : Nat} {R S : gW} (h : SV σ p R) (hw : w < p ∨ p + 26 ≤ w) (hn : nM R = n) (h20 : n < 20) (g0 : 0 ≤ σ w 1 ∧ σ w 1 < 40) (g1 : σ w 2 = 0 ∨ σ w 2 = 1) (g2 : 0 ≤ σ w 3 ∧ σ w 3 ≤ 9)
    (s3 : S 3 = iN (n + 1)) (sH : ∀ j, j < 9 → ¬ j = 3 → S j = R j) (sF : ∀ j, 9 ≤ j → j < 9 + 10 * n → S j = R j) (sN : ∀ f, f < 9 → S (9 + 10 * n + f) = σ w (f + 1)) (sM : nmR (σ w 0) (S (9 + 10 * n + 9))) (sL : ∀ j, 209 ≤ j → j < 330 → S j = R j) : SV (cAdm σ p w) p S := by
  obtain ⟨b3, bn, e7⟩ := SV_3 h
  obtain ⟨a1, ⟨t1, t2, t3⟩, l1, n1⟩ := h
  have eN : nM (cR σ p) = nM R := agr_n a1
  have e3 : R 3 = iN n := by rw [← hn]; exact (nM_of b3).1
  have n7 : (σ p 7).toNatClampNeg = n := by rw [e7, e3, iN_nat (by omega)]
  obtain ⟨a0, ha0, ea0⟩ := i8 g0
  obtain ⟨f0, hf0, ef0⟩ := i10 g2
  obtain ⟨τ, hτ⟩ : ∃ τ, cAdm σ p w = τ := ⟨_, rfl⟩
  have cT : ∀ q i, cTv σ (p + 2 + n) w q i = if q = p + 2 + n ∧ i < 10 then σ w i else σ q i := fun q i => rfl
  have ec := cCnt_eq (σ := cTv σ (p + 2 + n) w) (p := p) (w := w) (k := 1) ha0 hf0 (by rw [cT, if_neg (by omega)]; exact ea0) (by rw [cT, if_neg (by omega)]; exact ef0)
  have v : ∀ q i, τ q i = if q = p + 2 + n ∧ i < 10 then σ w i else if q = p ∧ i = 7 then iN (n + 1) else if q = p + 23 ∧ i = a0 * 10 + f0 then σ (p + 23) (a0 * 10 + f0) + 1 else σ q i := by
    intro q i
    rw [← hτ]
    unfold cAdm
    rw [n7, ec, e7, e3, iN_one]
    show (if q = p ∧ i = 7 then iN (n + 1) else if q = p + 23 ∧ i = a0 * 10 + f0 then cTv σ (p + 2 + n) w (p + 23) (a0 * 10 + f0) + 1 else cTv σ (p + 2 + n) w q i) = _
    rw [cT (p + 23), if_neg (show ¬ (p + 23 = p + 2 + n ∧ a0 * 10 + f0 < 10) by omega), cT q i]
    by_cases x1 : q = p + 2 + n ∧ i < 10
    · rw [if_neg (by omega), if_neg (by omega), if_pos x1, if_pos x1]
    · rw [if_neg x1, if_neg x1]
  rw [hτ]
  have c3 : cR τ p 3 = iN (n + 1) := by rw [cR_3, v, if_neg (by omega), if_pos ⟨rfl, rfl⟩]
  have cN : nM (cR τ p) = n + 1 := nM_iN c3 (by omega)
  have sNn : nM S = n + 1 := nM_iN s3 (by omega)
  have fO : ∀ s, s < n → ∀ f, f < 9 → fld (cR τ p) s f = fld (cR σ p) s f := by
    intro s hs f hf
    rw [cR_f (σ := τ) (p := p) (by omega) hf, v, if_neg (by omega), if_neg (by omega), if_neg (by omega), cR_f (σ := σ) (p := p) (by omega) hf]
  have fN : ∀ f, f < 9 → fld (cR τ p) n f = σ w (f + 1) := by
    intro f hf
    rw [cR_f (σ := τ) (p := p) (by omega) hf, v, if_pos ⟨rfl, by omega⟩]
  refine ⟨⟨fun j hj => ?_, fun s hs f hf => ?_⟩, ⟨?_, ?_, ?_⟩, ?_, ?_⟩
  · by_cases q : j = 3
    · subst q
      rw [c3, s3]
    · rw [cR_h hj, v, if_neg (show ¬ (p = p + 2 + n ∧ j + 4 < 10) by omega), if_neg (show ¬ (p = p ∧ j + 4 = 7) by omega), if_neg (show ¬ (p = p + 23 ∧ j + 4 = a0 * 10 + f0) by omega), sH j hj q, ← cR_h (σ := σ) (p := p) hj]
      exact a1.1 j hj
  · rw [cN] at hs
    by_cases q : s < n
    · rw [fO s q f hf]
      show _ = S (9 + 10 * s + f)
      rw [sF _ (by omega) (by omega)]
      exact a1.2 s (by omega) f hf
    · have : s = n := by omega
      subst this
      rw [fN f hf]
      exact (sN f hf).symm
  · rw [c3]
    exact ⟨(iN_le (k := 0) (by decide) (by omega)).mpr (by omega), (iN_le (m := 20) (by omega) (by decide)).mpr (by omega)⟩
  · intro s hs
    rw [cN] at hs
    by_cases q : s < n
    · rw [fO s q 0 (by decide), fO s q 1 (by decide), fO s q 2 (by decide)]
      exact t2 s (by omega)
    · have : s = n := by omega
      subst this
      rw [fN 0 (by decide), fN 1 (by decide), fN 2 (by decide)]
      exact ⟨g1, g0, g2⟩
  · intro a ha g hg
    rw [v, if_neg (by omega), if_neg (by omega)]
    have m := t3 a ha g hg
    have mc : cnt (memP (cR τ p) (iN a) (iN g)) n = mem (cR σ p) (iN a) (iN g) := by
      unfold mem
      rw [eN, hn]
      refine cnt_congr (fun j hj => ?_)
      unfold memP
      rw [fO j hj 0 (by decide), fO j hj 2 (by decide)]
    have mp : memP (cR τ p) (iN a) (iN g) n = true ↔ (a0 = a ∧ f0 = g) := by
      unfold memP
      rw [decide_eq_true_eq, fN 0 (by decide), fN 2 (by decide)]
      show σ w 1 / 8 = iN a ∧ σ w 3 = iN g ↔ _
      rw [ea0, ef0, iN_inj (by omega) (by omega), iN_inj (by omega) (by omega)]
    have md : mem (cR τ p) (iN a) (iN g) = mem (cR σ p) (iN a) (iN g) + (if memP (cR τ p) (iN a) (iN g) n = true then 1 else 0) := by
      rw [← mc]
      show cnt _ (nM (cR τ p)) = _
      rw [cN]
      rfl
    rw [md]
    by_cases q : a0 = a ∧ f0 = g
    · rw [if_pos (mp.mpr q)]
      obtain ⟨q1, q2⟩ := q
      subst q1 q2
      rw [if_pos ⟨rfl, rfl⟩, m, iN_one]
    · rw [if_neg (fun x => q (mp.mp x)), if_neg (by omega), m, Nat.add_zero]
  · refine LR_same (R := R) ?_ sL
    obtain ⟨c1, c2, c4⟩ := l1
    unfold LR bLg
    have e1 : ∀ i, τ (p + 24) i = σ (p + 24) i := fun i => by rw [v, if_neg (by omega), if_neg (by omega), if_neg (by omega)]
    have e2 : ∀ i, τ (p + 24 + 1) i = σ (p + 24 + 1) i := fun i => by rw [v, if_neg (by omega), if_neg (by omega), if_neg (by omega)]
    simp only [e1, e2]
    exact ⟨c1, c2, c4⟩
  · intro s hs
    rw [sNn] at hs
    by_cases q : s < n
    · rw [v, if_neg (by omega), if_neg (by omega), if_neg (by omega), sF _ (by omega) (by omega)]
      exact n1 s (by omega)
    · have : s = n := by omega
      subst this
      rw [v, if_pos ⟨rfl, by omega⟩]
      exact sM
-- text 60
/-! RELATION: come -/
theorem cNam_e {σ : gS} : cNam σ = cPk (σ 3) (σ 2 1).toNatClampNeg (iN (tkS (σ 3) (σ 2 1).toNatClampNeg 0)).toNatClampNeg (min ((iN (tkE (σ 3) (σ 2 1).toNatClampNeg 0)).toNatClampNeg - (iN (tkS (σ 3) (σ 2 1).toNatClampNeg 0)).toNatClampNeg) 5) := by
  obtain ⟨c1, c2, c3⟩ := cBeg_1 (σ := σ)
  unfold cNam
  rw [c1, c2, cBeg_ne (by decide), cBeg_ne (by decide)]
theorem cNam_cg {σ τ : gS} (h2 : τ 2 = σ 2) (h3 : τ 3 = σ 3) : cNam τ = cNam σ := by
  rw [cNam_e, cNam_e, h2, h3]
/-- the guest's numbers, read back -/
theorem cGu0_58 {σ : gS} {x k f w s : Int32} (h7 : 0 ≤ σ 6 7 ∧ σ 6 7 ≤ 20) : cGu0 σ x k f w s 58 0 = cNam σ ∧ cGu0 σ x k f w s 58 1 = x ∧ cGu0 σ x k f w s 58 2 = k ∧ cGu0 σ x k f w s 58 3 = f ∧ (∀ j, 4 ≤ j → j < 8 → cGu0 σ x k f w s 58 j = 0) ∧ cGu0 σ x k f w s 58 8 = w ∧ cGu0 σ x k f w s 58 9 = s := by
  have b7 : 0 ≤ cBeg σ 6 7 ∧ cBeg σ 6 7 ≤ 20 := by rw [cBeg_ne (by decide)]; exact h7
  unfold cGu0 cGue
  refine ⟨?_, ?_, ?_, ?_, fun j h1 h2 => ?_, ?_, gup_at _ _ _⟩
  · rw [gup_ne (by omega), gup_ne (by omega), gup_ne (by omega), gup_ne (by omega), gup_ne (by omega), gup_at]
    refine cNam_cg ?_ ?_
    · rw [cZr_ne (by decide), cRem_far (Or.inl (by decide)) b7, cBeg_ne (by decide)]
    · rw [cZr_ne (by decide), cRem_far (Or.inl (by decide)) b7, cBeg_ne (by decide)]
  · rw [gup_ne (by omega), gup_ne (by omega), gup_ne (by omega), gup_ne (by omega), gup_at]
  · rw [gup_ne (by omega), gup_ne (by omega), gup_ne (by omega), gup_at]
  · rw [gup_ne (by omega), gup_ne (by omega), gup_at]
  · rw [gup_ne (by omega), gup_ne (by omega), gup_ne (by omega), gup_ne (by omega), gup_ne (by omega), gup_ne (by omega), cBeg_ne (by decide)]
    unfold cZr
    rw [if_pos ⟨rfl, by omega⟩]
  · rw [gup_ne (by omega), gup_at]
/-- a traveller comes: class and reference -/
theorem SV_com {σ : gS} {R : gW} {x k f w s nm : Int32} (h : SV σ 6 R) (h20 : R 3 < 20) (hx : 0 ≤ x ∧ x < 40) (hk : k = 0 ∨ k = 1) (hf : 0 ≤ f ∧ f ≤ 9) (hn : nmR (cNam σ) nm) : SV (cCom σ x k f w s) 6 (nCom R x k f w s nm) := by
  obtain ⟨b3, bn, e7⟩ := SV_3 h
  have h7 : 0 ≤ σ 6 7 ∧ σ 6 7 ≤ 20 := by rw [e7]; exact b3
  obtain ⟨n, hN⟩ : ∃ n, nM R = n := ⟨_, rfl⟩
  have e3 : R 3 = iN n := by rw [← hN]; exact (nM_of b3).1
  have n20' : n < 20 := by
    rw [e3] at h20
    exact (iN_lt (m := 20) (by omega) (by decide)).mp h20
  obtain ⟨τ, hτ⟩ : ∃ τ, cGu0 σ x k f w s = τ := ⟨_, rfl⟩
  have hT : SV τ 6 R := by
    rw [← hτ]
    exact SV_blk h (fun q q1 q2 => cGu0_ne h7 (by omega) (by omega) (by omega))
  obtain ⟨v0, v1, v2, v3, v4, v8, v9⟩ := cGu0_58 (x := x) (k := k) (f := f) (w := w) (s := s) h7
  rw [hτ] at v0 v1 v2 v3 v4 v8 v9
  obtain ⟨S, hS⟩ : ∃ S, radd (rup (rup (rup (rup (fNew R x nm) (9 + 10 * n + 1) k) (9 + 10 * n + 2) f) (9 + 10 * n + 7) w) (9 + 10 * n + 8) s) 3 1 = S := ⟨_, rfl⟩
  have vS : ∀ j, ¬ j = 3 → S j = if j = 9 + 10 * n + 8 then s else if j = 9 + 10 * n + 7 then w else if j = 9 + 10 * n + 2 then f else if j = 9 + 10 * n + 1 then k else if j = 9 + 10 * n + 9 then nm else if j = 9 + 10 * n + 0 then x else if 9 + 10 * n ≤ j ∧ j < 9 + 10 * n + 10 then 0 else R j := by
    intro j hj
    rw [← hS, radd_ne hj]
    unfold fNew zsh rup
    rw [hN]
    grind (splits := 40)
  have sA : SV (cAdm τ 6 58) 6 S := by
    refine SV_adm (n := n) hT (Or.inr (by decide)) hN n20' (by rw [v1]; exact hx) (by rw [v2]; exact hk) (by rw [v3]; exact hf) ?_ ?_ ?_ ?_ ?_ ?_
    · rw [← hS, radd_at, rup_ne (by omega), rup_ne (by omega), rup_ne (by omega), rup_ne (by omega), fNew_ne (by omega), e3]
      exact iN_one n
    · intro j hj h3
      rw [vS j h3, if_neg (by omega), if_neg (by omega), if_neg (by omega), if_neg (by omega), if_neg (by omega), if_neg (by omega), if_neg (by omega)]
    · intro j h1 h2
      rw [vS j (by omega), if_neg (by omega), if_neg (by omega), if_neg (by omega), if_neg (by omega), if_neg (by omega), if_neg (by omega), if_neg (by omega)]
    · intro g hg
      rw [vS _ (by omega)]
      have hh : g = 0 ∨ g = 1 ∨ g = 2 ∨ g = 3 ∨ g = 4 ∨ g = 5 ∨ g = 6 ∨ g = 7 ∨ g = 8 := by omega
      rcases hh with e | e | e | e | e | e | e | e | e <;> subst e
      · rw [if_neg (by omega), if_neg (by omega), if_neg (by omega), if_neg (by omega), if_neg (by omega), if_pos rfl]; exact v1.symm
      · rw [if_neg (by omega), if_neg (by omega), if_neg (by omega), if_pos rfl]; exact v2.symm
      · rw [if_neg (by omega), if_neg (by omega), if_pos rfl]; exact v3.symm
      · rw [if_neg (by omega), if_neg (by omega), if_neg (by omega), if_neg (by omega), if_neg (by omega), if_neg (by omega), if_pos (by omega)]; exact (v4 4 (by decide) (by decide)).symm
      · rw [if_neg (by omega), if_neg (by omega), if_neg (by omega), if_neg (by omega), if_neg (by omega), if_neg (by omega), if_pos (by omega)]; exact (v4 5 (by decide) (by decide)).symm
      · rw [if_neg (by omega), if_neg (by omega), if_neg (by omega), if_neg (by omega), if_neg (by omega), if_neg (by omega), if_pos (by omega)]; exact (v4 6 (by decide) (by decide)).symm
      · rw [if_neg (by omega), if_neg (by omega), if_neg (by omega), if_neg (by omega), if_neg (by omega), if_neg (by omega), if_pos (by omega)]; exact (v4 7 (by decide) (by decide)).symm
      · rw [if_neg (by omega), if_pos rfl]; exact v8.symm
      · rw [if_pos rfl]; exact v9.symm
    · rw [vS _ (by omega), if_neg (by omega), if_neg (by omega), if_neg (by omega), if_neg (by omega), if_pos rfl, v0]
      exact hn
    · intro j h1 h2
      rw [vS j (by omega), if_neg (by omega), if_neg (by omega), if_neg (by omega), if_neg (by omega), if_neg (by omega), if_neg (by omega), if_neg (by omega)]
  have sB := SV_add (w := 0) (a := R 3) (b := x) sA
  unfold nCom cCom
  rw [hN, hS, hτ, e7]
  exact SV_blk sB (fun q q1 q2 => funext fun j => gup_ne (by omega))
