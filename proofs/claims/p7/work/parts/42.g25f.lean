theorem cPas_ok {σ : gS} {p a b c : Nat} (h : TC σ p) (ha : a < nM (cR σ p)) (hb : b < nM (cR σ p)) (hc : c < nM (cR σ p)) (hd : a ≠ b ∧ b ≠ c ∧ a ≠ c) : cR (cPas σ p a b c) p = rtu (cR σ p) a b c ∧ TC (cPas σ p a b c) p ∧ sFr σ (cPas σ p a b c) p := by
  have hn := (nM_of h.1).2
  have sa := (h.2.1 a ha).2.1
  have sb := (h.2.1 b hb).2.1
  have sc := (h.2.1 c hc).2.1
  unfold fld at sa sb sc
  have ea := cR_s (σ := σ) (p := p) (t := a) (by omega)
  have eb := cR_s (σ := σ) (p := p) (t := b) (by omega)
  obtain ⟨r1, t1, f1⟩ := cSit_ok h ha sb
  have ec := cR_s (σ := cSit σ p a (cR σ p (9 + 10 * b + 0))) (p := p) (t := c) (by omega)
  have ecv : cR (cSit σ p a (cR σ p (9 + 10 * b + 0))) p (9 + 10 * c + 0) = cR σ p (9 + 10 * c + 0) := by rw [r1, rup_ne (by omega)]
  obtain ⟨r2, t2, f2⟩ := cSit_ok (t := b) (x := cR (cSit σ p a (cR σ p (9 + 10 * b + 0))) p (9 + 10 * c + 0)) t1 (show b < nM _ by rw [r1, nM_rup]; exact hb) (by rw [ecv]; exact sc)
  obtain ⟨r3, t3, f3⟩ := cSit_ok (t := c) (x := cR σ p (9 + 10 * a + 0)) t2 (show c < nM _ by rw [r2, nM_rup, r1, nM_rup]; exact hc) sa
  unfold cPas
  rw [ea, eb, ec]
  refine ⟨?_, t3, sFr_t f1 (sFr_t f2 f3)⟩
  rw [r3, r2, r1]
  rfl
theorem nM_rsw {R : gW} {a b : Nat} : nM (rsw R a b) = nM R := by unfold nM; rw [rsw_3]
theorem nM_rtu {R : gW} {a b c : Nat} (hd : a ≠ b ∧ b ≠ c ∧ a ≠ c) : nM (rtu R a b c) = nM R := by unfold nM; rw [rtu_3 hd]
/-- back again -/
theorem cExS_bk {σ : gS} {p a b : Nat} (h : TC σ p) (ha : a < nM (cR σ p)) (hb : b < nM (cR σ p)) : cExS (cExS σ p a b) p a b = σ := by
  obtain ⟨r1, t1, f1⟩ := cExS_ok h ha hb
  obtain ⟨r2, t2, f2⟩ := cExS_ok (a := a) (b := b) t1 (by rw [r1, nM_rsw]; exact ha) (by rw [r1, nM_rsw]; exact hb)
  exact sFr_eq h t2 (by rw [r2, r1, rsw_rsw]) (sFr_t f1 f2)
theorem cPas_bk {σ : gS} {p a b c : Nat} (h : TC σ p) (ha : a < nM (cR σ p)) (hb : b < nM (cR σ p)) (hc : c < nM (cR σ p)) (hd : a ≠ b ∧ b ≠ c ∧ a ≠ c) : cPas (cPas σ p a b c) p c b a = σ := by
  obtain ⟨r1, t1, f1⟩ := cPas_ok h ha hb hc hd
  have hd2 : c ≠ b ∧ b ≠ a ∧ c ≠ a := ⟨fun e => hd.2.1 e.symm, fun e => hd.1 e.symm, fun e => hd.2.2 e.symm⟩
  obtain ⟨r2, t2, f2⟩ := cPas_ok (a := c) (b := b) (c := a) t1 (by rw [r1, nM_rtu hd]; exact hc) (by rw [r1, nM_rtu hd]; exact hb) (by rw [r1, nM_rtu hd]; exact ha) hd2
  exact sFr_eq h t2 (by rw [r2, r1, rtu_rtu hd]) (sFr_t f1 f2)
