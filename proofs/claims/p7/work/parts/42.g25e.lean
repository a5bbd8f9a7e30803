/-- two heaps with the same rows, sound, that differ in seats and members alone, are the same -/
theorem sFr_eq {σ τ : gS} {p : Nat} (h1 : TC σ p) (h2 : TC τ p) (hR : cR τ p = cR σ p) (hf : sFr σ τ p) : τ = σ := by
  funext q i
  by_cases hq : q = p + 23 ∧ i < 50
  · obtain ⟨rfl, hi⟩ := hq
    have e1 := h1.2.2 (i / 10) (by omega) (i % 10) (by omega)
    have e2 := h2.2.2 (i / 10) (by omega) (i % 10) (by omega)
    rw [show i / 10 * 10 + i % 10 = i by omega] at e1 e2
    rw [e1, e2, hR]
  · by_cases hq2 : p + 2 ≤ q ∧ q < p + 22 ∧ i = 1
    · obtain ⟨ha, hb, rfl⟩ := hq2
      have e1 := cR_f (σ := σ) (p := p) (t := q - (p + 2)) (f := 0) (by omega) (by decide)
      have e2 := cR_f (σ := τ) (p := p) (t := q - (p + 2)) (f := 0) (by omega) (by decide)
      rw [show p + 2 + (q - (p + 2)) = q by omega] at e1 e2
      rw [← e1, ← e2, hR]
    · exact hf q i (by omega) (by omega)
-- text 26
/-! THE CLASS: swaps, moves, rings asked for -/
def cPas (σ : gS) (p a b c : Nat) : gS := cSit (cSit (cSit σ p a (σ (p + 2 + b) 1)) p b (cSit σ p a (σ (p + 2 + b) 1) (p + 2 + c) 1)) p c (σ (p + 2 + a) 1)
theorem cR_s {σ : gS} {p t : Nat} (ht : t < 20) : σ (p + 2 + t) 1 = cR σ p (9 + 10 * t + 0) := (cR_f (f := 0) ht (by decide)).symm
theorem nM_rup {R : gW} {t : Nat} {x : Int32} : nM (rup R (9 + 10 * t + 0) x) = nM R := by unfold nM; rw [rup_ne (by omega)]
theorem cExS_ok {σ : gS} {p a b : Nat} (h : TC σ p) (ha : a < nM (cR σ p)) (hb : b < nM (cR σ p)) : cR (cExS σ p a b) p = rsw (cR σ p) a b ∧ TC (cExS σ p a b) p ∧ sFr σ (cExS σ p a b) p := by
  have hn := (nM_of h.1).2
  have sa := (h.2.1 a ha).2.1
  have sb := (h.2.1 b hb).2.1
  unfold fld at sa sb
  have ea := cR_s (σ := σ) (p := p) (t := a) (by omega)
  have eb := cR_s (σ := σ) (p := p) (t := b) (by omega)
  obtain ⟨r1, t1, f1⟩ := cSit_ok h ha sb
  obtain ⟨r2, t2, f2⟩ := cSit_ok (x := cR σ p (9 + 10 * a + 0)) t1 (show b < nM _ by rw [r1, nM_rup]; exact hb) sa
  unfold cExS
  rw [ea, eb]
  refine ⟨?_, t2, sFr_t f1 f2⟩
  rw [r2, r1]
  rfl
