noncomputable def gpcj_l : List (Nat × gD) := (83, f83) :: gpci_l
noncomputable def gpcj : gP := gpl0 gpcj_l
theorem gpcj_ok : gPok gpcj := gpl0_cons ok83 (gpci_ok)
theorem cnt_up {P P' : Nat → Bool} {t : Nat} : ∀ {n : Nat}, t < n → (∀ j, j ≠ t → P' j = P j) → cnt P' n + (if P t = true then 1 else 0) = cnt P n + (if P' t = true then 1 else 0)
  | 0, h, _ => absurd h (Nat.not_lt_zero t)
  | n + 1, h, hp => by
    show cnt P' n + (if P' n = true then 1 else 0) + _ = cnt P n + (if P n = true then 1 else 0) + _
    by_cases e : t = n
    · subst e
      rw [cnt_congr (fun j hj => hp j (by omega))]
      omega
    · have ih := cnt_up (show t < n by omega) hp
      rw [hp n (fun q => e q.symm)]
      omega
/-- what sitting down leaves as it was -/
def sFr (σ τ : gS) (p : Nat) : Prop := ∀ q i, (¬ q = p + 23 ∨ 50 ≤ i) → (q < p + 2 ∨ p + 22 ≤ q ∨ ¬ i = 1) → τ q i = σ q i
theorem sFr_t {σ τ ρ : gS} {p : Nat} (h1 : sFr σ τ p) (h2 : sFr τ ρ p) : sFr σ ρ p := fun q i a b => (h2 q i a b).trans (h1 q i a b)
theorem cCnt_eq {σ : gS} {p w a f : Nat} {k : Int32} (ha : a < 5) (hf : f < 10) (h1 : σ w 1 / 8 = iN a) (h2 : σ w 3 = iN f) : cCnt σ p w k = gup σ (p + 23) (a * 10 + f) (σ (p + 23) (a * 10 + f) + k) := by
  unfold cCnt cIx
  have e : (iN a * 10 + iN f : Int32) = iN (a * 10 + f) := by
    show iN a * iN 10 + iN f = _
    rw [iN_mul, iN_add]
  rw [h1, h2, e, iN_nat (by omega), if_pos ⟨(iN_le (k := 0) (by decide) (by omega)).mpr (by omega), (iN_lt (m := 50) (by omega) (by decide)).mpr (by omega)⟩]
/-- sitting down, written out -/
theorem cSit_eq {σ : gS} {p t a0 a1 f : Nat} {x : Int32} (ht : t < 20) (ha0 : a0 < 5) (ha1 : a1 < 5) (hf : f < 10) (h0 : σ (p + 2 + t) 1 / 8 = iN a0) (h1 : x / 8 = iN a1) (h2 : σ (p + 2 + t) 3 = iN f) :
    cSit σ p t x = gup (gup (gup σ (p + 23) (a0 * 10 + f) (σ (p + 23) (a0 * 10 + f) + -1)) (p + 2 + t) 1 x) (p + 23) (a1 * 10 + f) (gup (gup σ (p + 23) (a0 * 10 + f) (σ (p + 23) (a0 * 10 + f) + -1)) (p + 2 + t) 1 x (p + 23) (a1 * 10 + f) + 1) := by
  unfold cSit
  rw [cCnt_eq ha0 hf h0 h2, cCnt_eq ha1 hf (by rw [gup_at]; exact h1) (by rw [gup_ne (by omega), gup_ne (by omega)]; exact h2)]
theorem cR_gup23 {σ : gS} {p i : Nat} {x : Int32} : cR (gup σ (p + 23) i x) p = cR σ p := by
  funext j
  unfold cR
  by_cases h : j < 9
  · rw [if_pos h, if_pos h, gup_ne (by omega)]
  · rw [if_neg h, if_neg h]
    by_cases h2 : j < 209
    · rw [if_pos h2, if_pos h2, gup_ne (by omega), gup_ne (by omega)]
    · rw [if_neg h2, if_neg h2]
