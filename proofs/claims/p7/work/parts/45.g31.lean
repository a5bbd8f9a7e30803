-- text 31
/-! CLASS AND REFERENCE: a train stands for a row -/
/-- the log at place l says what the row's entries say -/
def LR (σ : gS) (l : Nat) (R : gW) : Prop := bLg σ l ∧ σ l 2 = R 209 ∧ ∀ i, i < (σ l 2).toNatClampNeg → ∀ c, c < 3 → σ (l + 1) (3 * (((σ l 1).toNatClampNeg + i) % 40) + c) = R (210 + 3 * i + c)
theorem bLg_n {σ : gS} {l : Nat} (h : bLg σ l) : ∃ O S, σ l 1 = iN O ∧ σ l 2 = iN S ∧ O < 40 ∧ S ≤ 40 ∧ (σ l 1).toNatClampNeg = O ∧ (σ l 2).toNatClampNeg = S := by
  obtain ⟨ho, hs⟩ := h
  obtain ⟨eo, lo⟩ := l40 ⟨ho.1, by have := ho.2; grind⟩
  obtain ⟨es, ls⟩ := l40 hs
  refine ⟨_, _, eo, es, ?_, ls, rfl, rfl⟩
  have h := ho.2
  rw [eo] at h
  exact (iN_lt (m := 40) (by omega) (by decide)).mp h
theorem LR_b {σ : gS} {l : Nat} {R : gW} (h : LR σ l R) : 0 ≤ R 209 ∧ R 209 ≤ 40 := by rw [← h.2.1]; exact h.1.2
theorem LR_same {σ : gS} {l : Nat} {R S : gW} (h : LR σ l R) (hs : ∀ j, 209 ≤ j → j < 330 → S j = R j) : LR σ l S := by
  obtain ⟨O, s, eo, es, lo, ls, no, ns⟩ := bLg_n h.1
  refine ⟨h.1, by rw [hs 209 (by decide) (by decide)]; exact h.2.1, fun i hi c hc => ?_⟩
  rw [ns] at hi
  rw [hs _ (by omega) (by omega)]
  exact h.2.2 i (by rw [ns]; exact hi) c hc
/-- an entry in class and reference -/
theorem cAdd_ok {σ : gS} {R : gW} {w a b : Int32} (h : LR σ 30 R) : LR (cAdd σ w a b) 30 (fTe R w a b) := by
  obtain ⟨hb, hs, he⟩ := h
  obtain ⟨O, S, eo, es, lo, ls, no, ns⟩ := bLg_n hb
  have hR : R 209 = iN S := by rw [← hs]; exact es
  have nR : (R 209).toNatClampNeg = S := by rw [hR, iN_nat (by omega)]
  have en : cNx σ = 3 * ((O + S) % 40) := by unfold cNx; rw [no, ns]
  have hm : (O + S) % 40 < 40 := Nat.mod_lt _ (by decide)
  rw [ns, no] at he
  have p3 : ∀ j, cAd3 σ w a b 31 j = if j = 3 * ((O + S) % 40) + 2 then b else if j = 3 * ((O + S) % 40) + 1 then a else if j = 3 * ((O + S) % 40) then w else σ 31 j := by
    intro j
    unfold cAd3 gup
    rw [en]
    grind
  have q1 : ∀ j, cAd3 σ w a b 30 j = σ 30 j := by
    intro j
    unfold cAd3
    rw [gup_ne (by omega), gup_ne (by omega), gup_ne (by omega)]
  have fR : ∀ T : gW, ∀ s : Nat, s < 40 → T 209 = iN s → (fTe0 T w a b 209 = iN (s + 1)) ∧ ∀ i, i ≤ s → ∀ c, c < 3 → fTe0 T w a b (210 + 3 * i + c) = if i = s then (if c = 0 then w else if c = 1 then a else b) else T (210 + 3 * i + c) := by
    intro T s hs hT
    have nT : (T 209).toNatClampNeg = s := by rw [hT, iN_nat (by omega)]
    refine ⟨?_, fun i hi c hc => ?_⟩
    · unfold fTe0
      rw [rup_at, hT, iN_one]
    · unfold fTe0 rup
      rw [nT]
      grind
  by_cases h40 : S < 40
  · have c1 : σ 30 2 < 40 := by rw [es]; exact (iN_lt (m := 40) (by omega) (by decide)).mpr h40
    have eA : cAdd σ w a b = gup (cAd3 σ w a b) 30 2 (iN (S + 1)) := by
      unfold cAdd
      rw [if_pos c1, es, iN_one]
    have eF : fTe R w a b = fTe0 R w a b := by
      unfold fTe
      rw [if_neg (by rw [hR]; exact iN_eq (b := 40) (by omega) (by decide) (by omega))]
    obtain ⟨f1, f2⟩ := fR R S h40 hR
    rw [eA, eF]
    have r2 : gup (cAd3 σ w a b) 30 2 (iN (S + 1)) 30 2 = iN (S + 1) := gup_at _ _ _
    have r1 : gup (cAd3 σ w a b) 30 2 (iN (S + 1)) 30 1 = iN O := by rw [gup_ne (by omega), q1]; exact eo
    refine ⟨⟨?_, ?_⟩, ?_, ?_⟩
    · rw [r1, ← eo]; exact hb.1
    · rw [r2]
      exact ⟨(iN_le (k := 0) (by decide) (by omega)).mpr (by omega), (iN_le (m := 40) (by omega) (by decide)).mpr (by omega)⟩
    · rw [r2, f1]
    · intro i hi c hc
      rw [r2, iN_nat (by omega)] at hi
      rw [r1, iN_nat (by omega), gup_ne (by omega), p3, f2 i (by omega) c hc]
      by_cases q : i = S
      · subst q
        rw [if_pos rfl]
        have : c = 0 ∨ c = 1 ∨ c = 2 := by omega
        rcases this with rfl | rfl | rfl
        · rw [if_neg (by omega), if_neg (by omega), if_pos (by omega), if_pos rfl]
        · rw [if_neg (by omega), if_pos rfl, if_neg (by omega), if_pos rfl]
        · rw [if_pos rfl, if_neg (by omega), if_neg (by omega)]
      · rw [if_neg q]
        have hne : (O + i) % 40 ≠ (O + S) % 40 := by omega
        rw [if_neg (by omega), if_neg (by omega), if_neg (by omega)]
        exact he i (by omega) c hc
  · have e40 : S = 40 := by omega
    subst e40
    have c1 : ¬ σ 30 2 < 40 := by rw [es]; exact fun q => absurd ((iN_lt (m := 40) (by omega) (by decide)).mp q) (by omega)
    have eA : cAdd σ w a b = gup (cAd3 σ w a b) 30 1 (iN ((O + 1) % 40)) := by
      unfold cAdd
      rw [if_neg c1, no]
    have eF : fTe R w a b = fTe0 (rup (lsh R 117) 209 39) w a b := by
      unfold fTe
      rw [if_pos (show R 209 = 40 from hR)]
    obtain ⟨f1, f2⟩ := fR (rup (lsh R 117) 209 39) 39 (by decide) (rup_at _ _ _)
    rw [eA, eF]
    have lo1 : (O + 1) % 40 < 40 := Nat.mod_lt _ (by decide)
    have r2 : gup (cAd3 σ w a b) 30 1 (iN ((O + 1) % 40)) 30 2 = iN 40 := by rw [gup_ne (by omega), q1]; exact es
    have r1 : gup (cAd3 σ w a b) 30 1 (iN ((O + 1) % 40)) 30 1 = iN ((O + 1) % 40) := gup_at _ _ _
    refine ⟨⟨?_, ?_⟩, ?_, ?_⟩
    · rw [r1]
      exact ⟨(iN_le (k := 0) (by decide) (by omega)).mpr (by omega), (iN_lt (m := 40) (by omega) (by decide)).mpr (by omega)⟩
    · rw [r2]; decide
    · rw [r2, f1]
    · intro i hi c hc
      rw [r2, iN_nat (by omega)] at hi
      rw [r1, iN_nat (by omega), gup_ne (by omega), p3, f2 i (by omega) c hc]
      by_cases q : i = 39
      · subst q
        rw [if_pos rfl]
        have : c = 0 ∨ c = 1 ∨ c = 2 := by omega
        rcases this with rfl | rfl | rfl
        · rw [if_neg (by omega), if_neg (by omega), if_pos (by omega), if_pos rfl]
        · rw [if_neg (by omega), if_pos (by omega), if_neg (by omega), if_pos rfl]
        · rw [if_pos (by omega), if_neg (by omega), if_neg (by omega)]
      · rw [if_neg q, rup_ne (by omega)]
        have hne : ((O + 1) % 40 + i) % 40 ≠ (O + 40) % 40 := by omega
        rw [if_neg (by omega), if_neg (by omega), if_neg (by omega)]
        unfold lsh
        rw [if_pos (by omega)]
        have := he (i + 1) (by omega) c hc
        rw [show ((O + 1) % 40 + i) % 40 = (O + (i + 1)) % 40 by omega, this, show 210 + 3 * (i + 1) + c = 210 + 3 * i + c + 3 by omega]
