theorem iN_eq {a b : Nat} (ha : a < 2147483648) (hb : b < 2147483648) (h : ¬ a = b) : ¬ iN a = iN b := fun e => h ((iN_inj ha hb).mp e)
theorem cSit_ok {σ : gS} {p t : Nat} {x : Int32} (h : TC σ p) (ht : t < nM (cR σ p)) (hx : 0 ≤ x ∧ x < 40) : cR (cSit σ p t x) p = rup (cR σ p) (9 + 10 * t + 0) x ∧ TC (cSit σ p t x) p ∧ sFr σ (cSit σ p t x) p := by
  obtain ⟨h3, hb, hm⟩ := h
  have hn := (nM_of h3).2
  obtain ⟨-, hs, hf⟩ := hb t ht
  have e0 := cR_f (σ := σ) (p := p) (t := t) (f := 0) (by omega) (by decide)
  have e2 := cR_f (σ := σ) (p := p) (t := t) (f := 2) (by omega) (by decide)
  obtain ⟨a0, ha0, ea0⟩ := i8 hs
  obtain ⟨a1, ha1, ea1⟩ := i8 hx
  obtain ⟨f, hf2, ef⟩ := i10 hf
  have ec := cSit_eq (σ := σ) (p := p) (t := t) (x := x) (by omega) ha0 ha1 hf2 (by rw [← e0]; exact ea0) ea1 (by rw [← e2]; exact ef)
  have eR : cR (cSit σ p t x) p = rup (cR σ p) (9 + 10 * t + 0) x := by
    rw [ec, cR_gup23, cR_gupf (by omega) (by decide), cR_gup23]
  have fR : ∀ s g, g < 10 → fld (rup (cR σ p) (9 + 10 * t + 0) x) s g = if s = t ∧ g = 0 then x else fld (cR σ p) s g := by
    intro s g hg
    unfold fld rup
    by_cases q : s = t ∧ g = 0
    · rw [if_pos q, if_pos (by omega)]
    · rw [if_neg q, if_neg (by omega)]
  have e3 : cR (cSit σ p t x) p 3 = cR σ p 3 := by rw [eR, rup_ne (by omega)]
  have en : nM (cR (cSit σ p t x) p) = nM (cR σ p) := by unfold nM; rw [e3]
  refine ⟨eR, ⟨by rw [e3]; exact h3, ?_, ?_⟩, ?_⟩
  · intro s hs2
    rw [en] at hs2
    rw [eR, fR _ _ (by decide), fR _ _ (by decide), fR _ _ (by decide), if_neg (show ¬ (s = t ∧ 1 = 0) by omega), if_neg (show ¬ (s = t ∧ 2 = 0) by omega)]
    obtain ⟨b1, b2, b3⟩ := hb s hs2
    refine ⟨b1, ?_, b3⟩
    split
    · exact hx
    · exact b2
  · intro a ha g hg
    unfold mem
    rw [en, eR]
    have hP : ∀ j, memP (rup (cR σ p) (9 + 10 * t + 0) x) (iN a) (iN g) j = if j = t then decide (a1 = a ∧ f = g) else memP (cR σ p) (iN a) (iN g) j := by
      intro j
      unfold memP
      rw [fR _ _ (by decide), fR _ _ (by decide), if_neg (show ¬ (j = t ∧ 2 = 0) by omega)]
      by_cases q : j = t
      · rw [if_pos ⟨q, rfl⟩, if_pos q, q, ef, ea1]
        congr 1
        apply propext
        rw [iN_inj (by omega) (by omega), iN_inj (by omega) (by omega)]
      · rw [if_neg (fun e => q e.1), if_neg q]
    have hu := cnt_up (P := memP (cR σ p) (iN a) (iN g)) (P' := memP (rup (cR σ p) (9 + 10 * t + 0) x) (iN a) (iN g)) ht (fun j hj => by rw [hP, if_neg hj])
    have hPt : memP (cR σ p) (iN a) (iN g) t = decide (a0 = a ∧ f = g) := by
      unfold memP
      rw [ea0, ef]
      congr 1
      apply propext
      rw [iN_inj (by omega) (by omega), iN_inj (by omega) (by omega)]
    rw [hPt, hP, if_pos rfl] at hu
    have h1 := hm a ha g hg
    unfold mem at h1
    have hle := cnt_le (memP (cR σ p) (iN a) (iN g)) (nM (cR σ p))
    have hsub : ∀ m : Nat, 1 ≤ m → m < 100 → iN m + -1 = iN (m - 1) := fun m hm1 hm2 => by
      rw [← Int32.sub_eq_add_neg]
      exact iN_sub (d := 1) (by omega) hm1
    rw [ec]
    by_cases q0 : a0 = a ∧ f = g <;> by_cases q1 : a1 = a ∧ f = g
    · rw [decide_eq_true q0, decide_eq_true q1] at hu
      obtain ⟨rfl, rfl⟩ := q0
      obtain ⟨rfl, -⟩ := q1
      rw [gup_at, gup_ne (by omega), gup_at, h1]
      rw [if_pos rfl] at hu
      have : cnt (memP (rup (cR σ p) (9 + 10 * t + 0) x) (iN a1) (iN f)) (nM (cR σ p)) = cnt (memP (cR σ p) (iN a1) (iN f)) (nM (cR σ p)) := by omega
      rw [this]
      grind
    · rw [decide_eq_true q0, decide_eq_false q1] at hu
      rw [if_pos rfl, if_neg (by decide)] at hu
      obtain ⟨rfl, rfl⟩ := q0
      have ne : ¬ a0 * 10 + f = a1 * 10 + f := fun e => q1 ⟨by omega, rfl⟩
      rw [gup_ne (fun e => ne e.2), gup_ne (by omega), gup_at, h1, hsub _ (by omega) (by omega)]
      congr 1
      omega
    · rw [decide_eq_false q0, decide_eq_true q1] at hu
      rw [if_pos rfl, if_neg (by decide)] at hu
      obtain ⟨rfl, rfl⟩ := q1
      have ne : ¬ a1 * 10 + f = a0 * 10 + f := fun e => q0 ⟨by omega, rfl⟩
      rw [gup_at, gup_ne (by omega), gup_ne (fun e => ne e.2), h1, iN_one]
      congr 1
      omega
    · rw [decide_eq_false q0, decide_eq_false q1] at hu
      rw [if_neg (by decide)] at hu
      have n0 : ¬ a * 10 + g = a0 * 10 + f := fun e => q0 ⟨by omega, by omega⟩
      have n1 : ¬ a * 10 + g = a1 * 10 + f := fun e => q1 ⟨by omega, by omega⟩
      rw [gup_ne (fun e => n1 e.2), gup_ne (by omega), gup_ne (fun e => n0 e.2), h1]
      congr 1
      omega
  · intro q i hq hq2
    have ne : ∀ m, m < 50 → ¬ (q = p + 23 ∧ i = m) := fun m hm e => hq.elim (fun h => h e.1) (fun h => by omega)
    rw [ec, gup_ne (ne _ (by omega)), gup_ne (fun e => by omega), gup_ne (ne _ (by omega))]
