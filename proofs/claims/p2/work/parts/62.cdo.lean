/-! CLASS AND REFERENCE: one number changed -/
theorem rup_comm {R : gW} {a b : Nat} {x y : Int32} (h : ¬ a = b) : rup (rup R a x) b y = rup (rup R b y) a x := by
  funext j
  unfold rup
  grind
theorem agr_rup {R S : gW} {k : Nat} {x : Int32} (h : agr R S) (hk : ¬ k = 3) : agr (rup R k x) (rup S k x) := by
  refine ⟨fun j hj => ?_, fun t ht f hf => ?_⟩
  · unfold rup
    split
    · rfl
    · exact h.1 j hj
  · have ht : t < nM R := by
      unfold nM at ht ⊢
      rw [rup_ne (fun e => hk e.symm)] at ht
      exact ht
    unfold fld rup
    split
    · rfl
    · exact h.2 t ht f hf
theorem nM_rup3 {R : gW} {k : Nat} {x : Int32} (hk : ¬ k = 3) : nM (rup R k x) = nM R := by unfold nM; rw [rup_ne (fun e => hk e.symm)]
theorem fld_rup {R : gW} {t f s g : Nat} {x : Int32} (hf : f < 10) (hg : g < 10) : fld (rup R (9 + 10 * t + f) x) s g = if s = t ∧ g = f then x else fld R s g := by
  unfold fld rup
  by_cases q : s = t ∧ g = f
  · rw [if_pos q, if_pos (by omega)]
  · rw [if_neg q, if_neg (by omega)]
theorem fld_rupl {R : gW} {k s g : Nat} {x : Int32} (hk : k < 9) : fld (rup R k x) s g = fld R s g := by
  unfold fld
  rw [rup_ne (by omega)]
/-- a traveller's number that is not his seat, family or name -/
theorem SV_fld {σ : gS} {p t f : Nat} {R : gW} {x : Int32} (h : SV σ p R) (ht : t < nM R) (hf : f < 9) (h0 : ¬ f = 0) (h2 : ¬ f = 2) (h1 : f = 1 → x = 0 ∨ x = 1) : SV (gup σ (p + 2 + t) (f + 1) x) p (rup R (9 + 10 * t + f) x) := by
  obtain ⟨b3, bn, e7⟩ := SV_3 h
  obtain ⟨a1, ⟨t1, t2, t3⟩, l1, n1⟩ := h
  have eR := cR_gupf (σ := σ) (p := p) (t := t) (f := f) (x := x) (by omega) hf
  have eN : nM (cR σ p) = nM R := agr_n a1
  refine ⟨by rw [eR]; exact agr_rup a1 (by omega), ⟨by rw [eR, rup_ne (by omega)]; exact t1, ?_, ?_⟩, ?_, ?_⟩
  · intro s hs
    rw [eR, nM_rup3 (by omega)] at hs
    rw [eR, fld_rup (by omega) (by decide), fld_rup (by omega) (by decide), fld_rup (by omega) (by decide)]
    obtain ⟨b1, b2, b4⟩ := t2 s hs
    rw [if_neg (show ¬ (s = t ∧ 0 = f) by omega), if_neg (show ¬ (s = t ∧ 2 = f) by omega)]
    refine ⟨?_, b2, b4⟩
    split
    · rename_i q
      exact h1 q.2.symm
    · exact b1
  · intro a ha g hg
    rw [gup_ne (by omega), t3 a ha g hg, eR]
    congr 1
    unfold mem
    rw [nM_rup3 (by omega)]
    refine cnt_congr (fun j hj => ?_)
    unfold memP
    rw [fld_rup (by omega) (by decide), fld_rup (by omega) (by decide), if_neg (show ¬ (j = t ∧ 0 = f) by omega), if_neg (show ¬ (j = t ∧ 2 = f) by omega)]
  · refine LR_same ?_ (fun j h3 h4 => rup_ne (by omega))
    obtain ⟨c1, c2, c3⟩ := l1
    unfold LR bLg
    have e1 : ∀ i, gup σ (p + 2 + t) (f + 1) x (p + 24) i = σ (p + 24) i := fun i => gup_ne (by omega)
    have e2 : ∀ i, gup σ (p + 2 + t) (f + 1) x (p + 24 + 1) i = σ (p + 24 + 1) i := fun i => gup_ne (by omega)
    simp only [e1, e2]
    exact ⟨c1, c2, c3⟩
  · intro s hs
    rw [nM_rup3 (by omega)] at hs
    rw [gup_ne (by omega), rup_ne (by omega)]
    exact n1 s hs
/-- a number of the header but how many there are -/
theorem SV_hdr {σ : gS} {p k : Nat} {R : gW} {x : Int32} (h : SV σ p R) (hk : k < 9) (h3 : ¬ k = 3) : SV (gup σ p (k + 4) x) p (rup R k x) := by
  obtain ⟨b3, bn, e7⟩ := SV_3 h
  obtain ⟨a1, ⟨t1, t2, t3⟩, l1, n1⟩ := h
  have eR := cR_gup0 (σ := σ) (p := p) (k := k) (x := x) hk
  refine ⟨by rw [eR]; exact agr_rup a1 h3, ⟨by rw [eR, rup_ne (by omega)]; exact t1, ?_, ?_⟩, ?_, ?_⟩
  · intro s hs
    rw [eR, nM_rup3 h3] at hs
    rw [eR, fld_rupl hk, fld_rupl hk, fld_rupl hk]
    exact t2 s hs
  · intro a ha g hg
    rw [gup_ne (by omega), t3 a ha g hg, eR]
    congr 1
    unfold mem
    rw [nM_rup3 h3]
    refine cnt_congr (fun j hj => ?_)
    unfold memP
    rw [fld_rupl hk, fld_rupl hk]
  · refine LR_same ?_ (fun j h3 h4 => rup_ne (by omega))
    obtain ⟨c1, c2, c3⟩ := l1
    unfold LR bLg
    have e1 : ∀ i, gup σ p (k + 4) x (p + 24) i = σ (p + 24) i := fun i => gup_ne (by omega)
    have e2 : ∀ i, gup σ p (k + 4) x (p + 24 + 1) i = σ (p + 24 + 1) i := fun i => gup_ne (by omega)
    simp only [e1, e2]
    exact ⟨c1, c2, c3⟩
  · intro s hs
    rw [nM_rup3 h3] at hs
    rw [gup_ne (by omega), rup_ne (by omega)]
    exact n1 s hs
/-- a seat -/
theorem SV_sit {σ : gS} {p t : Nat} {R : gW} {x : Int32} (h : SV σ p R) (ht : t < nM R) (hx : 0 ≤ x ∧ x < 40) : SV (cSit σ p t x) p (rup R (9 + 10 * t + 0) x) := by
  obtain ⟨b3, bn, e7⟩ := SV_3 h
  obtain ⟨a1, hT, l1, n1⟩ := h
  obtain ⟨eR, hT2, hF⟩ := cSit_ok hT (show t < nM (cR σ p) by rw [agr_n a1]; exact ht) hx
  refine ⟨by rw [eR]; exact agr_rup a1 (by omega), hT2, ?_, ?_⟩
  · refine LR_same ?_ (fun j h3 h4 => rup_ne (by omega))
    obtain ⟨c1, c2, c3⟩ := l1
    unfold LR bLg
    have e1 : ∀ i, cSit σ p t x (p + 24) i = σ (p + 24) i := fun i => hF _ _ (by omega) (by omega)
    have e2 : ∀ i, cSit σ p t x (p + 24 + 1) i = σ (p + 24 + 1) i := fun i => hF _ _ (by omega) (by omega)
    simp only [e1, e2]
    exact ⟨c1, c2, c3⟩
  · intro s hs
    rw [nM_rup] at hs
    rw [hF _ _ (by omega) (by omega), rup_ne (by omega)]
    exact n1 s hs
theorem cAdd_far {σ : gS} {w a b : Int32} {q : Nat} (h : ¬ q = 30) (h2 : ¬ q = 31) : cAdd σ w a b q = σ q := by
  funext j
  unfold cAdd cAd3
  split
  · rw [gup_ne (by omega), gup_ne (by omega), gup_ne (by omega), gup_ne (by omega)]
  · rw [gup_ne (by omega), gup_ne (by omega), gup_ne (by omega), gup_ne (by omega)]
/-- an entry -/
theorem SV_add {σ : gS} {R : gW} {w a b : Int32} (h : SV σ 6 R) : SV (cAdd σ w a b) 6 (fTe R w a b) := by
  obtain ⟨b3, bn, e7⟩ := SV_3 h
  have b9 := LR_b h.2.2.1
  obtain ⟨a1, ⟨t1, t2, t3⟩, l1, n1⟩ := h
  have eR : cR (cAdd σ w a b) 6 = cR σ 6 := by
    funext j
    unfold cR
    by_cases h1 : j < 9
    · rw [if_pos h1, if_pos h1, cAdd_far (by omega) (by omega)]
    · rw [if_neg h1, if_neg h1]
      by_cases h2 : j < 209
      · rw [if_pos h2, if_pos h2, cAdd_far (by omega) (by omega)]
      · rw [if_neg h2, if_neg h2]
  have ag : agr R (fTe R w a b) := by
    refine ⟨fun j hj => (fTe_ne b9 (by omega)).symm, fun t ht f hf => ?_⟩
    unfold fld
    exact (fTe_ne b9 (by omega)).symm
  refine ⟨by rw [eR]; exact agr_trans a1 ag, ⟨by rw [eR]; exact t1, by rw [eR]; exact t2, ?_⟩, cAdd_ok l1, ?_⟩
  · intro x hx f hf
    rw [cAdd_far (by omega) (by omega), eR]
    exact t3 x hx f hf
  · intro t ht
    rw [← agr_n ag] at ht
    rw [cAdd_far (by omega) (by omega), fTe_ne b9 (by omega)]
    exact n1 t ht
theorem SV_ex {σ : gS} {p a b : Nat} {R : gW} (h : SV σ p R) (ha : a < nM R) (hb : b < nM R) : SV (cExS σ p a b) p (rsw R a b) := by
  obtain ⟨b3, bn, e7⟩ := SV_3 h
  obtain ⟨a1, hT, l1, n1⟩ := id h
  have eN := agr_n a1
  have ea := (hT.2.1 a (by omega)).2.1
  have eb := (hT.2.1 b (by omega)).2.1
  have xa : σ (p + 2 + a) 1 = R (9 + 10 * a + 0) := by rw [cR_s (σ := σ) (p := p) (t := a) (by omega)]; exact a1.2 a (by omega) 0 (by decide)
  have xb : σ (p + 2 + b) 1 = R (9 + 10 * b + 0) := by rw [cR_s (σ := σ) (p := p) (t := b) (by omega)]; exact a1.2 b (by omega) 0 (by decide)
  rw [a1.2 a (by omega) 0 (by decide)] at ea
  rw [a1.2 b (by omega) 0 (by decide)] at eb
  unfold cExS
  rw [xa, xb]
  have s1 := SV_sit h ha eb
  have s2 := SV_sit (t := b) s1 (by rw [nM_rup]; exact hb) ea
  exact s2
theorem SV_pas {σ : gS} {p a b c : Nat} {R : gW} (h : SV σ p R) (ha : a < nM R) (hb : b < nM R) (hc : c < nM R) (hd : a ≠ b ∧ b ≠ c ∧ a ≠ c) : SV (cPas σ p a b c) p (rtu R a b c) := by
  obtain ⟨b3, bn, e7⟩ := SV_3 h
  obtain ⟨a1, hT, l1, n1⟩ := id h
  have eN := agr_n a1
  have ea := (hT.2.1 a (by omega)).2.1
  have eb := (hT.2.1 b (by omega)).2.1
  have ec := (hT.2.1 c (by omega)).2.1
  have xa : σ (p + 2 + a) 1 = R (9 + 10 * a + 0) := by rw [cR_s (σ := σ) (p := p) (t := a) (by omega)]; exact a1.2 a (by omega) 0 (by decide)
  have xb : σ (p + 2 + b) 1 = R (9 + 10 * b + 0) := by rw [cR_s (σ := σ) (p := p) (t := b) (by omega)]; exact a1.2 b (by omega) 0 (by decide)
  rw [a1.2 a (by omega) 0 (by decide)] at ea
  rw [a1.2 b (by omega) 0 (by decide)] at eb
  rw [a1.2 c (by omega) 0 (by decide)] at ec
  have s1 := SV_sit h ha eb
  have xc : cSit σ p a (R (9 + 10 * b + 0)) (p + 2 + c) 1 = rup R (9 + 10 * a + 0) (R (9 + 10 * b + 0)) (9 + 10 * c + 0) := by
    rw [cR_s (σ := cSit σ p a (R (9 + 10 * b + 0))) (p := p) (t := c) (by omega)]
    have n1 := (SV_3 s1).2.1
    exact s1.1.2 c (by rw [agr_n s1.1, nM_rup]; exact hc) 0 (by decide)
  have vc : rup R (9 + 10 * a + 0) (R (9 + 10 * b + 0)) (9 + 10 * c + 0) = R (9 + 10 * c + 0) := rup_ne (by omega)
  unfold cPas
  rw [xa, xb, xc]
  have s2 := SV_sit (t := b) (x := rup R (9 + 10 * a + 0) (R (9 + 10 * b + 0)) (9 + 10 * c + 0)) s1 (by rw [nM_rup]; exact hb) (by rw [vc]; exact ec)
  have s3 := SV_sit (t := c) s2 (by rw [nM_rup, nM_rup]; exact hc) ea
  exact s3
