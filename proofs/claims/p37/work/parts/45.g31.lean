section
-- text 31
/-! CLASS AND REFERENCE: a train stands for a row -/
/-- the log at place l says what the row's entries say -/
def LR (σ : gS) (l : Nat) (R : gW) : Prop := bLg σ l ∧ σ l 2 = R 209 ∧ ∀ i, i < (σ l 2).toNatClampNeg → ∀ c, c < 3 → σ (l + 1) (3 * (((σ l 1).toNatClampNeg + i) % 40) + c) = R (210 + 3 * i + c)
theorem bLg_n {σ : gS} {l : Nat} (h : bLg σ l) : ∃ O S, σ l 1 = iN O ∧ σ l 2 = iN S ∧ O < 40 ∧ S ≤ 40 ∧ (σ l 1).toNatClampNeg = O ∧ (σ l 2).toNatClampNeg = S := by
  obtain ⟨ho, hs⟩ := h
  obtain ⟨eo, lo⟩ := l40 ⟨ho.1, by have := ho.2; grind⟩
  obtain ⟨es, ls⟩ := l40 hs
  refine ⟨_, _, eo, es, ?_, ls, rfl, rfl⟩
  have h := ho.2
  rw [eo] at h
  exact (iN_lt (m := 40) (by omega) (by decide)).mp h
theorem LR_b {σ : gS} {l : Nat} {R : gW} (h : LR σ l R) : 0 ≤ R 209 ∧ R 209 ≤ 40 := by rw [← h.2.1]; exact h.1.2
theorem LR_same {σ : gS} {l : Nat} {R S : gW} (h : LR σ l R) (hs : ∀ j, 209 ≤ j → j < 330 → S j = R j) : LR σ l S := by
  obtain ⟨O, s, eo, es, lo, ls, no, ns⟩ := bLg_n h.1
  refine ⟨h.1, by rw [hs 209 (by decide) (by decide)]; exact h.2.1, fun i hi c hc => ?_⟩
  rw [ns] at hi
  rw [hs _ (by omega) (by omega)]
  exact h.2.2 i (by rw [ns]; exact hi) c hc
/-- an entry in class and reference -/
theorem cAdd_ok {σ : gS} {R : gW} {w a b : Int32} (h : LR σ 30 R) : LR (cAdd σ w a b) 30 (fTe R w a b) := by
  obtain ⟨hb, hs, he⟩ := h
  obtain ⟨O, S, eo, es, lo, ls, no, ns⟩ := bLg_n hb
  have hR : R 209 = iN S := by rw [← hs]; exact es
  have nR : (R 209).toNatClampNeg = S := by rw [hR, iN_nat (by omega)]
  have en : cNx σ = 3 * ((O + S) % 40) := by unfold cNx; rw [no, ns]
  have hm : (O + S) % 40 < 40 := Nat.mod_lt _ (by decide)
  rw [ns, no] at he
  have p3 : ∀ j, cAd3 σ w a b 31 j = if j = 3 * ((O + S) % 40) + 2 then b else if j = 3 * ((O + S) % 40) + 1 then a else if j = 3 * ((O + S) % 40) then w else σ 31 j := by
    intro j
    unfold cAd3 gup
    rw [en]
    grind
  have q1 : ∀ j, cAd3 σ w a b 30 j = σ 30 j := by
    intro j
    unfold cAd3
    rw [gup_ne (by omega), gup_ne (by omega), gup_ne (by omega)]
  have fR : ∀ T : gW, ∀ s : Nat, s < 40 → T 209 = iN s → (fTe0 T w a b 209 = iN (s + 1)) ∧ ∀ i, i ≤ s → ∀ c, c < 3 → fTe0 T w a b (210 + 3 * i + c) = if i = s then (if c = 0 then w else if c = 1 then a else b) else T (210 + 3 * i + c) := by
    intro T s hs hT
    have nT : (T 209).toNatClampNeg = s := by rw [hT, iN_nat (by omega)]
    refine ⟨?_, fun i hi c hc => ?_⟩
    · unfold fTe0
      rw [rup_at, hT, iN_one]
    · unfold fTe0 rup
      rw [nT]
      grind
  by_cases h40 : S < 40
  · have c1 : σ 30 2 < 40 := by rw [es]; exact (iN_lt (m := 40) (by omega) (by decide)).mpr h40
    have eA : cAdd σ w a b = gup (cAd3 σ w a b) 30 2 (iN (S + 1)) := by
      unfold cAdd
      rw [if_pos c1, es, iN_one]
    have eF : fTe R w a b = fTe0 R w a b := by
      unfold fTe
      rw [if_neg (by rw [hR]; exact iN_eq (b := 40) (by omega) (by decide) (by omega))]
    obtain ⟨f1, f2⟩ := fR R S h40 hR
    rw [eA, eF]
    have r2 : gup (cAd3 σ w a b) 30 2 (iN (S + 1)) 30 2 = iN (S + 1) := gup_at _ _ _
    have r1 : gup (cAd3 σ w a b) 30 2 (iN (S + 1)) 30 1 = iN O := by rw [gup_ne (by omega), q1]; exact eo
    refine ⟨⟨?_, ?_⟩, ?_, ?_⟩
    · rw [r1, ← eo]; exact hb.1
    · rw [r2]
      exact ⟨(iN_le (k := 0) (by decide) (by omega)).mpr (by omega), (iN_le (m := 40) (by omega) (by decide)).mpr (by omega)⟩
    · rw [r2, f1]
    · intro i hi c hc
      rw [r2, iN_nat (by omega)] at hi
      rw [r1, iN_nat (by omega), gup_ne (by omega), p3, f2 i (by omega) c hc]
      by_cases q : i = S
      · subst q
        rw [if_pos rfl]
        have : c = 0 ∨ c = 1 ∨ c = 2 := by omega
        rcases this with rfl | rfl | rfl
        · rw [if_neg (by omega), if_neg (by omega), if_pos (by omega), if_pos rfl]
        · rw [if_neg (by omega), if_pos rfl, if_neg (by omega), if_pos rfl]
        · rw [if_pos rfl, if_neg (by omega), if_neg (by omega)]
      · rw [if_neg q]
        have hne : (O + i) % 40 ≠ (O + S) % 40 := by omega
        rw [if_neg (by omega), if_neg (by omega), if_neg (by omega)]
        exact he i (by omega) c hc
  · have e40 : S = 40 := by omega
    subst e40
    have c1 : ¬ σ 30 2 < 40 := by rw [es]; exact fun q => absurd ((iN_lt (m := 40) (by omega) (by decide)).mp q) (by omega)
    have eA : cAdd σ w a b = gup (cAd3 σ w a b) 30 1 (iN ((O + 1) % 40)) := by
      unfold cAdd
      rw [if_neg c1, no]
    have eF : fTe R w a b = fTe0 (rup (lsh R 117) 209 39) w a b := by
      unfold fTe
      rw [if_pos (show R 209 = 40 from hR)]
    obtain ⟨f1, f2⟩ := fR (rup (lsh R 117) 209 39) 39 (by decide) (rup_at _ _ _)
    rw [eA, eF]
    have lo1 : (O + 1) % 40 < 40 := Nat.mod_lt _ (by decide)
    have r2 : gup (cAd3 σ w a b) 30 1 (iN ((O + 1) % 40)) 30 2 = iN 40 := by rw [gup_ne (by omega), q1]; exact es
    have r1 : gup (cAd3 σ w a b) 30 1 (iN ((O + 1) % 40)) 30 1 = iN ((O + 1) % 40) := gup_at _ _ _
    refine ⟨⟨?_, ?_⟩, ?_, ?_⟩
    · rw [r1]
      exact ⟨(iN_le (k := 0) (by decide) (by omega)).mpr (by omega), (iN_lt (m := 40) (by omega) (by decide)).mpr (by omega)⟩
    · rw [r2]; decide
    · rw [r2, f1]
    · intro i hi c hc
      rw [r2, iN_nat (by omega)] at hi
      rw [r1, iN_nat (by omega), gup_ne (by omega), p3, f2 i (by omega) c hc]
      by_cases q : i = 39
      · subst q
        rw [if_pos rfl]
        have : c = 0 ∨ c = 1 ∨ c = 2 := by omega
        rcases this with rfl | rfl | rfl
        · rw [if_neg (by omega), if_neg (by omega), if_pos (by omega), if_pos rfl]
        · rw [if_neg (by omega), if_pos (by omega), if_neg (by omega), if_pos rfl]
        · rw [if_pos (by omega), if_neg (by omega), if_neg (by omega)]
      · rw [if_neg q, rup_ne (by omega)]
        have hne : ((O + 1) % 40 + i) % 40 ≠ (O + 40) % 40 := by omega
        rw [if_neg (by omega), if_neg (by omega), if_neg (by omega)]
        unfold lsh
        rw [if_pos (by omega)]
        have := he (i + 1) (by omega) c hc
        rw [show ((O + 1) % 40 + i) % 40 = (O + (i + 1)) % 40 by omega, this, show 210 + 3 * (i + 1) + c = 210 + 3 * i + c + 3 by omega]
/-- what the class writes for a name, and what the reference does -/
def nmR (c r : Int32) : Prop := ∃ l : List Nat, (1 ≤ l.length ∧ l.length ≤ 5) ∧ (∀ x, x ∈ l → 1 ≤ x ∧ x ≤ 26) ∧ c = iN (l.foldr (fun x s => x + 32 * s) 0) ∧ r = iN (l.foldl (fun s x => 27 * s + x) 0)
/-- the train at place p stands for the row R -/
def SV (σ : gS) (p : Nat) (R : gW) : Prop := agr (cR σ p) R ∧ TC σ p ∧ LR σ (p + 24) R ∧ ∀ t, t < nM R → nmR (σ (p + 2 + t) 0) (R (9 + 10 * t + 9))
theorem SV_3 {σ : gS} {p : Nat} {R : gW} (h : SV σ p R) : (0 ≤ R 3 ∧ R 3 ≤ 20) ∧ nM R ≤ 20 ∧ σ p 7 = R 3 := by
  have e : cR σ p 3 = R 3 := h.1.1 3 (by decide)
  have h2 := h.2.1.1
  rw [e] at h2
  refine ⟨h2, (nM_of h2).2, ?_⟩
  rw [← e, cR_3]
theorem SV_b {σ : gS} {p : Nat} {R : gW} (h : SV σ p R) : bN R := ⟨(SV_3 h).1, LR_b h.2.2.1⟩
/-- heaps that are the same in a train's block -/
theorem cR_blk {σ τ : gS} {p : Nat} (h : ∀ q, p ≤ q → q < p + 26 → τ q = σ q) : cR τ p = cR σ p := by
  funext j
  unfold cR
  by_cases h1 : j < 9
  · rw [if_pos h1, if_pos h1, h p (by omega) (by omega)]
  · rw [if_neg h1, if_neg h1]
    by_cases h2 : j < 209
    · rw [if_pos h2, if_pos h2, h _ (by omega) (by omega)]
    · rw [if_neg h2, if_neg h2]
theorem SV_blk {σ τ : gS} {p : Nat} {R : gW} (h : SV σ p R) (hq : ∀ q, p ≤ q → q < p + 26 → τ q = σ q) : SV τ p R := by
  obtain ⟨h1, ⟨t1, t2, t3⟩, h3, h4⟩ := h
  have e := cR_blk hq
  refine ⟨by rw [e]; exact h1, ⟨by rw [e]; exact t1, by rw [e]; exact t2, ?_⟩, ?_, ?_⟩
  · intro a ha f hf
    rw [e, hq _ (by omega) (by omega)]
    exact t3 a ha f hf
  · unfold LR bLg
    rw [hq (p + 24) (by omega) (by omega), hq (p + 24 + 1) (by omega) (by omega)]
    exact h3
  · intro t ht
    have hn := (SV_3 ⟨h1, ⟨t1, t2, t3⟩, h3, h4⟩).2.1
    rw [hq _ (by omega) (by omega)]
    exact h4 t ht
theorem SV_row {σ : gS} {p : Nat} {R S : gW} (h : SV σ p R) (hs : ∀ j, j < 330 → S j = R j) : SV σ p S := by
  have hn := (SV_3 h).2.1
  obtain ⟨h1, h2, h3, h4⟩ := h
  have en : nM S = nM R := by unfold nM; rw [hs 3 (by decide)]
  refine ⟨?_, h2, LR_same h3 (fun j _ hj => hs j hj), ?_⟩
  · refine ⟨fun j hj => by rw [hs j (by omega)]; exact h1.1 j hj, fun t ht f hf => ?_⟩
    have hl : t < nM R := by rw [← agr_n h1]; exact ht
    unfold fld at *
    rw [hs _ (by omega)]
    exact h1.2 t ht f hf
  · intro t ht
    rw [en] at ht
    rw [hs _ (by omega)]
    exact h4 t ht
-- text 32
/-! CLASS AND REFERENCE: copies, the past -/
theorem cLc_ne {σ : gS} {d s b j : Nat} (h : ¬ b = d) (h2 : ¬ b = d + 1) : cLc σ d s b j = σ b j := by
  unfold cLc
  rw [gup_ne (by omega), gup_ne (by omega)]
  unfold cA1
  rw [if_neg (by omega)]
theorem cCo_hd {σ : gS} {p q j : Nat} (hpq : q + 26 ≤ p ∨ p + 26 ≤ q) (hn : (σ q 7).toNatClampNeg ≤ 20) (h : 4 ≤ j) (h2 : j < 13) : cCo σ p q p j = σ q j := by
  unfold cCo cHd
  rw [if_pos (by omega), cLc_ne (by omega) (by omega)]
  unfold cA1
  rw [if_neg (by omega)]
  unfold cT1
  rw [if_neg (by omega)]
theorem cCo_tr {σ : gS} {p q t j : Nat} (hn : (σ q 7).toNatClampNeg ≤ 20) (ht : t < (σ q 7).toNatClampNeg) (hj : j < 10) : cCo σ p q (p + 2 + t) j = σ (q + 2 + t) j := by
  unfold cCo cHd
  rw [if_neg (by omega), cLc_ne (by omega) (by omega)]
  unfold cA1
  rw [if_neg (by omega)]
  unfold cT1
  rw [if_pos (by omega), show q + (p + 2 + t - p) = q + 2 + t by omega]
theorem cCo_me {σ : gS} {p q j : Nat} (hpq : q + 26 ≤ p ∨ p + 26 ≤ q) (hn : (σ q 7).toNatClampNeg ≤ 20) (hj : j < 50) : cCo σ p q (p + 23) j = σ (q + 23) j := by
  unfold cCo cHd
  rw [if_neg (by omega), cLc_ne (by omega) (by omega)]
  unfold cA1
  rw [if_pos (by omega)]
  unfold cT1
  rw [if_neg (by omega)]
theorem cA1_ne {σ : gS} {d s k b j : Nat} (h : ¬ b = d) : cA1 σ d s k b j = σ b j := by unfold cA1; rw [if_neg (by omega)]
theorem cT1_ne {σ : gS} {p q k b j : Nat} (h : b < p + 2 ∨ p + 2 + k ≤ b) : cT1 σ p q k b j = σ b j := by unfold cT1; rw [if_neg (by omega)]
theorem cCo_lg {σ : gS} {p q : Nat} (hpq : q + 26 ≤ p ∨ p + 26 ≤ q) (hn : (σ q 7).toNatClampNeg ≤ 20) : cCo σ p q (p + 24) 1 = σ (q + 24) 1 ∧ cCo σ p q (p + 24) 2 = σ (q + 24) 2 ∧ ∀ j, j < 120 → cCo σ p q (p + 24 + 1) j = σ (q + 24 + 1) j := by
  have e1 : ∀ b j, b ≠ p → cCo σ p q b j = cLc (cA1 (cT1 σ p q (σ q 7).toNatClampNeg) (p + 23) (q + 23) 50) (p + 24) (q + 24) b j := fun b j h => by
    unfold cCo cHd
    rw [if_neg (by omega)]
  refine ⟨?_, ?_, fun j hj => ?_⟩
  · rw [e1 _ _ (by omega)]
    unfold cLc
    rw [gup_ne (by omega), gup_at, cA1_ne (by omega), cT1_ne (by omega)]
  · rw [e1 _ _ (by omega)]
    unfold cLc
    rw [gup_at, cA1_ne (by omega), cT1_ne (by omega)]
  · rw [e1 _ _ (by omega)]
    unfold cLc
    rw [gup_ne (by omega), gup_ne (by omega)]
    have e2 : cA1 (cA1 (cT1 σ p q (σ q 7).toNatClampNeg) (p + 23) (q + 23) 50) (p + 24 + 1) (q + 24 + 1) 120 (p + 24 + 1) j = cA1 (cT1 σ p q (σ q 7).toNatClampNeg) (p + 23) (q + 23) 50 (q + 24 + 1) j := by
      show (if p + 24 + 1 = p + 24 + 1 ∧ j < 120 then _ else _) = _
      rw [if_pos ⟨rfl, hj⟩]
    rw [e2, cA1_ne (by omega), cT1_ne (by omega)]
theorem mem_agr {R S : gW} (h : agr R S) (b f : Int32) : mem R b f = mem S b f := by
  unfold mem
  rw [← agr_n h]
  refine cnt_congr (fun j hj => ?_)
  unfold memP
  rw [h.2 j hj 0 (by decide), h.2 j hj 2 (by decide)]
theorem bT_agr {R S : gW} (h : agr R S) (hb : bT R) : bT S := by
  intro t ht
  rw [← agr_n h] at ht
  rw [← h.2 t ht 1 (by decide), ← h.2 t ht 0 (by decide), ← h.2 t ht 2 (by decide)]
  exact hb t ht
/-- a copy stands for the same row -/
theorem cCo_ok {σ : gS} {p q : Nat} {R : gW} (hpq : q + 26 ≤ p ∨ p + 26 ≤ q) (h : SV σ q R) : SV (cCo σ p q) p R := by
  obtain ⟨b3, bn, e7⟩ := SV_3 h
  obtain ⟨h1, ⟨t1, t2, t3⟩, h3, h4⟩ := h
  have en : (σ q 7).toNatClampNeg = nM R := by rw [e7]; rfl
  have hn : (σ q 7).toNatClampNeg ≤ 20 := by omega
  have e3 : cR (cCo σ p q) p 3 = cR σ q 3 := by rw [cR_3, cR_3, cCo_hd hpq hn (by decide) (by decide)]
  have eN : nM (cR (cCo σ p q) p) = nM R := by
    unfold nM
    rw [e3, cR_3, e7]
  have ha : agr (cR (cCo σ p q) p) (cR σ q) := by
    refine ⟨fun j hj => ?_, fun t ht f hf => ?_⟩
    · rw [cR_h hj, cR_h hj, cCo_hd hpq hn (by omega) (by omega)]
    · rw [eN] at ht
      rw [cR_f (by omega) hf, cR_f (by omega) hf, cCo_tr hn (by omega) (by omega)]
  refine ⟨agr_trans ha h1, ⟨by rw [e3]; exact t1, bT_agr (agr_symm ha) t2, ?_⟩, ?_, ?_⟩
  · intro a ha2 f hf
    rw [cCo_me hpq hn (by omega), mem_agr ha]
    exact t3 a ha2 f hf
  · obtain ⟨l1, l2, l3⟩ := cCo_lg (σ := σ) hpq hn
    obtain ⟨O, S, eo, es, lo, ls, no, ns⟩ := bLg_n h3.1
    refine ⟨?_, ?_, ?_⟩
    · unfold bLg
      rw [l1, l2]
      exact h3.1
    · rw [l2]; exact h3.2.1
    · intro i hi c hc
      rw [l2] at hi
      rw [l1, l3 _ (by have := Nat.mod_lt ((σ (q + 24) 1).toNatClampNeg + i) (show 0 < 40 by decide); omega)]
      exact h3.2.2 i hi c hc
  · intro t ht
    rw [cCo_tr hn (by omega) (by omega)]
    exact h4 t ht
/-- the past of class and reference -/
def PR (σ : gS) : Prop := bPa σ ∧ σ 113 2 = σ 323 6 ∧ ∀ u, u < (σ 113 2).toNatClampNeg → SV σ (cPl σ u) (rowAt (σ 327) u)
theorem rowAt_lt {E : gW} {u j : Nat} (h : j < 330) : rowAt E u j = E (330 * u + j) := by unfold rowAt; rw [if_pos h]
theorem rla_hi {S T : gW} {b k j : Nat} (h : j < b) : rla S T 0 b k j = T j := by unfold rla; rw [if_neg (by omega)]
theorem rla_in {S T : gW} {b k j : Nat} (h : j < k) : rla S T 0 b k (b + j) = S j := by unfold rla; rw [if_pos (by omega), Nat.zero_add, Nat.add_sub_cancel_left]
theorem cPl_mod (O i : Nat) : (O + i) % 8 < 8 := Nat.mod_lt _ (by decide)
theorem PR_keep {σ τ : gS} (h : PR σ) (h6 : SV σ 6 (σ 324)) (hq : ∀ q, 113 ≤ q → q < 323 → τ q = cRem σ q) (hE : τ 327 = fKe (σ 324) (σ 327) (σ 323 6)) (hU : τ 323 6 = fKu (σ 323 6)) : PR τ := by
  obtain ⟨hp, hu, hs⟩ := h
  obtain ⟨O, C, eo, ec, lo, lc, no, nc⟩ := bPa_n hp
  obtain ⟨b3, bn, e7⟩ := SV_3 h6
  have n7 : (σ 6 7).toNatClampNeg ≤ 20 := by rw [e7]; exact bn
  have eU : σ 323 6 = iN C := by rw [← hu]; exact ec
  have eP : cPl σ (σ 113 2).toNatClampNeg = 115 + 26 * ((O + C) % 8) := by unfold cPl; rw [no, nc]
  have hm := cPl_mod O C
  rw [nc] at hs
  have hpl : ∀ u, cPl σ u = 115 + 26 * ((O + u) % 8) := fun u => by unfold cPl; rw [no]
  -- the copy
  have hcp := cCo_ok (p := 115 + 26 * ((O + C) % 8)) (q := 6) (Or.inl (by omega)) h6
  have old : ∀ u, u < C → (O + u) % 8 ≠ (O + C) % 8 → SV (cCo σ (115 + 26 * ((O + C) % 8)) 6) (115 + 26 * ((O + u) % 8)) (rowAt (σ 327) u) := by
    intro u hu2 hne
    have h2 := hs u hu2
    rw [hpl] at h2
    refine SV_blk h2 (fun q q1 q2 => ?_)
    funext j
    exact cCo_far (by omega) n7
  by_cases h8 : C < 8
  · have c8 : σ 113 2 < 8 := by rw [ec]; exact (iN_lt (m := 8) (by omega) (by decide)).mpr h8
    have eR : cRem σ = gup (cCo σ (115 + 26 * ((O + C) % 8)) 6) 113 2 (iN (C + 1)) := by
      unfold cRem
      rw [if_pos c8, eP, ec, iN_one]
    have t2 : τ 113 2 = iN (C + 1) := by rw [hq 113 (by decide) (by decide), eR, gup_at]
    have t1 : τ 113 1 = iN O := by rw [hq 113 (by decide) (by decide), eR, gup_ne (by omega), cCo_far (by omega) n7]; exact eo
    have nt1 : (τ 113 1).toNatClampNeg = O := by rw [t1, iN_nat (by omega)]
    have blk : ∀ x, x < 8 → ∀ q, 115 + 26 * x ≤ q → q < 115 + 26 * x + 26 → τ q = cCo σ (115 + 26 * ((O + C) % 8)) 6 q := by
      intro x hx q q1 q2
      rw [hq q (by omega) (by omega), eR]
      funext j
      rw [gup_ne (by omega)]
    have nE : fKe (σ 324) (σ 327) (σ 323 6) = rla (σ 324) (σ 327) 0 (330 * C) 330 := by
      unfold fKe
      rw [eU, if_neg (show ¬ iN C = (8 : Int32) from iN_eq (a := C) (b := 8) (by omega) (by decide) (by omega)), iN_nat (by omega)]
    refine ⟨⟨?_, ?_⟩, ?_, ?_⟩
    · rw [t1, ← eo]; exact hp.1
    · rw [t2]
      exact ⟨(iN_le (k := 0) (by decide) (by omega)).mpr (by omega), (iN_le (m := 8) (by omega) (by decide)).mpr (by omega)⟩
    · rw [t2, hU]
      unfold fKu
      rw [eU, if_neg (show ¬ iN C = (8 : Int32) from iN_eq (a := C) (b := 8) (by omega) (by decide) (by omega)), iN_one]
    · intro u hu2
      rw [t2, iN_nat (by omega)] at hu2
      have ep : cPl τ u = 115 + 26 * ((O + u) % 8) := by unfold cPl; rw [nt1]
      rw [ep, hE, nE]
      refine SV_blk ?_ (blk _ (cPl_mod O u))
      by_cases q : u = C
      · rw [q]
        refine SV_row hcp (fun j hj => ?_)
        rw [rowAt_lt hj, rla_in hj]
      · refine SV_row (old u (by omega) (by omega)) (fun j hj => ?_)
        rw [rowAt_lt hj, rowAt_lt hj, rla_hi (by omega)]
  · have e8 : C = 8 := by omega
    subst e8
    have c8 : ¬ σ 113 2 < 8 := by rw [ec]; decide
    have eR : cRem σ = gup (cCo σ (115 + 26 * ((O + 8) % 8)) 6) 113 1 (iN ((O + 1) % 8)) := by
      unfold cRem
      rw [if_neg c8, eP, no]
    have lo1 : (O + 1) % 8 < 8 := Nat.mod_lt _ (by decide)
    have t2 : τ 113 2 = iN 8 := by rw [hq 113 (by decide) (by decide), eR, gup_ne (by omega), cCo_far (by omega) n7]; exact ec
    have t1 : τ 113 1 = iN ((O + 1) % 8) := by rw [hq 113 (by decide) (by decide), eR, gup_at]
    have nt1 : (τ 113 1).toNatClampNeg = (O + 1) % 8 := by rw [t1, iN_nat (by omega)]
    have blk : ∀ x, x < 8 → ∀ q, 115 + 26 * x ≤ q → q < 115 + 26 * x + 26 → τ q = cCo σ (115 + 26 * ((O + 8) % 8)) 6 q := by
      intro x hx q q1 q2
      rw [hq q (by omega) (by omega), eR]
      funext j
      rw [gup_ne (by omega)]
    have nE : fKe (σ 324) (σ 327) (σ 323 6) = rla (σ 324) (esh (σ 327) 7) 0 2310 330 := by
      unfold fKe
      rw [eU, if_pos (show iN 8 = (8 : Int32) from rfl)]
    refine ⟨⟨?_, ?_⟩, ?_, ?_⟩
    · rw [t1]
      exact ⟨(iN_le (k := 0) (by decide) (by omega)).mpr (by omega), (iN_lt (m := 8) (by omega) (by decide)).mpr (by omega)⟩
    · rw [t2]; decide
    · rw [t2, hU]
      unfold fKu
      rw [eU, if_pos (show iN 8 = (8 : Int32) from rfl)]
      rfl
    · intro u hu2
      rw [t2, iN_nat (by omega)] at hu2
      have ep : cPl τ u = 115 + 26 * (((O + 1) % 8 + u) % 8) := by unfold cPl; rw [nt1]
      have em : ((O + 1) % 8 + u) % 8 = (O + (u + 1)) % 8 := by omega
      rw [ep, em, hE, nE]
      refine SV_blk ?_ (blk _ (cPl_mod O (u + 1)))
      by_cases q : u = 7
      · subst q
        refine SV_row hcp (fun j hj => ?_)
        rw [rowAt_lt hj]
        exact rla_in hj
      · refine SV_row (old (u + 1) (by omega) (by omega)) (fun j hj => ?_)
        rw [rowAt_lt hj, rowAt_lt hj, rla_hi (by omega)]
        unfold esh
        rw [if_pos (by omega), show 330 * (u + 1) + j = 330 * u + j + 330 by omega]
end
section
-- text 33
/-! CLASS AND REFERENCE: one number changed -/
theorem rup_comm {R : gW} {a b : Nat} {x y : Int32} (h : ¬ a = b) : rup (rup R a x) b y = rup (rup R b y) a x := by
  funext j
  unfold rup
  grind
theorem agr_rup {R S : gW} {k : Nat} {x : Int32} (h : agr R S) (hk : ¬ k = 3) : agr (rup R k x) (rup S k x) := by
  refine ⟨fun j hj => ?_, fun t ht f hf => ?_⟩
  · unfold rup
    split
    · rfl
    · exact h.1 j hj
  · have ht : t < nM R := by
      unfold nM at ht ⊢
      rw [rup_ne (fun e => hk e.symm)] at ht
      exact ht
    unfold fld rup
    split
    · rfl
    · exact h.2 t ht f hf
theorem nM_rup3 {R : gW} {k : Nat} {x : Int32} (hk : ¬ k = 3) : nM (rup R k x) = nM R := by unfold nM; rw [rup_ne (fun e => hk e.symm)]
theorem fld_rup {R : gW} {t f s g : Nat} {x : Int32} (hf : f < 10) (hg : g < 10) : fld (rup R (9 + 10 * t + f) x) s g = if s = t ∧ g = f then x else fld R s g := by
  unfold fld rup
  by_cases q : s = t ∧ g = f
  · rw [if_pos q, if_pos (by omega)]
  · rw [if_neg q, if_neg (by omega)]
theorem fld_rupl {R : gW} {k s g : Nat} {x : Int32} (hk : k < 9) : fld (rup R k x) s g = fld R s g := by
  unfold fld
  rw [rup_ne (by omega)]
/-- a traveller's number that is not his seat, family or name -/
theorem SV_fld {σ : gS} {p t f : Nat} {R : gW} {x : Int32} (h : SV σ p R) (ht : t < nM R) (hf : f < 9) (h0 : ¬ f = 0) (h2 : ¬ f = 2) (h1 : f = 1 → x = 0 ∨ x = 1) : SV (gup σ (p + 2 + t) (f + 1) x) p (rup R (9 + 10 * t + f) x) := by
  obtain ⟨b3, bn, e7⟩ := SV_3 h
  obtain ⟨a1, ⟨t1, t2, t3⟩, l1, n1⟩ := h
  have eR := cR_gupf (σ := σ) (p := p) (t := t) (f := f) (x := x) (by omega) hf
  have eN : nM (cR σ p) = nM R := agr_n a1
  refine ⟨by rw [eR]; exact agr_rup a1 (by omega), ⟨by rw [eR, rup_ne (by omega)]; exact t1, ?_, ?_⟩, ?_, ?_⟩
  · intro s hs
    rw [eR, nM_rup3 (by omega)] at hs
    rw [eR, fld_rup (by omega) (by decide), fld_rup (by omega) (by decide), fld_rup (by omega) (by decide)]
    obtain ⟨b1, b2, b4⟩ := t2 s hs
    rw [if_neg (show ¬ (s = t ∧ 0 = f) by omega), if_neg (show ¬ (s = t ∧ 2 = f) by omega)]
    refine ⟨?_, b2, b4⟩
    split
    · rename_i q
      exact h1 q.2.symm
    · exact b1
  · intro a ha g hg
    rw [gup_ne (by omega), t3 a ha g hg, eR]
    congr 1
    unfold mem
    rw [nM_rup3 (by omega)]
    refine cnt_congr (fun j hj => ?_)
    unfold memP
    rw [fld_rup (by omega) (by decide), fld_rup (by omega) (by decide), if_neg (show ¬ (j = t ∧ 0 = f) by omega), if_neg (show ¬ (j = t ∧ 2 = f) by omega)]
  · refine LR_same ?_ (fun j h3 h4 => rup_ne (by omega))
    obtain ⟨c1, c2, c3⟩ := l1
    unfold LR bLg
    have e1 : ∀ i, gup σ (p + 2 + t) (f + 1) x (p + 24) i = σ (p + 24) i := fun i => gup_ne (by omega)
    have e2 : ∀ i, gup σ (p + 2 + t) (f + 1) x (p + 24 + 1) i = σ (p + 24 + 1) i := fun i => gup_ne (by omega)
    simp only [e1, e2]
    exact ⟨c1, c2, c3⟩
  · intro s hs
    rw [nM_rup3 (by omega)] at hs
    rw [gup_ne (by omega), rup_ne (by omega)]
    exact n1 s hs
/-- a number of the header but how many there are -/
theorem SV_hdr {σ : gS} {p k : Nat} {R : gW} {x : Int32} (h : SV σ p R) (hk : k < 9) (h3 : ¬ k = 3) : SV (gup σ p (k + 4) x) p (rup R k x) := by
  obtain ⟨b3, bn, e7⟩ := SV_3 h
  obtain ⟨a1, ⟨t1, t2, t3⟩, l1, n1⟩ := h
  have eR := cR_gup0 (σ := σ) (p := p) (k := k) (x := x) hk
  refine ⟨by rw [eR]; exact agr_rup a1 h3, ⟨by rw [eR, rup_ne (by omega)]; exact t1, ?_, ?_⟩, ?_, ?_⟩
  · intro s hs
    rw [eR, nM_rup3 h3] at hs
    rw [eR, fld_rupl hk, fld_rupl hk, fld_rupl hk]
    exact t2 s hs
  · intro a ha g hg
    rw [gup_ne (by omega), t3 a ha g hg, eR]
    congr 1
    unfold mem
    rw [nM_rup3 h3]
    refine cnt_congr (fun j hj => ?_)
    unfold memP
    rw [fld_rupl hk, fld_rupl hk]
  · refine LR_same ?_ (fun j h3 h4 => rup_ne (by omega))
    obtain ⟨c1, c2, c3⟩ := l1
    unfold LR bLg
    have e1 : ∀ i, gup σ p (k + 4) x (p + 24) i = σ (p + 24) i := fun i => gup_ne (by omega)
    have e2 : ∀ i, gup σ p (k + 4) x (p + 24 + 1) i = σ (p + 24 + 1) i := fun i => gup_ne (by omega)
    simp only [e1, e2]
    exact ⟨c1, c2, c3⟩
  · intro s hs
    rw [nM_rup3 h3] at hs
    rw [gup_ne (by omega), rup_ne (by omega)]
    exact n1 s hs
/-- a seat -/
theorem SV_sit {σ : gS} {p t : Nat} {R : gW} {x : Int32} (h : SV σ p R) (ht : t < nM R) (hx : 0 ≤ x ∧ x < 40) : SV (cSit σ p t x) p (rup R (9 + 10 * t + 0) x) := by
  obtain ⟨b3, bn, e7⟩ := SV_3 h
  obtain ⟨a1, hT, l1, n1⟩ := h
  obtain ⟨eR, hT2, hF⟩ := cSit_ok hT (show t < nM (cR σ p) by rw [agr_n a1]; exact ht) hx
  refine ⟨by rw [eR]; exact agr_rup a1 (by omega), hT2, ?_, ?_⟩
  · refine LR_same ?_ (fun j h3 h4 => rup_ne (by omega))
    obtain ⟨c1, c2, c3⟩ := l1
    unfold LR bLg
    have e1 : ∀ i, cSit σ p t x (p + 24) i = σ (p + 24) i := fun i => hF _ _ (by omega) (by omega)
    have e2 : ∀ i, cSit σ p t x (p + 24 + 1) i = σ (p + 24 + 1) i := fun i => hF _ _ (by omega) (by omega)
    simp only [e1, e2]
    exact ⟨c1, c2, c3⟩
  · intro s hs
    rw [nM_rup] at hs
    rw [hF _ _ (by omega) (by omega), rup_ne (by omega)]
    exact n1 s hs
theorem cAdd_far {σ : gS} {w a b : Int32} {q : Nat} (h : ¬ q = 30) (h2 : ¬ q = 31) : cAdd σ w a b q = σ q := by
  funext j
  unfold cAdd cAd3
  split
  · rw [gup_ne (by omega), gup_ne (by omega), gup_ne (by omega), gup_ne (by omega)]
  · rw [gup_ne (by omega), gup_ne (by omega), gup_ne (by omega), gup_ne (by omega)]
/-- an entry -/
theorem SV_add {σ : gS} {R : gW} {w a b : Int32} (h : SV σ 6 R) : SV (cAdd σ w a b) 6 (fTe R w a b) := by
  obtain ⟨b3, bn, e7⟩ := SV_3 h
  have b9 := LR_b h.2.2.1
  obtain ⟨a1, ⟨t1, t2, t3⟩, l1, n1⟩ := h
  have eR : cR (cAdd σ w a b) 6 = cR σ 6 := by
    funext j
    unfold cR
    by_cases h1 : j < 9
    · rw [if_pos h1, if_pos h1, cAdd_far (by omega) (by omega)]
    · rw [if_neg h1, if_neg h1]
      by_cases h2 : j < 209
      · rw [if_pos h2, if_pos h2, cAdd_far (by omega) (by omega)]
      · rw [if_neg h2, if_neg h2]
  have ag : agr R (fTe R w a b) := by
    refine ⟨fun j hj => (fTe_ne b9 (by omega)).symm, fun t ht f hf => ?_⟩
    unfold fld
    exact (fTe_ne b9 (by omega)).symm
  refine ⟨by rw [eR]; exact agr_trans a1 ag, ⟨by rw [eR]; exact t1, by rw [eR]; exact t2, ?_⟩, cAdd_ok l1, ?_⟩
  · intro x hx f hf
    rw [cAdd_far (by omega) (by omega), eR]
    exact t3 x hx f hf
  · intro t ht
    rw [← agr_n ag] at ht
    rw [cAdd_far (by omega) (by omega), fTe_ne b9 (by omega)]
    exact n1 t ht
theorem SV_ex {σ : gS} {p a b : Nat} {R : gW} (h : SV σ p R) (ha : a < nM R) (hb : b < nM R) : SV (cExS σ p a b) p (rsw R a b) := by
  obtain ⟨b3, bn, e7⟩ := SV_3 h
  obtain ⟨a1, hT, l1, n1⟩ := id h
  have eN := agr_n a1
  have ea := (hT.2.1 a (by omega)).2.1
  have eb := (hT.2.1 b (by omega)).2.1
  have xa : σ (p + 2 + a) 1 = R (9 + 10 * a + 0) := by rw [cR_s (σ := σ) (p := p) (t := a) (by omega)]; exact a1.2 a (by omega) 0 (by decide)
  have xb : σ (p + 2 + b) 1 = R (9 + 10 * b + 0) := by rw [cR_s (σ := σ) (p := p) (t := b) (by omega)]; exact a1.2 b (by omega) 0 (by decide)
  rw [a1.2 a (by omega) 0 (by decide)] at ea
  rw [a1.2 b (by omega) 0 (by decide)] at eb
  unfold cExS
  rw [xa, xb]
  have s1 := SV_sit h ha eb
  have s2 := SV_sit (t := b) s1 (by rw [nM_rup]; exact hb) ea
  exact s2
theorem SV_pas {σ : gS} {p a b c : Nat} {R : gW} (h : SV σ p R) (ha : a < nM R) (hb : b < nM R) (hc : c < nM R) (hd : a ≠ b ∧ b ≠ c ∧ a ≠ c) : SV (cPas σ p a b c) p (rtu R a b c) := by
  obtain ⟨b3, bn, e7⟩ := SV_3 h
  obtain ⟨a1, hT, l1, n1⟩ := id h
  have eN := agr_n a1
  have ea := (hT.2.1 a (by omega)).2.1
  have eb := (hT.2.1 b (by omega)).2.1
  have ec := (hT.2.1 c (by omega)).2.1
  have xa : σ (p + 2 + a) 1 = R (9 + 10 * a + 0) := by rw [cR_s (σ := σ) (p := p) (t := a) (by omega)]; exact a1.2 a (by omega) 0 (by decide)
  have xb : σ (p + 2 + b) 1 = R (9 + 10 * b + 0) := by rw [cR_s (σ := σ) (p := p) (t := b) (by omega)]; exact a1.2 b (by omega) 0 (by decide)
  rw [a1.2 a (by omega) 0 (by decide)] at ea
  rw [a1.2 b (by omega) 0 (by decide)] at eb
  rw [a1.2 c (by omega) 0 (by decide)] at ec
  have s1 := SV_sit h ha eb
  have xc : cSit σ p a (R (9 + 10 * b + 0)) (p + 2 + c) 1 = rup R (9 + 10 * a + 0) (R (9 + 10 * b + 0)) (9 + 10 * c + 0) := by
    rw [cR_s (σ := cSit σ p a (R (9 + 10 * b + 0))) (p := p) (t := c) (by omega)]
    have n1 := (SV_3 s1).2.1
    exact s1.1.2 c (by rw [agr_n s1.1, nM_rup]; exact hc) 0 (by decide)
  have vc : rup R (9 + 10 * a + 0) (R (9 + 10 * b + 0)) (9 + 10 * c + 0) = R (9 + 10 * c + 0) := rup_ne (by omega)
  unfold cPas
  rw [xa, xb, xc]
  have s2 := SV_sit (t := b) (x := rup R (9 + 10 * a + 0) (R (9 + 10 * b + 0)) (9 + 10 * c + 0)) s1 (by rw [nM_rup]; exact hb) (by rw [vc]; exact ec)
  have s3 := SV_sit (t := c) s2 (by rw [nM_rup, nM_rup]; exact hc) ea
  exact s3
-- text 34
/-! THE CLASS: its calls, swap, move, ring, first, set -/
noncomputable def gpct_l : List (Nat × gD) := (10, f10) :: gpcs_l
noncomputable def gpct : gP := gpl0 gpct_l
theorem gpct_ok : gPok gpct := gpl0_cons ok10 (gpcs_ok)
def gad (σ : gS) (p k : Nat) (x : Int32) : gS := gup σ p k (σ p k + x)
theorem gad_ne {σ : gS} {p k q j : Nat} {x : Int32} (h : ¬ (q = p ∧ j = k)) : gad σ p k x q j = σ q j := gup_ne h
theorem cExS_30 {σ : gS} {p a b : Nat} (h : TC σ p) (ha : a < nM (cR σ p)) (hb : b < nM (cR σ p)) : ∀ j, cExS σ p a b (p + 24) j = σ (p + 24) j := fun j => (cExS_ok h ha hb).2.2 _ _ (by omega) (by omega)
theorem cPas_30 {σ : gS} {p a b c : Nat} (h : TC σ p) (ha : a < nM (cR σ p)) (hb : b < nM (cR σ p)) (hc : c < nM (cR σ p)) (hd : a ≠ b ∧ b ≠ c ∧ a ≠ c) : ∀ j, cPas σ p a b c (p + 24) j = σ (p + 24) j := fun j => (cPas_ok h ha hb hc hd).2.2 _ _ (by omega) (by omega)
def cDsw (σ : gS) (a b : Nat) (x : Int32) : gS := cAdd (gad (gad (gad (gad (cExS σ 6 a b) (6 + 2 + a) 8 (-x)) (6 + 2 + b) 8 x) 6 8 1) 6 11 x) 1 (100 * iN a + iN b) x
def cDmo (σ : gS) (a : Nat) (x : Int32) : gS := cAdd (gad (cSit σ 6 a x) 6 9 1) 2 (iN a) (σ (6 + 2 + a) 1)
def cDri (σ : gS) (a b c : Nat) : gS := cAdd (gad (cPas σ 6 a b c) 6 10 1) 3 (10000 * iN a + 100 * iN b + iN c) 0
set_option maxRecDepth 20000 in
theorem w89 {σ : gS} {K : gK} {a b x : Int32} (h : ((0 ≤ a ∧ a < 20) ∧ (0 ≤ b ∧ b < 20)) ∧ (0 ≤ a ∧ a < 20) ∧ gTv (6 + 2 + a.toNatClampNeg) ∧ gTv (6 + 2 + a.toNatClampNeg) ∧ gE 89 20 [some (.ref 6), some (.int a), some (.int b), some (.int x)] [] (gup (cExS σ 6 a.toNatClampNeg b.toNatClampNeg) (6 + 2 + a.toNatClampNeg) 8 (((cExS σ 6 a.toNatClampNeg b.toNatClampNeg) (6 + 2 + a.toNatClampNeg) 8) - x)) K) : gE 89 0 [some (.ref 6), some (.int a), some (.int b), some (.int x)] [] σ K :=
  gw_run (cy := 89) (cuts := [20, 34, 44, 54]) (inl := []) (pf := gpct) gpct_ok 400 (by decide) h
set_option maxRecDepth 20000 in
theorem c89_20 {σ : gS} {K : gK} {l1 l2 l3 : Int32} (h : (0 ≤ l2 ∧ l2 < 20) ∧ gTv (6 + 2 + l2.toNatClampNeg) ∧ gTv (6 + 2 + l2.toNatClampNeg) ∧ gE 89 34 [some (.ref 6), some (.int l1), some (.int l2), some (.int l3)] [] (gup σ (6 + 2 + l2.toNatClampNeg) 8 ((σ (6 + 2 + l2.toNatClampNeg) 8) + l3)) K) : gE 89 20 [some (.ref 6), some (.int l1), some (.int l2), some (.int l3)] [] σ K :=
  gw_run (cy := 89) (cuts := [20, 34, 44, 54]) (inl := []) (pf := gpct) gpct_ok 400 (by decide) h
set_option maxRecDepth 20000 in
theorem c89_34 {σ : gS} {K : gK} {l1 l2 l3 : Int32} (h : gE 89 44 [some (.ref 6), some (.int l1), some (.int l2), some (.int l3)] [] (gup σ 6 8 ((σ 6 8) + 1)) K) : gE 89 34 [some (.ref 6), some (.int l1), some (.int l2), some (.int l3)] [] σ K :=
  gw_run (cy := 89) (cuts := [20, 34, 44, 54]) (inl := []) (pf := gpct) gpct_ok 400 (by decide) h
set_option maxRecDepth 20000 in
theorem c89_44 {σ : gS} {K : gK} {l1 l2 l3 : Int32} (h : gE 89 54 [some (.ref 6), some (.int l1), some (.int l2), some (.int l3)] [] (gup σ 6 11 ((σ 6 11) + l3)) K) : gE 89 44 [some (.ref 6), some (.int l1), some (.int l2), some (.int l3)] [] σ K :=
  gw_run (cy := 89) (cuts := [20, 34, 44, 54]) (inl := []) (pf := gpct) gpct_ok 400 (by decide) h
set_option maxRecDepth 20000 in
theorem c89_54 {σ : gS} {K : gK} {l1 l2 l3 : Int32} (h : (bLg σ 30) ∧ K none (cAdd σ (1 : Int32) ((100 * l1) + l2) l3)) : gE 89 54 [some (.ref 6), some (.int l1), some (.int l2), some (.int l3)] [] σ K :=
  gw_run (cy := 89) (cuts := [20, 34, 44, 54]) (inl := []) (pf := gpct) gpct_ok 400 (by decide) h
theorem s89 {σ : gS} {K : gK} {a b x : Int32} (hc : (isN σ 6 a ∧ isN σ 6 b) ∧ TC σ 6 ∧ bLg σ 30) (hK : K none (cDsw σ a.toNatClampNeg b.toNatClampNeg x)) : gE 89 0 [some (.ref 6), some (.int a), some (.int b), some (.int x)] [] σ K := by
  obtain ⟨⟨ha, hb⟩, hT, hl⟩ := hc
  have ea := (t20 ha.1).1
  have eb := (t20 hb.1).1
  have tva := tv_6 _ (n20 ha.1)
  have tvb := tv_6 _ (n20 hb.1)
  have e30 := cExS_30 hT ha.2 hb.2
  unfold cDsw gad at hK
  rw [← ea, ← eb] at hK
  have la := n20 ha.1
  have lb := n20 hb.1
  refine w89 ⟨⟨ha.1, hb.1⟩, ha.1, tva, tva, c89_20 ⟨hb.1, tvb, tvb, c89_34 (c89_44 (c89_54 ⟨?_, ?_⟩))⟩⟩
  · have e : ∀ j, gup (gup (gup (gup (cExS σ 6 a.toNatClampNeg b.toNatClampNeg) (6 + 2 + a.toNatClampNeg) 8 (cExS σ 6 a.toNatClampNeg b.toNatClampNeg (6 + 2 + a.toNatClampNeg) 8 - x)) (6 + 2 + b.toNatClampNeg) 8 (gup (cExS σ 6 a.toNatClampNeg b.toNatClampNeg) (6 + 2 + a.toNatClampNeg) 8 (cExS σ 6 a.toNatClampNeg b.toNatClampNeg (6 + 2 + a.toNatClampNeg) 8 - x) (6 + 2 + b.toNatClampNeg) 8 + x)) 6 8 (gup (gup (cExS σ 6 a.toNatClampNeg b.toNatClampNeg) (6 + 2 + a.toNatClampNeg) 8 (cExS σ 6 a.toNatClampNeg b.toNatClampNeg (6 + 2 + a.toNatClampNeg) 8 - x)) (6 + 2 + b.toNatClampNeg) 8 (gup (cExS σ 6 a.toNatClampNeg b.toNatClampNeg) (6 + 2 + a.toNatClampNeg) 8 (cExS σ 6 a.toNatClampNeg b.toNatClampNeg (6 + 2 + a.toNatClampNeg) 8 - x) (6 + 2 + b.toNatClampNeg) 8 + x) 6 8 + 1)) 6 11 (gup (gup (gup (cExS σ 6 a.toNatClampNeg b.toNatClampNeg) (6 + 2 + a.toNatClampNeg) 8 (cExS σ 6 a.toNatClampNeg b.toNatClampNeg (6 + 2 + a.toNatClampNeg) 8 - x)) (6 + 2 + b.toNatClampNeg) 8 (gup (cExS σ 6 a.toNatClampNeg b.toNatClampNeg) (6 + 2 + a.toNatClampNeg) 8 (cExS σ 6 a.toNatClampNeg b.toNatClampNeg (6 + 2 + a.toNatClampNeg) 8 - x) (6 + 2 + b.toNatClampNeg) 8 + x)) 6 8 (gup (gup (cExS σ 6 a.toNatClampNeg b.toNatClampNeg) (6 + 2 + a.toNatClampNeg) 8 (cExS σ 6 a.toNatClampNeg b.toNatClampNeg (6 + 2 + a.toNatClampNeg) 8 - x)) (6 + 2 + b.toNatClampNeg) 8 (gup (cExS σ 6 a.toNatClampNeg b.toNatClampNeg) (6 + 2 + a.toNatClampNeg) 8 (cExS σ 6 a.toNatClampNeg b.toNatClampNeg (6 + 2 + a.toNatClampNeg) 8 - x) (6 + 2 + b.toNatClampNeg) 8 + x) 6 8 + 1) 6 11 + x) 30 j = σ 30 j := fun j => by
      rw [gup_ne (by omega), gup_ne (by omega), gup_ne (by omega), gup_ne (by omega)]
      exact e30 j
    unfold bLg
    rw [e, e]
    exact hl
  · simp only [Int32.sub_eq_add_neg]
    exact hK
noncomputable def f89 : gD := fun Lv σ => match Lv with
  | [some (.ref q0), some (.int a), some (.int b), some (.int x)] => cond (Nat.beq q0 6) (some (some ((isN σ 6 a ∧ isN σ 6 b) ∧ TC σ 6 ∧ bLg σ 30), none, cDsw σ a.toNatClampNeg b.toNatClampNeg x)) none
  | _ => none
theorem ok89 : gFok 89 f89 := by
  intro Lv σ q h hc K hK
  unfold f89 at h
  split at h
  · rename_i q0 a b x
    obtain ⟨hb, h⟩ := c_no h
    have hb0 := hb
    have e0 := b_eq hb0
    subst e0
    cases h
    exact s89 (hc _ rfl) hK
  · cases h
set_option maxRecDepth 20000 in
theorem w91 {σ : gS} {K : gK} {a x : Int32} (h : (0 ≤ a ∧ a < 20) ∧ gTv (6 + 2 + a.toNatClampNeg) ∧ (0 ≤ a ∧ a < 20) ∧ gE 91 25 [some (.ref 6), some (.int a), some (.int x), some (.int (σ (6 + 2 + a.toNatClampNeg) 1))] [] (gup (cSit σ 6 a.toNatClampNeg x) 6 9 (((cSit σ 6 a.toNatClampNeg x) 6 9) + 1)) K) : gE 91 0 [some (.ref 6), some (.int a), some (.int x), none] [] σ K :=
  gw_run (cy := 91) (cuts := [25]) (inl := []) (pf := gpct) gpct_ok 400 (by decide) h
set_option maxRecDepth 20000 in
theorem c91_25 {σ : gS} {K : gK} {l1 l2 l3 : Int32} (h : (bLg σ 30) ∧ K none (cAdd σ (2 : Int32) l1 l3)) : gE 91 25 [some (.ref 6), some (.int l1), some (.int l2), some (.int l3)] [] σ K :=
  gw_run (cy := 91) (cuts := [25]) (inl := []) (pf := gpct) gpct_ok 400 (by decide) h
theorem s91 {σ : gS} {K : gK} {a x : Int32} (hc : isN σ 6 a ∧ (0 ≤ x ∧ x < 40) ∧ TC σ 6 ∧ bLg σ 30) (hK : K none (cDmo σ a.toNatClampNeg x)) : gE 91 0 [some (.ref 6), some (.int a), some (.int x), none] [] σ K := by
  obtain ⟨ha, hx, hT, hl⟩ := hc
  have ea := (t20 ha.1).1
  have tva := tv_6 _ (n20 ha.1)
  have e30 : ∀ j, cSit σ 6 a.toNatClampNeg x 30 j = σ 30 j := fun j => (cSit_ok hT ha.2 hx).2.2 _ _ (by omega) (by omega)
  unfold cDmo gad at hK
  rw [← ea] at hK
  refine w91 ⟨ha.1, tva, ha.1, c91_25 ⟨?_, hK⟩⟩
  have e : ∀ j, gup (cSit σ 6 a.toNatClampNeg x) 6 9 (cSit σ 6 a.toNatClampNeg x 6 9 + 1) 30 j = σ 30 j := fun j => by rw [gup_ne (by omega)]; exact e30 j
  unfold bLg
  rw [e, e]
  exact hl
noncomputable def f91 : gD := fun Lv σ => match Lv with
  | [some (.ref q0), some (.int a), some (.int x), none] => cond (Nat.beq q0 6) (some (some (isN σ 6 a ∧ (0 ≤ x ∧ x < 40) ∧ TC σ 6 ∧ bLg σ 30), none, cDmo σ a.toNatClampNeg x)) none
  | _ => none
theorem ok91 : gFok 91 f91 := by
  intro Lv σ q h hc K hK
  unfold f91 at h
  split at h
  · rename_i q0 a x
    obtain ⟨hb, h⟩ := c_no h
    have hb0 := hb
    have e0 := b_eq hb0
    subst e0
    cases h
    exact s91 (hc _ rfl) hK
  · cases h
set_option maxRecDepth 20000 in
theorem w94 {σ : gS} {K : gK} {a b c : Int32} (h : ((0 ≤ a ∧ a < 20) ∧ (0 ≤ b ∧ b < 20) ∧ (0 ≤ c ∧ c < 20)) ∧ gE 94 17 [some (.ref 6), some (.int a), some (.int b), some (.int c)] [] (gup (cPas σ 6 a.toNatClampNeg b.toNatClampNeg c.toNatClampNeg) 6 10 (((cPas σ 6 a.toNatClampNeg b.toNatClampNeg c.toNatClampNeg) 6 10) + 1)) K) : gE 94 0 [some (.ref 6), some (.int a), some (.int b), some (.int c)] [] σ K :=
  gw_run (cy := 94) (cuts := [17]) (inl := []) (pf := gpct) gpct_ok 400 (by decide) h
set_option maxRecDepth 20000 in
theorem c94_17 {σ : gS} {K : gK} {l1 l2 l3 : Int32} (h : (bLg σ 30) ∧ K none (cAdd σ (3 : Int32) (((10000 * l1) + (100 * l2)) + l3) (0 : Int32))) : gE 94 17 [some (.ref 6), some (.int l1), some (.int l2), some (.int l3)] [] σ K :=
  gw_run (cy := 94) (cuts := [17]) (inl := []) (pf := gpct) gpct_ok 400 (by decide) h
theorem s94 {σ : gS} {K : gK} {a b c : Int32} (hc : (isN σ 6 a ∧ isN σ 6 b ∧ isN σ 6 c) ∧ (a.toNatClampNeg ≠ b.toNatClampNeg ∧ b.toNatClampNeg ≠ c.toNatClampNeg ∧ a.toNatClampNeg ≠ c.toNatClampNeg) ∧ TC σ 6 ∧ bLg σ 30) (hK : K none (cDri σ a.toNatClampNeg b.toNatClampNeg c.toNatClampNeg)) : gE 94 0 [some (.ref 6), some (.int a), some (.int b), some (.int c)] [] σ K := by
  obtain ⟨⟨ha, hb, hcc⟩, hd, hT, hl⟩ := hc
  have ea := (t20 ha.1).1
  have eb := (t20 hb.1).1
  have ec := (t20 hcc.1).1
  have e30 := cPas_30 hT ha.2 hb.2 hcc.2 hd
  unfold cDri gad at hK
  rw [← ea, ← eb, ← ec] at hK
  refine w94 ⟨⟨ha.1, hb.1, hcc.1⟩, c94_17 ⟨?_, hK⟩⟩
  have e : ∀ j, gup (cPas σ 6 a.toNatClampNeg b.toNatClampNeg c.toNatClampNeg) 6 10 (cPas σ 6 a.toNatClampNeg b.toNatClampNeg c.toNatClampNeg 6 10 + 1) 30 j = σ 30 j := fun j => by rw [gup_ne (by omega)]; exact e30 j
  unfold bLg
  rw [e, e]
  exact hl
noncomputable def f94 : gD := fun Lv σ => match Lv with
  | [some (.ref q0), some (.int a), some (.int b), some (.int c)] => cond (Nat.beq q0 6) (some (some ((isN σ 6 a ∧ isN σ 6 b ∧ isN σ 6 c) ∧ (a.toNatClampNeg ≠ b.toNatClampNeg ∧ b.toNatClampNeg ≠ c.toNatClampNeg ∧ a.toNatClampNeg ≠ c.toNatClampNeg) ∧ TC σ 6 ∧ bLg σ 30), none, cDri σ a.toNatClampNeg b.toNatClampNeg c.toNatClampNeg)) none
  | _ => none
theorem ok94 : gFok 94 f94 := by
  intro Lv σ q h hc K hK
  unfold f94 at h
  split at h
  · rename_i q0 a b c
    obtain ⟨hb, h⟩ := c_no h
    have hb0 := hb
    have e0 := b_eq hb0
    subst e0
    cases h
    exact s94 (hc _ rfl) hK
  · cases h
set_option maxRecDepth 20000 in
theorem w149 {σ : gS} {K : gK} {a b : Int32} (h : (((bI (isT (cR σ 6) a)) = 0 → ((0 : Int32) = 0 ∨ (0 : Int32) = 1) ∧ K (some (.int 0)) σ) ∧ (¬ (bI (isT (cR σ 6) a)) = 0 → (((bI (isT (cR σ 6) b)) = 0 → ((0 : Int32) = 0 ∨ (0 : Int32) = 1) ∧ K (some (.int 0)) σ) ∧ (¬ (bI (isT (cR σ 6) b)) = 0 → ((a = b → ((0 : Int32) = 0 ∨ (0 : Int32) = 1) ∧ K (some (.int 0)) σ) ∧ (¬ a = b → ((1 : Int32) = 0 ∨ (1 : Int32) = 1) ∧ K (some (.int 1)) σ))))))) : gE 149 0 [some (.ref 0), some (.int a), some (.int b)] [] σ K :=
  gw_run (cy := 149) (cuts := []) (inl := []) (pf := gpct) gpct_ok 400 (by decide) h
theorem s149 {σ : gS} {K : gK} {a b : Int32} (hK : K (some (.int (bI (isP (cR σ 6) a b)))) σ) : gE 149 0 [some (.ref 0), some (.int a), some (.int b)] [] σ K := by
  refine w149 ?_
  simp only [bI_0]
  grind [bI]
noncomputable def f149 : gD := fun Lv σ => match Lv with
  | [some (.ref q0), some (.int a), some (.int b)] => cond (Nat.beq q0 0) (some (none, some (.int (bI (isP (cR σ 6) a b))), σ)) none
  | _ => none
theorem ok149 : gFok 149 f149 := by
  intro Lv σ q h hc K hK
  unfold f149 at h
  split at h
  · rename_i q0 a b
    obtain ⟨hb, h⟩ := c_no h
    have hb0 := hb
    have e0 := b_eq hb0
    subst e0
    cases h
    exact s149 hK
  · cases h
noncomputable def gpcu_l : List (Nat × gD) := (89, f89) :: (91, f91) :: (94, f94) :: (149, f149) :: gpct_l
noncomputable def gpcu : gP := gpl0 gpcu_l
theorem gpcu_ok : gPok gpcu := gpl0_cons ok89 (gpl0_cons ok91 (gpl0_cons ok94 (gpl0_cons ok149 (gpct_ok))))
end
section
-- text 35
/-! THE CLASS: its calls -/
theorem cRem_far {σ : gS} {q : Nat} (h : q < 113 ∨ 323 ≤ q) (h7 : 0 ≤ σ 6 7 ∧ σ 6 7 ≤ 20) : cRem σ q = σ q := by
  have n7 := (c20 h7).2
  have hm : ((σ 113 1).toNatClampNeg + (σ 113 2).toNatClampNeg) % 8 < 8 := Nat.mod_lt _ (by decide)
  funext j
  unfold cRem cPl
  split
  · rw [gup_ne (by omega), cCo_far (by omega) n7]
  · rw [gup_ne (by omega), cCo_far (by omega) n7]
/-- the class's main train is sound -/
abbrev SC (σ : gS) : Prop := TC σ 6 ∧ bPa σ ∧ bLg σ 30 ∧ (2 ≤ cR σ 6 0 ∧ cR σ 6 0 ≤ 10)
theorem SC_7 {σ : gS} (h : SC σ) : 0 ≤ σ 6 7 ∧ σ 6 7 ≤ 20 := by rw [← cR_3 σ 6]; exact h.1.1
theorem isN_of {σ : gS} {t : Int32} (h3 : 0 ≤ cR σ 6 3 ∧ cR σ 6 3 ≤ 20) (h : isT (cR σ 6) t) : isN σ 6 t := by
  have ht := isT_of h3 h
  refine ⟨ht, ?_⟩
  obtain ⟨e, l⟩ := t20 ht
  have h2 : t < cR σ 6 3 := by have := h.2; have := h3.1; have := h3.2; grind
  rw [e] at h2
  exact (nM_lt h3 (by omega)).mp h2
theorem isS_of {R : gW} {x : Int32} (h0 : 2 ≤ R 0 ∧ R 0 ≤ 10) (h : isS R x) : 0 ≤ x ∧ x < 40 := by
  obtain ⟨h1, h2⟩ := h
  refine ⟨h1, ?_⟩
  have := h0.1
  have := h0.2
  grind
theorem SC_rem {σ : gS} (h : SC σ) : cR (cRem σ) 6 = cR σ 6 ∧ TC (cRem σ) 6 ∧ bLg (cRem σ) 30 := by
  have h7 := SC_7 h
  have f : ∀ q, q < 113 → cRem σ q = σ q := fun q hq => cRem_far (Or.inl hq) h7
  have e : cR (cRem σ) 6 = cR σ 6 := cR_blk (fun q q1 q2 => f q (by omega))
  obtain ⟨⟨t1, t2, t3⟩, -, hl, -⟩ := h
  refine ⟨e, ⟨by rw [e]; exact t1, by rw [e]; exact t2, ?_⟩, ?_⟩
  · intro a ha g hg
    rw [f _ (by decide), e]
    exact t3 a ha g hg
  · unfold bLg
    rw [f _ (by decide)]
    exact hl
theorem rsw_cm (R : gW) (a b : Nat) : rsw R a b = rsw R b a := by
  funext j
  rw [rsw_eq, rsw_eq]
  grind
theorem fWhy_c {R : gW} {a b : Nat} {x : Int32} : fWhy R a b x = 0 ∨ 0 < fWhy R a b x := by
  unfold fWhy
  split
  · exact Or.inr (by decide)
  · split
    · exact Or.inr (by decide)
    · split
      · exact Or.inr (by decide)
      · split
        · exact Or.inr (by decide)
        · exact Or.inl rfl
theorem fWhyM_c {R : gW} {a : Nat} {x : Int32} : fWhyM R a x = 0 ∨ 0 < fWhyM R a x := by
  unfold fWhyM
  split
  · exact Or.inr (by decide)
  · split
    · exact Or.inr (by decide)
    · split
      · exact Or.inr (by decide)
      · exact Or.inl rfl
theorem fWhyR_c {R : gW} {a b c : Nat} : fWhyR R a b c = 0 ∨ 0 < fWhyR R a b c := by
  unfold fWhyR
  split
  · exact Or.inr (by decide)
  · split
    · exact Or.inr (by decide)
    · split
      · exact Or.inr (by decide)
      · split
        · exact Or.inr (by decide)
        · exact Or.inl rfl
set_option maxRecDepth 20000 in
theorem w115 {σ : gS} {K : gK} {a b x : Int32} (h : (((bI (isP (cR σ 6) a b)) = 0 → K (some (.int (-1))) σ) ∧ (¬ (bI (isP (cR σ 6) a b)) = 0 → ((¬ (bI ((0 : Int32) ≤ x ∧ x ≤ (9 : Int32))) = 0 → (isN σ 6 a ∧ isN σ 6 b ∧ TC σ 6) ∧ (((fWhy (cR σ 6) a.toNatClampNeg b.toNatClampNeg x) = 0 → (isN σ 6 a ∧ isN σ 6 b ∧ TC σ 6) ∧ (isN σ 6 b ∧ isN σ 6 a ∧ TC σ 6) ∧ (bPa σ ∧ (0 ≤ σ 6 7 ∧ σ 6 7 ≤ 20)) ∧ ((isN (cRem σ) 6 a ∧ isN (cRem σ) 6 b) ∧ TC (cRem σ) 6 ∧ bLg (cRem σ) 30) ∧ K (some (.int (((fRise (cR σ 6) a.toNatClampNeg b.toNatClampNeg a.toNatClampNeg) + (fRise (cR σ 6) b.toNatClampNeg a.toNatClampNeg b.toNatClampNeg)) + 100))) (cDsw (cRem σ) a.toNatClampNeg b.toNatClampNeg x)) ∧ (¬ (fWhy (cR σ 6) a.toNatClampNeg b.toNatClampNeg x) = 0 → K (some (.int (-10 - (fWhy (cR σ 6) a.toNatClampNeg b.toNatClampNeg x)))) σ))) ∧ ((bI ((0 : Int32) ≤ x ∧ x ≤ (9 : Int32))) = 0 → K (some (.int (-1))) σ))))) : gE 115 0 [some (.ref 0), some (.int a), some (.int b), some (.int x), none, none] [] σ K :=
  gw_run (cy := 115) (cuts := []) (inl := []) (pf := gpcu) gpcu_ok 400 (by decide) h
theorem s115 {σ : gS} {K : gK} {a b x : Int32} (hc : SC σ) (hK : K (some (.int (aSwa (cR σ 6) a b x))) (if gSwa (cR σ 6) a b x then cDsw (cRem σ) a.toNatClampNeg b.toNatClampNeg x else σ)) : gE 115 0 [some (.ref 0), some (.int a), some (.int b), some (.int x), none, none] [] σ K := by
  obtain ⟨eR, tR, lR⟩ := SC_rem hc
  have h7 := SC_7 hc
  obtain ⟨hT, hP, hL, h0⟩ := hc
  unfold aSwa at hK
  have hz := fWhy_c (R := cR σ 6) (a := a.toNatClampNeg) (b := b.toNatClampNeg) (x := x)
  refine w115 ?_
  simp only [bI_0]
  have no : ¬ (isP (cR σ 6) a b ∧ 0 ≤ x ∧ x ≤ 9) → K (some (.int (-1))) σ := by
    intro q
    rw [if_neg q, if_neg (fun e => q e.1)] at hK
    exact hK
  refine ⟨fun h => no (fun q => h q.1), fun h => ⟨fun h1 => ?_, fun h1 => no (fun q => h1 q.2)⟩⟩
  have h := Decidable.not_not.mp h
  have h1 := Decidable.not_not.mp h1
  have na := isN_of hT.1 h.1.1
  have nb := isN_of hT.1 h.1.2
  rw [if_pos ⟨h, h1⟩] at hK
  refine ⟨⟨na, nb, hT⟩, fun h2 => ⟨⟨na, nb, hT⟩, ⟨nb, na, hT⟩, ⟨hP, h7⟩, ⟨⟨⟨na.1, by rw [eR]; exact na.2⟩, ⟨nb.1, by rw [eR]; exact nb.2⟩⟩, tR, lR⟩, ?_⟩, fun h2 => ?_⟩
  · have n2 : ¬ 0 < fWhy (cR σ 6) a.toNatClampNeg b.toNatClampNeg x := by rw [h2]; decide
    rw [if_neg n2, if_pos (show gSwa (cR σ 6) a b x from ⟨⟨h, h1⟩, n2⟩)] at hK
    have e : fRise (cR σ 6) b.toNatClampNeg a.toNatClampNeg b.toNatClampNeg = fRise (cR σ 6) a.toNatClampNeg b.toNatClampNeg b.toNatClampNeg := by
      unfold fRise
      rw [rsw_cm]
    rw [e]
    exact hK
  · have n2 : 0 < fWhy (cR σ 6) a.toNatClampNeg b.toNatClampNeg x := hz.resolve_left h2
    rw [if_pos n2, if_neg (show ¬ gSwa (cR σ 6) a b x from fun q => q.2 n2)] at hK
    exact hK
noncomputable def f115 : gD := fun Lv σ => match Lv with
  | [some (.ref q0), some (.int a), some (.int b), some (.int x), none, none] => cond (Nat.beq q0 0) (some (some (SC σ), some (.int (aSwa (cR σ 6) a b x)), if gSwa (cR σ 6) a b x then cDsw (cRem σ) a.toNatClampNeg b.toNatClampNeg x else σ)) none
  | _ => none
theorem ok115 : gFok 115 f115 := by
  intro Lv σ q h hc K hK
  unfold f115 at h
  split at h
  · rename_i q0 a b x
    obtain ⟨hb, h⟩ := c_no h
    have hb0 := hb
    have e0 := b_eq hb0
    subst e0
    cases h
    exact s115 (hc _ rfl) hK
  · cases h
set_option maxRecDepth 20000 in
theorem w116 {σ : gS} {K : gK} {a x : Int32} (h : (((bI (isT (cR σ 6) a)) = 0 → K (some (.int (-1))) σ) ∧ (¬ (bI (isT (cR σ 6) a)) = 0 → ((¬ (bI (isS (cR σ 6) x)) = 0 → (isN σ 6 a ∧ (0 ≤ x ∧ x < 40) ∧ TC σ 6) ∧ (((fWhyM (cR σ 6) a.toNatClampNeg x) = 0 → (((0 ≤ a ∧ a < 20) ∧ a.toNatClampNeg < nM (cR σ 6)) ∧ (0 ≤ x ∧ x < 40) ∧ TC σ 6) ∧ (((0 ≤ a ∧ a < 20) ∧ a.toNatClampNeg < nM (cR σ 6)) ∧ TC σ 6) ∧ (bPa σ ∧ (0 ≤ σ 6 7 ∧ σ 6 7 ≤ 20)) ∧ (isN (cRem σ) 6 a ∧ (0 ≤ x ∧ x < 40) ∧ TC (cRem σ) 6 ∧ bLg (cRem σ) 30) ∧ K (some (.int ((fJoy (cR σ 6) a.toNatClampNeg x) - (fJo (cR σ 6) a.toNatClampNeg)))) (cDmo (cRem σ) a.toNatClampNeg x)) ∧ (¬ (fWhyM (cR σ 6) a.toNatClampNeg x) = 0 → K (some (.int (-10 - (fWhyM (cR σ 6) a.toNatClampNeg x)))) σ))) ∧ ((bI (isS (cR σ 6) x)) = 0 → K (some (.int (-1))) σ))))) : gE 116 0 [some (.ref 0), some (.int a), some (.int x), none, none] [] σ K :=
  gw_run (cy := 116) (cuts := []) (inl := []) (pf := gpcu) gpcu_ok 400 (by decide) h
theorem s116 {σ : gS} {K : gK} {a x : Int32} (hc : SC σ) (hK : K (some (.int (aMov (cR σ 6) a x))) (if gMov (cR σ 6) a x then cDmo (cRem σ) a.toNatClampNeg x else σ)) : gE 116 0 [some (.ref 0), some (.int a), some (.int x), none, none] [] σ K := by
  obtain ⟨eR, tR, lR⟩ := SC_rem hc
  have h7 := SC_7 hc
  obtain ⟨hT, hP, hL, h0⟩ := hc
  unfold aMov at hK
  have hz := fWhyM_c (R := cR σ 6) (a := a.toNatClampNeg) (x := x)
  refine w116 ?_
  simp only [bI_0]
  have no : ¬ (isT (cR σ 6) a ∧ isS (cR σ 6) x) → K (some (.int (-1))) σ := by
    intro q
    rw [if_neg q, if_neg (fun e => q e.1)] at hK
    exact hK
  refine ⟨fun h => no (fun q => h q.1), fun h => ⟨fun h1 => ?_, fun h1 => no (fun q => h1 q.2)⟩⟩
  have h := Decidable.not_not.mp h
  have h1 := Decidable.not_not.mp h1
  have na := isN_of hT.1 h
  have nx := isS_of h0 h1
  rw [if_pos ⟨h, h1⟩] at hK
  refine ⟨⟨na, nx, hT⟩, fun h2 => ⟨⟨na, nx, hT⟩, ⟨na, hT⟩, ⟨hP, h7⟩, ⟨⟨na.1, by rw [eR]; exact na.2⟩, nx, tR, lR⟩, ?_⟩, fun h2 => ?_⟩
  · have n2 : ¬ 0 < fWhyM (cR σ 6) a.toNatClampNeg x := by rw [h2]; decide
    rw [if_neg n2, if_pos (show gMov (cR σ 6) a x from ⟨⟨h, h1⟩, n2⟩)] at hK
    exact hK
  · have n2 : 0 < fWhyM (cR σ 6) a.toNatClampNeg x := hz.resolve_left h2
    rw [if_pos n2, if_neg (show ¬ gMov (cR σ 6) a x from fun q => q.2 n2)] at hK
    exact hK
noncomputable def f116 : gD := fun Lv σ => match Lv with
  | [some (.ref q0), some (.int a), some (.int x), none, none] => cond (Nat.beq q0 0) (some (some (SC σ), some (.int (aMov (cR σ 6) a x)), if gMov (cR σ 6) a x then cDmo (cRem σ) a.toNatClampNeg x else σ)) none
  | _ => none
theorem ok116 : gFok 116 f116 := by
  intro Lv σ q h hc K hK
  unfold f116 at h
  split at h
  · rename_i q0 a x
    obtain ⟨hb, h⟩ := c_no h
    have hb0 := hb
    have e0 := b_eq hb0
    subst e0
    cases h
    exact s116 (hc _ rfl) hK
  · cases h
set_option maxRecDepth 20000 in
theorem w114 {σ : gS} {K : gK} {f : Int32} (h : ((¬ (bI ((0 : Int32) ≤ f ∧ f ≤ (σ 6 4))) = 0 → ((¬ f = (σ 6 5) → (0 ≤ σ 6 7 ∧ σ 6 7 ≤ 20 ∧ bT (cR σ 6)) ∧ ((¬ 0 < (fBar (cR σ 6) f) → (bPa σ ∧ (0 ≤ σ 6 7 ∧ σ 6 7 ≤ 20)) ∧ (bLg (gup (cRem σ) 6 5 f) 30) ∧ K (some (.int (σ 6 5))) (cAdd (gup (cRem σ) 6 5 f) (7 : Int32) (0 : Int32) (σ 6 5))) ∧ (0 < (fBar (cR σ 6) f) → K (some (.int (-4))) σ))) ∧ (f = (σ 6 5) → K (some (.int (-2))) σ))) ∧ ((bI ((0 : Int32) ≤ f ∧ f ≤ (σ 6 4))) = 0 → K (some (.int (-1))) σ))) : gE 114 0 [some (.ref 0), some (.int f), none] [] σ K :=
  gw_run (cy := 114) (cuts := []) (inl := []) (pf := gpcu) gpcu_ok 400 (by decide) h
theorem s114 {σ : gS} {K : gK} {f : Int32} (hc : SC σ) (hK : K (some (.int (aFir (cR σ 6) f))) (if gFir (cR σ 6) f then cAdd (gup (cRem σ) 6 5 f) 7 0 (σ 6 5) else σ)) : gE 114 0 [some (.ref 0), some (.int f), none] [] σ K := by
  obtain ⟨eR, tR, lR⟩ := SC_rem hc
  have h7 := SC_7 hc
  obtain ⟨hT, hP, hL, h0⟩ := hc
  have hb := hT.2.1
  have hl : bLg (gup (cRem σ) 6 5 f) 30 := by
    unfold bLg
    rw [gup_ne (by omega), gup_ne (by omega)]
    exact lR
  unfold aFir gFir at hK
  rw [cR_0, cR_1] at hK
  refine w114 ?_
  simp only [bI_0]
  grind
noncomputable def f114 : gD := fun Lv σ => match Lv with
  | [some (.ref q0), some (.int f), none] => cond (Nat.beq q0 0) (some (some (SC σ), some (.int (aFir (cR σ 6) f)), if gFir (cR σ 6) f then cAdd (gup (cRem σ) 6 5 f) 7 0 (σ 6 5) else σ)) none
  | _ => none
theorem ok114 : gFok 114 f114 := by
  intro Lv σ q h hc K hK
  unfold f114 at h
  split at h
  · rename_i q0 f
    obtain ⟨hb, h⟩ := c_no h
    have hb0 := hb
    have e0 := b_eq hb0
    subst e0
    cases h
    exact s114 (hc _ rfl) hK
  · cases h
noncomputable def gpcv_l : List (Nat × gD) := (115, f115) :: (116, f116) :: (114, f114) :: gpcu_l
noncomputable def gpcv : gP := gpl0 gpcv_l
theorem gpcv_ok : gPok gpcv := gpl0_cons ok115 (gpl0_cons ok116 (gpl0_cons ok114 (gpcu_ok)))
-- text 36
/-! THE CLASS: its calls, ring, set -/
/-- bounds of what a joy is made of -/
abbrev bF (R : gW) : Prop := ∀ t, t < nM R → ((-9 ≤ fld R t 3 ∧ fld R t 3 ≤ 9) ∧ (-9 ≤ fld R t 4 ∧ fld R t 4 ≤ 9) ∧ (0 ≤ fld R t 5 ∧ fld R t 5 ≤ 9) ∧ (0 ≤ fld R t 6 ∧ fld R t 6 ≤ 3))
theorem i4 {x : Int32} (h : 0 ≤ x ∧ x < 40) : 0 ≤ x / 4 ∧ x / 4 ≤ 9 := by
  obtain ⟨e, l⟩ := iN_of h.1
  have l2 : x.toNatClampNeg < 40 := by
    have h2 := h.2
    rw [e] at h2
    exact (iN_lt (m := 40) l (by decide)).mp h2
  rw [e, show (4 : Int32) = iN 4 from rfl, iN_div (by omega) (by decide)]
  exact ⟨(iN_le (k := 0) (by decide) (by omega)).mpr (by omega), (iN_le (m := 9) (by omega) (by decide)).mpr (by omega)⟩
theorem kin_b {R : gW} (h : 0 ≤ R 3 ∧ R 3 ≤ 20) (t : Nat) (b : Int32) : 0 ≤ kin R t b ∧ kin R t b ≤ 20 := by
  have hn := (nM_of h).2
  have hc := cnt_le (kinP R t b) (nM R)
  unfold kin
  exact ⟨(iN_le (k := 0) (by decide) (by omega)).mpr (by omega), (iN_le (m := 20) (by omega) (by decide)).mpr (by omega)⟩
theorem joy_ar {k w a r p y : Int32} {A B : Prop} [Decidable A] [Decidable B] (k1 : 0 ≤ k) (k2 : k ≤ 20) (w1 : -9 ≤ w) (w2 : w ≤ 9) (a1 : -9 ≤ a) (a2 : a ≤ 9) (r1 : 0 ≤ r) (r2 : r ≤ 9) (p1 : 0 ≤ p) (p2 : p ≤ 3) (x1 : 0 ≤ y) (x2 : y ≤ 9) : -100 ≤ 4 * k + (if A then w else 0) + (if B then a else 0) - p * (if y - r < 0 then -(y - r) else y - r) ∧ 4 * k + (if A then w else 0) + (if B then a else 0) - p * (if y - r < 0 then -(y - r) else y - r) ≤ 100 := by
  have hp : p = 0 ∨ p = 1 ∨ p = 2 ∨ p = 3 := by grind
  obtain ⟨d, hd, d1, d2⟩ : ∃ d, (if y - r < 0 then -(y - r) else y - r) = d ∧ 0 ≤ d ∧ d ≤ 9 := by
    refine ⟨_, rfl, ?_, ?_⟩ <;> grind
  obtain ⟨u, hu, u1, u2⟩ : ∃ u, (if A then w else 0) = u ∧ -9 ≤ u ∧ u ≤ 9 := by
    refine ⟨_, rfl, ?_, ?_⟩ <;> grind
  obtain ⟨v, hv, v1, v2⟩ : ∃ v, (if B then a else 0) = v ∧ -9 ≤ v ∧ v ≤ 9 := by
    refine ⟨_, rfl, ?_, ?_⟩ <;> grind
  rw [hd, hu, hv]
  rcases hp with h | h | h | h <;> rw [h] <;> grind
theorem fJoy_b {R : gW} {t : Nat} {x : Int32} (h : 0 ≤ R 3 ∧ R 3 ≤ 20) (hb : bF R) (ht : t < nM R) (hx : 0 ≤ x ∧ x < 40) : -100 ≤ fJoy R t x ∧ fJoy R t x ≤ 100 := by
  have q := hb t ht
  have k := kin_b h t (x / 8)
  have y := i4 hx
  exact joy_ar k.1 k.2 q.1.1 q.1.2 q.2.1.1 q.2.1.2 q.2.2.1.1 q.2.2.1.2 q.2.2.2.1 q.2.2.2.2 y.1 y.2
theorem fJo_b {R : gW} {t : Nat} (h : 0 ≤ R 3 ∧ R 3 ≤ 20) (hT : bT R) (hb : bF R) (ht : t < nM R) : -100 ≤ fJo R t ∧ fJo R t ≤ 100 := fJoy_b h hb ht (hT t ht).2.1
theorem lt_sub {a b : Int32} (ha : -100 ≤ a ∧ a ≤ 100) (hb : -100 ≤ b ∧ b ≤ 100) : a < b ↔ a - b < 0 := by grind
theorem bF_rtu {R : gW} {a b c : Nat} (hd : a ≠ b ∧ b ≠ c ∧ a ≠ c) (h : bF R) : bF (rtu R a b c) := by
  intro t ht
  rw [nM_rtu hd] at ht
  rw [fld_rtu hd _ _ (by decide), fld_rtu hd _ _ (by decide), fld_rtu hd _ _ (by decide), fld_rtu hd _ _ (by decide), if_neg (by decide), if_neg (by decide), if_neg (by decide), if_neg (by decide)]
  exact h t ht
theorem bF_rsw {R : gW} {a b : Nat} (h : bF R) : bF (rsw R a b) := by
  intro t ht
  rw [nM_rsw] at ht
  rw [fld_rsw _ _ _ _ _ (by decide), fld_rsw _ _ _ _ _ (by decide), fld_rsw _ _ _ _ _ (by decide), fld_rsw _ _ _ _ _ (by decide), if_neg (by decide), if_neg (by decide), if_neg (by decide), if_neg (by decide)]
  exact h t ht
set_option maxRecDepth 20000 in
theorem w92 {σ : gS} {K : gK} {a b c : Int32} (h : (0 ≤ b ∧ b < 20) ∧ gTv (6 + 2 + b.toNatClampNeg) ∧ (0 ≤ a ∧ a < 20) ∧ (((bI (fMay (cR σ 6) a.toNatClampNeg (σ (6 + 2 + b.toNatClampNeg) 1))) = 0 → K (some (.int 1)) σ) ∧ (¬ (bI (fMay (cR σ 6) a.toNatClampNeg (σ (6 + 2 + b.toNatClampNeg) 1))) = 0 → (0 ≤ c ∧ c < 20) ∧ gTv (6 + 2 + c.toNatClampNeg) ∧ (0 ≤ b ∧ b < 20) ∧ (((bI (fMay (cR σ 6) b.toNatClampNeg (σ (6 + 2 + c.toNatClampNeg) 1))) = 0 → K (some (.int 1)) σ) ∧ (¬ (bI (fMay (cR σ 6) b.toNatClampNeg (σ (6 + 2 + c.toNatClampNeg) 1))) = 0 → (0 ≤ a ∧ a < 20) ∧ gTv (6 + 2 + a.toNatClampNeg) ∧ (0 ≤ c ∧ c < 20) ∧ ((¬ (bI (fMay (cR σ 6) c.toNatClampNeg (σ (6 + 2 + a.toNatClampNeg) 1))) = 0 → gE 92 50 [some (.ref 6), some (.int a), some (.int b), some (.int c), none, none, none, none] [] σ K) ∧ ((bI (fMay (cR σ 6) c.toNatClampNeg (σ (6 + 2 + a.toNatClampNeg) 1))) = 0 → K (some (.int 1)) σ))))))) : gE 92 0 [some (.ref 6), some (.int a), some (.int b), some (.int c), none, none, none, none] [] σ K :=
  gw_run (cy := 92) (cuts := [50, 78, 113]) (inl := []) (pf := gpcv) gpcv_ok 400 (by decide) h
set_option maxRecDepth 20000 in
theorem c92_50 {σ : gS} {K : gK} {l1 l2 l3 : Int32} (h : (((0 ≤ l1 ∧ l1 < 20) ∧ l1.toNatClampNeg < nM (cR σ 6)) ∧ TC σ 6) ∧ (((0 ≤ l2 ∧ l2 < 20) ∧ l2.toNatClampNeg < nM (cR σ 6)) ∧ TC σ 6) ∧ (((0 ≤ l3 ∧ l3 < 20) ∧ l3.toNatClampNeg < nM (cR σ 6)) ∧ TC σ 6) ∧ ((0 ≤ l1 ∧ l1 < 20) ∧ (0 ≤ l2 ∧ l2 < 20) ∧ (0 ≤ l3 ∧ l3 < 20)) ∧ gE 92 78 [some (.ref 6), some (.int l1), some (.int l2), some (.int l3), some (.int (fJo (cR σ 6) l1.toNatClampNeg)), some (.int (fJo (cR σ 6) l2.toNatClampNeg)), some (.int (fJo (cR σ 6) l3.toNatClampNeg)), none] [] (cPas σ 6 l1.toNatClampNeg l2.toNatClampNeg l3.toNatClampNeg) K) : gE 92 50 [some (.ref 6), some (.int l1), some (.int l2), some (.int l3), none, none, none, none] [] σ K :=
  gw_run (cy := 92) (cuts := [50, 78, 113]) (inl := []) (pf := gpcv) gpcv_ok 400 (by decide) h
set_option maxRecDepth 20000 in
theorem c92_78 {σ : gS} {K : gK} {l1 l2 l3 l4 l5 l6 : Int32} (h : (((0 ≤ l1 ∧ l1 < 20) ∧ l1.toNatClampNeg < nM (cR σ 6)) ∧ TC σ 6) ∧ (((fJo (cR σ 6) l1.toNatClampNeg) < l4 → gE 92 113 [some (.ref 6), some (.int l1), some (.int l2), some (.int l3), some (.int l4), some (.int l5), some (.int l6), none] [.int 1] σ K) ∧ (¬ (fJo (cR σ 6) l1.toNatClampNeg) < l4 → (((0 ≤ l2 ∧ l2 < 20) ∧ l2.toNatClampNeg < nM (cR σ 6)) ∧ TC σ 6) ∧ (((fJo (cR σ 6) l2.toNatClampNeg) < l5 → gE 92 113 [some (.ref 6), some (.int l1), some (.int l2), some (.int l3), some (.int l4), some (.int l5), some (.int l6), none] [.int 1] σ K) ∧ (¬ (fJo (cR σ 6) l2.toNatClampNeg) < l5 → (((0 ≤ l3 ∧ l3 < 20) ∧ l3.toNatClampNeg < nM (cR σ 6)) ∧ TC σ 6) ∧ ((¬ (fJo (cR σ 6) l3.toNatClampNeg) < l6 → gE 92 113 [some (.ref 6), some (.int l1), some (.int l2), some (.int l3), some (.int l4), some (.int l5), some (.int l6), none] [.int 0] σ K) ∧ ((fJo (cR σ 6) l3.toNatClampNeg) < l6 → gE 92 113 [some (.ref 6), some (.int l1), some (.int l2), some (.int l3), some (.int l4), some (.int l5), some (.int l6), none] [.int 1] σ K))))))) : gE 92 78 [some (.ref 6), some (.int l1), some (.int l2), some (.int l3), some (.int l4), some (.int l5), some (.int l6), none] [] σ K :=
  gw_run (cy := 92) (cuts := [50, 78, 113]) (inl := []) (pf := gpcv) gpcv_ok 400 (by decide) h
set_option maxRecDepth 20000 in
theorem c92_113 {σ : gS} {K : gK} {l1 l2 l3 l4 l5 l6 k0 : Int32} (h : ((0 ≤ l3 ∧ l3 < 20) ∧ (0 ≤ l2 ∧ l2 < 20) ∧ (0 ≤ l1 ∧ l1 < 20)) ∧ ((k0 = 0 → K (some (.int 0)) (cPas σ 6 l3.toNatClampNeg l2.toNatClampNeg l1.toNatClampNeg)) ∧ (¬ k0 = 0 → K (some (.int 6)) (cPas σ 6 l3.toNatClampNeg l2.toNatClampNeg l1.toNatClampNeg)))) : gE 92 113 [some (.ref 6), some (.int l1), some (.int l2), some (.int l3), some (.int l4), some (.int l5), some (.int l6), none] [.int k0] σ K :=
  gw_run (cy := 92) (cuts := [50, 78, 113]) (inl := []) (pf := gpcv) gpcv_ok 400 (by decide) h
theorem s92 {σ : gS} {K : gK} {a b c : Int32} (hc : (isN σ 6 a ∧ isN σ 6 b ∧ isN σ 6 c) ∧ (a.toNatClampNeg ≠ b.toNatClampNeg ∧ b.toNatClampNeg ≠ c.toNatClampNeg ∧ a.toNatClampNeg ≠ c.toNatClampNeg) ∧ TC σ 6 ∧ bF (cR σ 6)) (hK : K (some (.int (fWhyR (cR σ 6) a.toNatClampNeg b.toNatClampNeg c.toNatClampNeg))) σ) : gE 92 0 [some (.ref 6), some (.int a), some (.int b), some (.int c), none, none, none, none] [] σ K := by
  obtain ⟨⟨ha, hb, hcc⟩, hd, hT, hF⟩ := hc
  obtain ⟨r1, t1, f1⟩ := cPas_ok hT ha.2 hb.2 hcc.2 hd
  obtain ⟨τ, hτ⟩ : ∃ τ, cPas σ 6 a.toNatClampNeg b.toNatClampNeg c.toNatClampNeg = τ := ⟨_, rfl⟩
  have hbk := cPas_bk hT ha.2 hb.2 hcc.2 hd
  rw [hτ] at r1 t1 hbk
  have c1 : isN τ 6 a := ⟨ha.1, by rw [r1, nM_rtu hd]; exact ha.2⟩
  have c2 : isN τ 6 b := ⟨hb.1, by rw [r1, nM_rtu hd]; exact hb.2⟩
  have c3 : isN τ 6 c := ⟨hcc.1, by rw [r1, nM_rtu hd]; exact hcc.2⟩
  have tva := tv_6 _ (n20 ha.1)
  have tvb := tv_6 _ (n20 hb.1)
  have tvc := tv_6 _ (n20 hcc.1)
  have ea := cR_f (σ := σ) (p := 6) (t := a.toNatClampNeg) (f := 0) (n20 ha.1) (by decide)
  have eb := cR_f (σ := σ) (p := 6) (t := b.toNatClampNeg) (f := 0) (n20 hb.1) (by decide)
  have ec := cR_f (σ := σ) (p := 6) (t := c.toNatClampNeg) (f := 0) (n20 hcc.1) (by decide)
  have hF2 : bF (cR τ 6) := by rw [r1]; exact bF_rtu hd hF
  have ba := lt_sub (fJo_b t1.1 t1.2.1 hF2 c1.2) (fJo_b hT.1 hT.2.1 hF ha.2)
  have bb := lt_sub (fJo_b t1.1 t1.2.1 hF2 c2.2) (fJo_b hT.1 hT.2.1 hF hb.2)
  have bc := lt_sub (fJo_b t1.1 t1.2.1 hF2 c3.2) (fJo_b hT.1 hT.2.1 hF hcc.2)
  have e3 : fWhyR (cR σ 6) a.toNatClampNeg b.toNatClampNeg c.toNatClampNeg = if ¬ fMay (cR σ 6) a.toNatClampNeg (σ (6 + 2 + b.toNatClampNeg) 1) ∨ ¬ fMay (cR σ 6) b.toNatClampNeg (σ (6 + 2 + c.toNatClampNeg) 1) ∨ ¬ fMay (cR σ 6) c.toNatClampNeg (σ (6 + 2 + a.toNatClampNeg) 1) then 1 else if fJo (cR τ 6) a.toNatClampNeg - fJo (cR σ 6) a.toNatClampNeg < 0 then 6 else if fJo (cR τ 6) b.toNatClampNeg - fJo (cR σ 6) b.toNatClampNeg < 0 then 6 else if fJo (cR τ 6) c.toNatClampNeg - fJo (cR σ 6) c.toNatClampNeg < 0 then 6 else 0 := by
    unfold fWhyR fRR
    rw [ea, eb, ec, r1]
  rw [e3] at hK
  have na := ha.1
  have nb := hb.1
  have nc := hcc.1
  have back : ∀ k0 l4 l5 l6 : Int32, (k0 = 0 → K (some (.int 0)) σ) → (¬ k0 = 0 → K (some (.int 6)) σ) → gE 92 113 [some (.ref 6), some (.int a), some (.int b), some (.int c), some (.int l4), some (.int l5), some (.int l6), none] [.int k0] τ K := by
    intro k0 l4 l5 l6 q1 q2
    refine c92_113 ⟨⟨nc, nb, na⟩, ?_⟩
    rw [hbk]
    exact ⟨q1, q2⟩
  have main : (fMay (cR σ 6) a.toNatClampNeg (σ (6 + 2 + b.toNatClampNeg) 1) ∧ fMay (cR σ 6) b.toNatClampNeg (σ (6 + 2 + c.toNatClampNeg) 1) ∧ fMay (cR σ 6) c.toNatClampNeg (σ (6 + 2 + a.toNatClampNeg) 1)) → gE 92 50 [some (.ref 6), some (.int a), some (.int b), some (.int c), none, none, none, none] [] σ K := by
    intro q
    rw [if_neg (by intro e; rcases e with e | e | e; exact e q.1; exact e q.2.1; exact e q.2.2)] at hK
    refine c92_50 ⟨⟨ha, hT⟩, ⟨hb, hT⟩, ⟨hcc, hT⟩, ⟨na, nb, nc⟩, ?_⟩
    rw [hτ]
    refine c92_78 ⟨⟨c1, t1⟩, fun h => back _ _ _ _ (fun e => absurd e (by decide)) (fun _ => ?_), fun h => ⟨⟨c2, t1⟩, fun h2 => back _ _ _ _ (fun e => absurd e (by decide)) (fun _ => ?_), fun h2 => ⟨⟨c3, t1⟩, fun h3 => back _ _ _ _ (fun _ => ?_) (fun e => absurd rfl e), fun h3 => back _ _ _ _ (fun e => absurd e (by decide)) (fun _ => ?_)⟩⟩⟩
    · rw [if_pos (ba.mp h)] at hK; exact hK
    · rw [if_neg (fun e => h (ba.mpr e)), if_pos (bb.mp h2)] at hK; exact hK
    · rw [if_neg (fun e => h (ba.mpr e)), if_neg (fun e => h2 (bb.mpr e)), if_neg (fun e => h3 (bc.mpr e))] at hK; exact hK
    · rw [if_neg (fun e => h (ba.mpr e)), if_neg (fun e => h2 (bb.mpr e)), if_pos (bc.mp h3)] at hK; exact hK
  refine w92 ?_
  simp only [bI_0]
  grind
noncomputable def f92 : gD := fun Lv σ => match Lv with
  | [some (.ref q0), some (.int a), some (.int b), some (.int c), none, none, none, none] => cond (Nat.beq q0 6) (some (some ((isN σ 6 a ∧ isN σ 6 b ∧ isN σ 6 c) ∧ (a.toNatClampNeg ≠ b.toNatClampNeg ∧ b.toNatClampNeg ≠ c.toNatClampNeg ∧ a.toNatClampNeg ≠ c.toNatClampNeg) ∧ TC σ 6 ∧ bF (cR σ 6)), some (.int (fWhyR (cR σ 6) a.toNatClampNeg b.toNatClampNeg c.toNatClampNeg)), σ)) none
  | _ => none
theorem ok92 : gFok 92 f92 := by
  intro Lv σ q h hc K hK
  unfold f92 at h
  split at h
  · rename_i q0 a b c
    obtain ⟨hb, h⟩ := c_no h
    have hb0 := hb
    have e0 := b_eq hb0
    subst e0
    cases h
    exact s92 (hc _ rfl) hK
  · cases h
set_option maxRecDepth 20000 in
theorem w54 {σ : gS} {K : gK} {w n : Int32} (h : ((0 : Int) + 5 = 4 + 1 ∧ ((w = 0 → ((bI (((-9) : Int32) ≤ n ∧ n ≤ (9 : Int32))) = 0 ∨ (bI (((-9) : Int32) ≤ n ∧ n ≤ (9 : Int32))) = 1) ∧ K (some (.int (bI (((-9) : Int32) ≤ n ∧ n ≤ (9 : Int32))))) σ) ∧ (¬ w = 0 → ((w = 1 → ((bI (((-9) : Int32) ≤ n ∧ n ≤ (9 : Int32))) = 0 ∨ (bI (((-9) : Int32) ≤ n ∧ n ≤ (9 : Int32))) = 1) ∧ K (some (.int (bI (((-9) : Int32) ≤ n ∧ n ≤ (9 : Int32))))) σ) ∧ (¬ w = 1 → ((w = 2 → ((bI ((0 : Int32) ≤ n ∧ n ≤ ((σ 6 4) - 1))) = 0 ∨ (bI ((0 : Int32) ≤ n ∧ n ≤ ((σ 6 4) - 1))) = 1) ∧ K (some (.int (bI ((0 : Int32) ≤ n ∧ n ≤ ((σ 6 4) - 1))))) σ) ∧ (¬ w = 2 → ((w = 3 → ((bI ((0 : Int32) ≤ n ∧ n ≤ (3 : Int32))) = 0 ∨ (bI ((0 : Int32) ≤ n ∧ n ≤ (3 : Int32))) = 1) ∧ K (some (.int (bI ((0 : Int32) ≤ n ∧ n ≤ (3 : Int32))))) σ) ∧ (¬ w = 3 → ((w = 4 → ((bI ((0 : Int32) ≤ n ∧ n ≤ (1 : Int32))) = 0 ∨ (bI ((0 : Int32) ≤ n ∧ n ≤ (1 : Int32))) = 1) ∧ K (some (.int (bI ((0 : Int32) ≤ n ∧ n ≤ (1 : Int32))))) σ) ∧ (¬ w = 4 → ((0 : Int32) = 0 ∨ (0 : Int32) = 1) ∧ K (some (.int 0)) σ)))))))))))) : gE 54 0 [some (.ref 6), some (.int w), some (.int n)] [] σ K :=
  gw_run (cy := 54) (cuts := []) (inl := []) (pf := gpcv) gpcv_ok 400 (by decide) h
theorem s54 {σ : gS} {K : gK} {w n : Int32} (hK : K (some (.int (bI (inR (cR σ 6) w n)))) σ) : gE 54 0 [some (.ref 6), some (.int w), some (.int n)] [] σ K := by
  have h01 : ∀ (p : Prop) [Decidable p], bI p = 0 ∨ bI p = 1 := fun p _ => bI_01
  have key : ∀ (p : Prop) [Decidable p], (p ↔ inR (cR σ 6) w n) → K (some (.int (bI p))) σ := by
    intro p _ h
    have e : bI p = bI (inR (cR σ 6) w n) := by
      by_cases q : p
      · rw [bI_t q, bI_t (h.mp q)]
      · rw [bI_f q, bI_f (fun e => q (h.mpr e))]
    rw [e]; exact hK
  have e4 := cR_0 σ 6
  refine w54 ⟨by decide, fun h => ⟨h01 _, key _ ?_⟩, fun h0 => ⟨fun h => ⟨h01 _, key _ ?_⟩, fun h1 => ⟨fun h => ⟨h01 _, key _ ?_⟩, fun h2 => ⟨fun h => ⟨h01 _, key _ ?_⟩, fun h3 => ⟨fun h => ⟨h01 _, key _ ?_⟩, fun h4 => ⟨by decide, ?_⟩⟩⟩⟩⟩⟩
  · subst h; exact ⟨fun q => Or.inl ⟨Or.inl rfl, q⟩, fun q => by rcases q with q | q | q | q <;> first | exact q.2 | exact absurd q.1 (by decide)⟩
  · subst h; exact ⟨fun q => Or.inl ⟨Or.inr rfl, q⟩, fun q => by rcases q with q | q | q | q <;> first | exact q.2 | exact absurd q.1 (by decide)⟩
  · subst h; rw [← e4]; exact ⟨fun q => Or.inr (Or.inl ⟨rfl, q⟩), fun q => by rcases q with q | q | q | q <;> first | exact absurd q.1 (by decide) | exact q.2⟩
  · subst h; exact ⟨fun q => Or.inr (Or.inr (Or.inl ⟨rfl, q⟩)), fun q => by rcases q with q | q | q | q <;> first | exact absurd q.1 (by decide) | exact q.2⟩
  · subst h; exact ⟨fun q => Or.inr (Or.inr (Or.inr ⟨rfl, q⟩)), fun q => by rcases q with q | q | q | q <;> first | exact absurd q.1 (by decide) | exact q.2⟩
  · have e : bI (inR (cR σ 6) w n) = 0 := bI_f (fun q => by rcases q with q | q | q | q <;> first | exact h4 q.1 | exact h3 q.1 | exact h2 q.1 | exact q.1.elim h0 h1)
    rw [e] at hK; exact hK
noncomputable def f54 : gD := fun Lv σ => match Lv with
  | [some (.ref q0), some (.int w), some (.int n)] => cond (Nat.beq q0 6) (some (none, some (.int (bI (inR (cR σ 6) w n))), σ)) none
  | _ => none
theorem ok54 : gFok 54 f54 := by
  intro Lv σ q h hc K hK
  unfold f54 at h
  split at h
  · rename_i q0 w n
    obtain ⟨hb, h⟩ := c_no h
    have hb0 := hb
    have e0 := b_eq hb0
    subst e0
    cases h
    exact s54 hK
  · cases h
set_option maxRecDepth 20000 in
theorem w104 {σ : gS} {K : gK} {w : Int32} {a : Nat} (h : ((0 : Int) + 4 = 3 + 1 ∧ ((w = 0 → gTv a ∧ K (some (.int (σ a 4))) σ) ∧ (¬ w = 0 → ((w = 1 → gTv a ∧ K (some (.int (σ a 5))) σ) ∧ (¬ w = 1 → ((w = 2 → gTv a ∧ K (some (.int (σ a 6))) σ) ∧ (¬ w = 2 → ((w = 3 → gTv a ∧ K (some (.int (σ a 7))) σ) ∧ (¬ w = 3 → gTv a ∧ K (some (.int (σ a 2))) σ)))))))))) : gE 104 0 [some (.ref a), some (.int w)] [] σ K :=
  gw_run (cy := 104) (cuts := []) (inl := []) (pf := gpcv) gpcv_ok 400 (by decide) h
theorem s104 {σ : gS} {K : gK} {a : Nat} {w : Int32} (hc : gTv a ∧ (w = 0 ∨ w = 1 ∨ w = 2 ∨ w = 3 ∨ w = 4)) (hK : K (some (.int (σ a (fof w + 1)))) σ) : gE 104 0 [some (.ref a), some (.int w)] [] σ K := by
  obtain ⟨ha, hw⟩ := hc
  refine w104 ?_
  rcases hw with rfl | rfl | rfl | rfl | rfl <;> simp (decide := true) <;> exact ⟨ha, hK⟩
noncomputable def f104 : gD := fun Lv σ => match Lv with
  | [some (.ref a), some (.int w)] => some (some (gTv a ∧ (w = 0 ∨ w = 1 ∨ w = 2 ∨ w = 3 ∨ w = 4)), some (.int (σ a (fof w + 1))), σ)
  | _ => none
theorem ok104 : gFok 104 f104 := by
  intro Lv σ q h hc K hK
  unfold f104 at h
  split at h
  · rename_i a w
    cases h
    exact s104 (hc _ rfl) hK
  · cases h
set_option maxRecDepth 20000 in
theorem w105 {σ : gS} {K : gK} {w v : Int32} {a : Nat} (h : ((0 : Int) + 4 = 3 + 1 ∧ ((w = 0 → gTv a ∧ K none (gup σ a 4 v)) ∧ (¬ w = 0 → ((w = 1 → gTv a ∧ K none (gup σ a 5 v)) ∧ (¬ w = 1 → ((w = 2 → gTv a ∧ K none (gup σ a 6 v)) ∧ (¬ w = 2 → ((w = 3 → gTv a ∧ K none (gup σ a 7 v)) ∧ (¬ w = 3 → gTv a ∧ K none (gup σ a 2 v))))))))))) : gE 105 0 [some (.ref a), some (.int w), some (.int v)] [] σ K :=
  gw_run (cy := 105) (cuts := []) (inl := []) (pf := gpcv) gpcv_ok 400 (by decide) h
theorem s105 {σ : gS} {K : gK} {a : Nat} {w v : Int32} (hc : gTv a ∧ (w = 0 ∨ w = 1 ∨ w = 2 ∨ w = 3 ∨ w = 4)) (hK : K none (gup σ a (fof w + 1) v)) : gE 105 0 [some (.ref a), some (.int w), some (.int v)] [] σ K := by
  obtain ⟨ha, hw⟩ := hc
  refine w105 ?_
  rcases hw with rfl | rfl | rfl | rfl | rfl <;> simp (decide := true) <;> exact ⟨ha, hK⟩
noncomputable def f105 : gD := fun Lv σ => match Lv with
  | [some (.ref a), some (.int w), some (.int v)] => some (some (gTv a ∧ (w = 0 ∨ w = 1 ∨ w = 2 ∨ w = 3 ∨ w = 4)), none, gup σ a (fof w + 1) v)
  | _ => none
theorem ok105 : gFok 105 f105 := by
  intro Lv σ q h hc K hK
  unfold f105 at h
  split at h
  · rename_i a w v
    cases h
    exact s105 (hc _ rfl) hK
  · cases h
end
