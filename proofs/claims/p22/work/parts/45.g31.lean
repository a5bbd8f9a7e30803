-- text 31
/-! CLASS AND REFERENCE: a train stands for a row -/
/-- the log at place l says what the row's entries say -/
def LR (σ : gS) (l : Nat) (R : gW) : Prop := bLg σ l ∧ σ l 2 = R 209 ∧ ∀ i, i < (σ l 2).toNatClampNeg → ∀ c, c < 3 → σ (l + 1) (3 * (((σ l 1).toNatClampNeg + i) % 40) + c) = R (210 + 3 * i + c)
theorem bLg_n {σ : gS} {l : Nat} (h : bLg σ l) : ∃ O S, σ l 1 = iN O ∧ σ l 2 = iN S ∧ O < 40 ∧ S ≤ 40 ∧ (σ l 1).toNatClampNeg = O ∧ (σ l 2).toNatClampNeg = S := by
  obtain ⟨ho, hs⟩ := h
  obtain ⟨eo, lo⟩ := l40 ⟨ho.1, by have := ho.2; grind⟩
  obtain ⟨es, ls⟩ := l40 hs
  refine ⟨_, _, eo, es, ?_, ls, rfl, rfl⟩
  have h := ho.2
  rw [eo] at h
  exact (iN_lt (m := 40) (by omega) (by decide)).mp h
theorem LR_b {σ : gS} {l : Nat} {R : gW} (h : LR σ l R) : 0 ≤ R 209 ∧ R 209 ≤ 40 := by rw [← h.2.1]; exact h.1.2
theorem LR_same {σ : gS} {l : Nat} {R S : gW} (h : LR σ l R) (hs : ∀ j, 209 ≤ j → j < 330 → S j = R j) : LR σ l S := by
  obtain ⟨O, s, eo, es, lo, ls, no, ns⟩ := bLg_n h.1
  refine ⟨h.1, by rw [hs 209 (by decide) (by decide)]; exact h.2.1, fun i hi c hc => ?_⟩
  rw [ns] at hi
  rw [hs _ (by omega) (by omega)]
  exact h.2.2 i (by rw [ns]; exact hi) c hc
/-- an entry in class and reference -/
theorem cAdd_ok {σ : gS} {R : gW} {w a b : Int32} (h : LR σ 30 R) : LR (cAdd σ w a b) 30 (fTe R w a b) := by
  obtain ⟨hb, hs, he⟩ := h
  obtain ⟨O, S, eo, es, lo, ls, no, ns⟩ := bLg_n hb
  have hR : R 209 = iN S := by rw [← hs]; exact es
  have nR : (R 209).toNatClampNeg = S := by rw [hR, iN_nat (by omega)]
  have en : cNx σ = 3 * ((O + S) % 40) := by unfold cNx; rw [no, ns]
  have hm : (O + S) % 40 < 40 := Nat.mod_lt _ (by decide)
  rw [ns, no] at he
  have p3 : ∀ j, cAd3 σ w a b 31 j = if j = 3 * ((O + S) % 40) + 2 then b else if j = 3 * ((O + S) % 40) + 1 then a else if j = 3 * ((O + S) % 40) then w else σ 31 j := by
    intro j
    unfold cAd3 gup
    rw [en]
    grind
  have q1 : ∀ j, cAd3 σ w a b 30 j = σ 30 j := by
    intro j
    unfold cAd3
    rw [gup_ne (by omega), gup_ne (by omega), gup_ne (by omega)]
  have fR : ∀ T : gW, ∀ s : Nat, s < 40 → T 209 = iN s → (fTe0 T w a b 209 = iN (s + 1)) ∧ ∀ i, i ≤ s → ∀ c, c < 3 → fTe0 T w a b (210 + 3 * i + c) = if i = s then (if c = 0 then w else if c = 1 then a else b) else T (210 + 3 * i + c) := by
    intro T s hs hT
    have nT : (T 209).toNatClampNeg = s := by rw [hT, iN_nat (by omega)]
    refine ⟨?_, fun i hi c hc => ?_⟩
    · unfold fTe0
      rw [rup_at, hT, iN_one]
    · unfold fTe0 rup
      rw [nT]
      grind
  by_cases h40 : S < 40
  · have c1 : σ 30 2 < 40 := by rw [es]; exact (iN_lt (m := 40) (by omega) (by decide)).mpr h40
    have eA : cAdd σ w a b = gup (cAd3 σ w a b) 30 2 (iN (S + 1)) := by
      unfold cAdd
      rw [if_pos c1, es, iN_one]
    have eF : fTe R w a b = fTe0 R w a b := by
      unfold fTe
      rw [if_neg (by rw [hR]; exact iN_eq (b := 40) (by omega) (by decide) (by omega))]
    obtain ⟨f1, f2⟩ := fR R S h40 hR
    rw [eA, eF]
    have r2 : gup (cAd3 σ w a b) 30 2 (iN (S + 1)) 30 2 = iN (S + 1) := gup_at _ _ _
    have r1 : gup (cAd3 σ w a b) 30 2 (iN (S + 1)) 30 1 = iN O := by rw [gup_ne (by omega), q1]; exact eo
    refine ⟨⟨?_, ?_⟩, ?_, ?_⟩
    · rw [r1, ← eo]; exact hb.1
    · rw [r2]
      exact ⟨(iN_le (k := 0) (by decide) (by omega)).mpr (by omega), (iN_le (m := 40) (by omega) (by decide)).mpr (by omega)⟩
    · rw [r2, f1]
    · intro i hi c hc
      rw [r2, iN_nat (by omega)] at hi
      rw [r1, iN_nat (by omega), gup_ne (by omega), p3, f2 i (by omega) c hc]
      by_cases q : i = S
      · subst q
        rw [if_pos rfl]
        have : c = 0 ∨ c = 1 ∨ c = 2 := by omega
        rcases this with rfl | rfl | rfl
        · rw [if_neg (by omega), if_neg (by omega), if_pos (by omega), if_pos rfl]
        · rw [if_neg (by omega), if_pos rfl, if_neg (by omega), if_pos rfl]
        · rw [if_pos rfl, if_neg (by omega), if_neg (by omega)]
      · rw [if_neg q]
        have hne : (O + i) % 40 ≠ (O + S) % 40 := by omega
        rw [if_neg (by omega), if_neg (by omega), if_neg (by omega)]
        exact he i (by omega) c hc
  · have e40 : S = 40 := by omega
    subst e40
    have c1 : ¬ σ 30 2 < 40 := by rw [es]; exact fun q => absurd ((iN_lt (m := 40) (by omega) (by decide)).mp q) (by omega)
    have eA : cAdd σ w a b = gup (cAd3 σ w a b) 30 1 (iN ((O + 1) % 40)) := by
      unfold cAdd
      rw [if_neg c1, no]
    have eF : fTe R w a b = fTe0 (rup (lsh R 117) 209 39) w a b := by
      unfold fTe
      rw [if_pos (show R 209 = 40 from hR)]
    obtain ⟨f1, f2⟩ := fR (rup (lsh R 117) 209 39) 39 (by decide) (rup_at _ _ _)
    rw [eA, eF]
    have lo1 : (O + 1) % 40 < 40 := Nat.mod_lt _ (by decide)
    have r2 : gup (cAd3 σ w a b) 30 1 (iN ((O + 1) % 40)) 30 2 = iN 40 := by rw [gup_ne (by omega), q1]; exact es
    have r1 : gup (cAd3 σ w a b) 30 1 (iN ((O + 1) % 40)) 30 1 = iN ((O + 1) % 40) := gup_at _ _ _
    refine ⟨⟨?_, ?_⟩, ?_, ?_⟩
    · rw [r1]
      exact ⟨(iN_le (k := 0) (by decide) (by omega)).mpr (by omega), (iN_lt (m := 40) (by omega) (by decide)).mpr (by omega)⟩
    · rw [r2]; decide
    · rw [r2, f1]
    · intro i hi c hc
      rw [r2, iN_nat (by omega)] at hi
      rw [r1, iN_nat (by omega), gup_ne (by omega), p3, f2 i (by omega) c hc]
      by_cases q : i = 39
      · subst q
        rw [if_pos rfl]
        have : c = 0 ∨ c = 1 ∨ c = 2 := by omega
        rcases this with rfl | rfl | rfl
        · rw [if_neg (by omega), if_neg (by omega), if_pos (by omega), if_pos rfl]
        · rw [if_neg (by omega), if_pos (by omega), if_neg (by omega), if_pos rfl]
        · rw [if_pos (by omega), if_neg (by omega), if_neg (by omega)]
      · rw [if_neg q, rup_ne (by omega)]
        have hne : ((O + 1) % 40 + i) % 40 ≠ (O + 40) % 40 := by omega
        rw [if_neg (by omega), if_neg (by omega), if_neg (by omega)]
        unfold lsh
        rw [if_pos (by omega)]
        have := he (i + 1) (by omega) c hc
        rw [show ((O + 1) % 40 + i) % 40 = (O + (i + 1)) % 40 by omega, this, show 210 + 3 * (i + 1) + c = 210 + 3 * i + c + 3 by omega]
/-- what the class writes for a name, and what the reference does -/
def nmR (c r : Int32) : Prop := ∃ l : List Nat, (1 ≤ l.length ∧ l.length ≤ 5) ∧ (∀ x, x ∈ l → 1 ≤ x ∧ x ≤ 26) ∧ c = iN (l.foldr (fun x s => x + 32 * s) 0) ∧ r = iN (l.foldl (fun s x => 27 * s + x) 0)
/-- the train at place p stands for the row R -/
def SV (σ : gS) (p : Nat) (R : gW) : Prop := agr (cR σ p) R ∧ TC σ p ∧ LR σ (p + 24) R ∧ ∀ t, t < nM R → nmR (σ (p + 2 + t) 0) (R (9 + 10 * t + 9))
theorem SV_3 {σ : gS} {p : Nat} {R : gW} (h : SV σ p R) : (0 ≤ R 3 ∧ R 3 ≤ 20) ∧ nM R ≤ 20 ∧ σ p 7 = R 3 := by
  have e : cR σ p 3 = R 3 := h.1.1 3 (by decide)
  have h2 := h.2.1.1
  rw [e] at h2
  refine ⟨h2, (nM_of h2).2, ?_⟩
  rw [← e, cR_3]
theorem SV_b {σ : gS} {p : Nat} {R : gW} (h : SV σ p R) : bN R := ⟨(SV_3 h).1, LR_b h.2.2.1⟩
/-- heaps that are the same in a train's block -/
theorem cR_blk {σ τ : gS} {p : Nat} (h : ∀ q, p ≤ q → q < p + 26 → τ q = σ q) : cR τ p = cR σ p := by
  funext j
  unfold cR
  by_cases h1 : j < 9
  · rw [if_pos h1, if_pos h1, h p (by omega) (by omega)]
  · rw [if_neg h1, if_neg h1]
    by_cases h2 : j < 209
    · rw [if_pos h2, if_pos h2, h _ (by omega) (by omega)]
    · rw [if_neg h2, if_neg h2]
theorem SV_blk {σ τ : gS} {p : Nat} {R : gW} (h : SV σ p R) (hq : ∀ q, p ≤ q → q < p + 26 → τ q = σ q) : SV τ p R := by
  obtain ⟨h1, ⟨t1, t2, t3⟩, h3, h4⟩ := h
  have e := cR_blk hq
  refine ⟨by rw [e]; exact h1, ⟨by rw [e]; exact t1, by rw [e]; exact t2, ?_⟩, ?_, ?_⟩
  · intro a ha f hf
    rw [e, hq _ (by omega) (by omega)]
    exact t3 a ha f hf
  · unfold LR bLg
    rw [hq (p + 24) (by omega) (by omega), hq (p + 24 + 1) (by omega) (by omega)]
    exact h3
  · intro t ht
    have hn := (SV_3 ⟨h1, ⟨t1, t2, t3⟩, h3, h4⟩).2.1
    rw [hq _ (by omega) (by omega)]
    exact h4 t ht
theorem SV_row {σ : gS} {p : Nat} {R S : gW} (h : SV σ p R) (hs : ∀ j, j < 330 → S j = R j) : SV σ p S := by
  have hn := (SV_3 h).2.1
  obtain ⟨h1, h2, h3, h4⟩ := h
  have en : nM S = nM R := by unfold nM; rw [hs 3 (by decide)]
  refine ⟨?_, h2, LR_same h3 (fun j _ hj => hs j hj), ?_⟩
  · refine ⟨fun j hj => by rw [hs j (by omega)]; exact h1.1 j hj, fun t ht f hf => ?_⟩
    have hl : t < nM R := by rw [← agr_n h1]; exact ht
    unfold fld at *
    rw [hs _ (by omega)]
    exact h1.2 t ht f hf
  · intro t ht
    rw [en] at ht
    rw [hs _ (by omega)]
    exact h4 t ht
-- text 32
/-! CLASS AND REFERENCE: copies, the past -/
theorem cLc_ne {σ : gS} {d s b j : Nat} (h : ¬ b = d) (h2 : ¬ b = d + 1) : cLc σ d s b j = σ b j := by
  unfold cLc
  rw [gup_ne (by omega), gup_ne (by omega)]
  unfold cA1
  rw [if_neg (by omega)]
theorem cCo_hd {σ : gS} {p q j : Nat} (hpq : q + 26 ≤ p ∨ p + 26 ≤ q) (hn : (σ q 7).toNatClampNeg ≤ 20) (h : 4 ≤ j) (h2 : j < 13) : cCo σ p q p j = σ q j := by
  unfold cCo cHd
  rw [if_pos (by omega), cLc_ne (by omega) (by omega)]
  unfold cA1
  rw [if_neg (by omega)]
  unfold cT1
  rw [if_neg (by omega)]
theorem cCo_tr {σ : gS} {p q t j : Nat} (hn : (σ q 7).toNatClampNeg ≤ 20) (ht : t < (σ q 7).toNatClampNeg) (hj : j < 10) : cCo σ p q (p + 2 + t) j = σ (q + 2 + t) j := by
  unfold cCo cHd
  rw [if_neg (by omega), cLc_ne (by omega) (by omega)]
  unfold cA1
  rw [if_neg (by omega)]
  unfold cT1
  rw [if_pos (by omega), show q + (p + 2 + t - p) = q + 2 + t by omega]
theorem cCo_me {σ : gS} {p q j : Nat} (hpq : q + 26 ≤ p ∨ p + 26 ≤ q) (hn : (σ q 7).toNatClampNeg ≤ 20) (hj : j < 50) : cCo σ p q (p + 23) j = σ (q + 23) j := by
  unfold cCo cHd
  rw [if_neg (by omega), cLc_ne (by omega) (by omega)]
  unfold cA1
  rw [if_pos (by omega)]
  unfold cT1
  rw [if_neg (by omega)]
theorem cA1_ne {σ : gS} {d s k b j : Nat} (h : ¬ b = d) : cA1 σ d s k b j = σ b j := by unfold cA1; rw [if_neg (by omega)]
theorem cT1_ne {σ : gS} {p q k b j : Nat} (h : b < p + 2 ∨ p + 2 + k ≤ b) : cT1 σ p q k b j = σ b j := by unfold cT1; rw [if_neg (by omega)]
theorem cCo_lg {σ : gS} {p q : Nat} (hpq : q + 26 ≤ p ∨ p + 26 ≤ q) (hn : (σ q 7).toNatClampNeg ≤ 20) : cCo σ p q (p + 24) 1 = σ (q + 24) 1 ∧ cCo σ p q (p + 24) 2 = σ (q + 24) 2 ∧ ∀ j, j < 120 → cCo σ p q (p + 24 + 1) j = σ (q + 24 + 1) j := by
  have e1 : ∀ b j, b ≠ p → cCo σ p q b j = cLc (cA1 (cT1 σ p q (σ q 7).toNatClampNeg) (p + 23) (q + 23) 50) (p + 24) (q + 24) b j := fun b j h => by
    unfold cCo cHd
    rw [if_neg (by omega)]
  refine ⟨?_, ?_, fun j hj => ?_⟩
  · rw [e1 _ _ (by omega)]
    unfold cLc
    rw [gup_ne (by omega), gup_at, cA1_ne (by omega), cT1_ne (by omega)]
  · rw [e1 _ _ (by omega)]
    unfold cLc
    rw [gup_at, cA1_ne (by omega), cT1_ne (by omega)]
  · rw [e1 _ _ (by omega)]
    unfold cLc
    rw [gup_ne (by omega), gup_ne (by omega)]
    have e2 : cA1 (cA1 (cT1 σ p q (σ q 7).toNatClampNeg) (p + 23) (q + 23) 50) (p + 24 + 1) (q + 24 + 1) 120 (p + 24 + 1) j = cA1 (cT1 σ p q (σ q 7).toNatClampNeg) (p + 23) (q + 23) 50 (q + 24 + 1) j := by
      show (if p + 24 + 1 = p + 24 + 1 ∧ j < 120 then _ else _) = _
      rw [if_pos ⟨rfl, hj⟩]
    rw [e2, cA1_ne (by omega), cT1_ne (by omega)]
theorem mem_agr {R S : gW} (h : agr R S) (b f : Int32) : mem R b f = mem S b f := by
  unfold mem
  rw [← agr_n h]
  refine cnt_congr (fun j hj => ?_)
  unfold memP
  rw [h.2 j hj 0 (by decide), h.2 j hj 2 (by decide)]
theorem bT_agr {R S : gW} (h : agr R S) (hb : bT R) : bT S := by
  intro t ht
  rw [← agr_n h] at ht
  rw [← h.2 t ht 1 (by decide), ← h.2 t ht 0 (by decide), ← h.2 t ht 2 (by decide)]
  exact hb t ht
/-- a copy stands for the same row -/
theorem cCo_ok {σ : gS} {p q : Nat} {R : gW} (hpq : q + 26 ≤ p ∨ p + 26 ≤ q) (h : SV σ q R) : SV (cCo σ p q) p R := by
  obtain ⟨b3, bn, e7⟩ := SV_3 h
  obtain ⟨h1, ⟨t1, t2, t3⟩, h3, h4⟩ := h
  have en : (σ q 7).toNatClampNeg = nM R := by rw [e7]; rfl
  have hn : (σ q 7).toNatClampNeg ≤ 20 := by omega
  have e3 : cR (cCo σ p q) p 3 = cR σ q 3 := by rw [cR_3, cR_3, cCo_hd hpq hn (by decide) (by decide)]
  have eN : nM (cR (cCo σ p q) p) = nM R := by
    unfold nM
    rw [e3, cR_3, e7]
  have ha : agr (cR (cCo σ p q) p) (cR σ q) := by
    refine ⟨fun j hj => ?_, fun t ht f hf => ?_⟩
    · rw [cR_h hj, cR_h hj, cCo_hd hpq hn (by omega) (by omega)]
    · rw [eN] at ht
      rw [cR_f (by omega) hf, cR_f (by omega) hf, cCo_tr hn (by omega) (by omega)]
  refine ⟨agr_trans ha h1, ⟨by rw [e3]; exact t1, bT_agr (agr_symm ha) t2, ?_⟩, ?_, ?_⟩
  · intro a ha2 f hf
    rw [cCo_me hpq hn (by omega), mem_agr ha]
    exact t3 a ha2 f hf
  · obtain ⟨l1, l2, l3⟩ := cCo_lg (σ := σ) hpq hn
    obtain ⟨O, S, eo, es, lo, ls, no, ns⟩ := bLg_n h3.1
    refine ⟨?_, ?_, ?_⟩
    · unfold bLg
      rw [l1, l2]
      exact h3.1
    · rw [l2]; exact h3.2.1
    · intro i hi c hc
      rw [l2] at hi
      rw [l1, l3 _ (by have := Nat.mod_lt ((σ (q + 24) 1).toNatClampNeg + i) (show 0 < 40 by decide); omega)]
      exact h3.2.2 i hi c hc
  · intro t ht
    rw [cCo_tr hn (by omega) (by omega)]
    exact h4 t ht
/-- the past of class and reference -/
def PR (σ : gS) : Prop := bPa σ ∧ σ 113 2 = σ 323 6 ∧ ∀ u, u < (σ 113 2).toNatClampNeg → SV σ (cPl σ u) (rowAt (σ 327) u)
theorem rowAt_lt {E : gW} {u j : Nat} (h : j < 330) : rowAt E u j = E (330 * u + j) := by unfold rowAt; rw [if_pos h]
theorem rla_hi {S T : gW} {b k j : Nat} (h : j < b) : rla S T 0 b k j = T j := by unfold rla; rw [if_neg (by omega)]
theorem rla_in {S T : gW} {b k j : Nat} (h : j < k) : rla S T 0 b k (b + j) = S j := by unfold rla; rw [if_pos (by omega), Nat.zero_add, Nat.add_sub_cancel_left]
theorem cPl_mod (O i : Nat) : (O + i) % 8 < 8 := Nat.mod_lt _ (by decide)
theorem PR_keep {σ τ : gS} (h : PR σ) (h6 : SV σ 6 (σ 324)) (hq : ∀ q, 113 ≤ q → q < 323 → τ q = cRem σ q) (hE : τ 327 = fKe (σ 324) (σ 327) (σ 323 6)) (hU : τ 323 6 = fKu (σ 323 6)) : PR τ := by
  obtain ⟨hp, hu, hs⟩ := h
  obtain ⟨O, C, eo, ec, lo, lc, no, nc⟩ := bPa_n hp
  obtain ⟨b3, bn, e7⟩ := SV_3 h6
  have n7 : (σ 6 7).toNatClampNeg ≤ 20 := by rw [e7]; exact bn
  have eU : σ 323 6 = iN C := by rw [← hu]; exact ec
  have eP : cPl σ (σ 113 2).toNatClampNeg = 115 + 26 * ((O + C) % 8) := by unfold cPl; rw [no, nc]
  have hm := cPl_mod O C
  rw [nc] at hs
  have hpl : ∀ u, cPl σ u = 115 + 26 * ((O + u) % 8) := fun u => by unfold cPl; rw [no]
  -- the copy
  have hcp := cCo_ok (p := 115 + 26 * ((O + C) % 8)) (q := 6) (Or.inl (by omega)) h6
  have old : ∀ u, u < C → (O + u) % 8 ≠ (O + C) % 8 → SV (cCo σ (115 + 26 * ((O + C) % 8)) 6) (115 + 26 * ((O + u) % 8)) (rowAt (σ 327) u) := by
    intro u hu2 hne
    have h2 := hs u hu2
    rw [hpl] at h2
    refine SV_blk h2 (fun q q1 q2 => ?_)
    funext j
    exact cCo_far (by omega) n7
  by_cases h8 : C < 8
  · have c8 : σ 113 2 < 8 := by rw [ec]; exact (iN_lt (m := 8) (by omega) (by decide)).mpr h8
    have eR : cRem σ = gup (cCo σ (115 + 26 * ((O + C) % 8)) 6) 113 2 (iN (C + 1)) := by
      unfold cRem
      rw [if_pos c8, eP, ec, iN_one]
    have t2 : τ 113 2 = iN (C + 1) := by rw [hq 113 (by decide) (by decide), eR, gup_at]
    have t1 : τ 113 1 = iN O := by rw [hq 113 (by decide) (by decide), eR, gup_ne (by omega), cCo_far (by omega) n7]; exact eo
    have nt1 : (τ 113 1).toNatClampNeg = O := by rw [t1, iN_nat (by omega)]
    have blk : ∀ x, x < 8 → ∀ q, 115 + 26 * x ≤ q → q < 115 + 26 * x + 26 → τ q = cCo σ (115 + 26 * ((O + C) % 8)) 6 q := by
      intro x hx q q1 q2
      rw [hq q (by omega) (by omega), eR]
      funext j
      rw [gup_ne (by omega)]
    have nE : fKe (σ 324) (σ 327) (σ 323 6) = rla (σ 324) (σ 327) 0 (330 * C) 330 := by
      unfold fKe
      rw [eU, if_neg (show ¬ iN C = (8 : Int32) from iN_eq (a := C) (b := 8) (by omega) (by decide) (by omega)), iN_nat (by omega)]
    refine ⟨⟨?_, ?_⟩, ?_, ?_⟩
    · rw [t1, ← eo]; exact hp.1
    · rw [t2]
      exact ⟨(iN_le (k := 0) (by decide) (by omega)).mpr (by omega), (iN_le (m := 8) (by omega) (by decide)).mpr (by omega)⟩
    · rw [t2, hU]
      unfold fKu
      rw [eU, if_neg (show ¬ iN C = (8 : Int32) from iN_eq (a := C) (b := 8) (by omega) (by decide) (by omega)), iN_one]
    · intro u hu2
      rw [t2, iN_nat (by omega)] at hu2
      have ep : cPl τ u = 115 + 26 * ((O + u) % 8) := by unfold cPl; rw [nt1]
      rw [ep, hE, nE]
      refine SV_blk ?_ (blk _ (cPl_mod O u))
      by_cases q : u = C
      · rw [q]
        refine SV_row hcp (fun j hj => ?_)
        rw [rowAt_lt hj, rla_in hj]
      · refine SV_row (old u (by omega) (by omega)) (fun j hj => ?_)
        rw [rowAt_lt hj, rowAt_lt hj, rla_hi (by omega)]
  · have e8 : C = 8 := by omega
    subst e8
    have c8 : ¬ σ 113 2 < 8 := by rw [ec]; decide
    have eR : cRem σ = gup (cCo σ (115 + 26 * ((O + 8) % 8)) 6) 113 1 (iN ((O + 1) % 8)) := by
      unfold cRem
      rw [if_neg c8, eP, no]
    have lo1 : (O + 1) % 8 < 8 := Nat.mod_lt _ (by decide)
    have t2 : τ 113 2 = iN 8 := by rw [hq 113 (by decide) (by decide), eR, gup_ne (by omega), cCo_far (by omega) n7]; exact ec
    have t1 : τ 113 1 = iN ((O + 1) % 8) := by rw [hq 113 (by decide) (by decide), eR, gup_at]
    have nt1 : (τ 113 1).toNatClampNeg = (O + 1) % 8 := by rw [t1, iN_nat (by omega)]
    have blk : ∀ x, x < 8 → ∀ q, 115 + 26 * x ≤ q → q < 115 + 26 * x + 26 → τ q = cCo σ (115 + 26 * ((O + 8) % 8)) 6 q := by
      intro x hx q q1 q2
      rw [hq q (by omega) (by omega), eR]
      funext j
      rw [gup_ne (by omega)]
    have nE : fKe (σ 324) (σ 327) (σ 323 6) = rla (σ 324) (esh (σ 327) 7) 0 2310 330 := by
      unfold fKe
      rw [eU, if_pos (show iN 8 = (8 : Int32) from rfl)]
    refine ⟨⟨?_, ?_⟩, ?_, ?_⟩
    · rw [t1]
      exact ⟨(iN_le (k := 0) (by decide) (by omega)).mpr (by omega), (iN_lt (m := 8) (by omega) (by decide)).mpr (by omega)⟩
    · rw [t2]; decide
    · rw [t2, hU]
      unfold fKu
      rw [eU, if_pos (show iN 8 = (8 : Int32) from rfl)]
      rfl
    · intro u hu2
      rw [t2, iN_nat (by omega)] at hu2
      have ep : cPl τ u = 115 + 26 * (((O + 1) % 8 + u) % 8) := by unfold cPl; rw [nt1]
      have em : ((O + 1) % 8 + u) % 8 = (O + (u + 1)) % 8 := by omega
      rw [ep, em, hE, nE]
      refine SV_blk ?_ (blk _ (cPl_mod O (u + 1)))
      by_cases q : u = 7
      · subst q
        refine SV_row hcp (fun j hj => ?_)
        rw [rowAt_lt hj]
        exact rla_in hj
      · refine SV_row (old (u + 1) (by omega) (by omega)) (fun j hj => ?_)
        rw [rowAt_lt hj, rowAt_lt hj, rla_hi (by omega)]
        unfold esh
        rw [if_pos (by omega), show 330 * (u + 1) + j = 330 * u + j + 330 by omega]
