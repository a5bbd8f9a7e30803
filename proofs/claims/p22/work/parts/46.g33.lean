-- text 33
/-! CLASS AND REFERENCE: one number changed -/
theorem rup_comm {R : gW} {a b : Nat} {x y : Int32} (h : ¬ a = b) : rup (rup R a x) b y = rup (rup R b y) a x := by
  funext j
  unfold rup
  grind
theorem agr_rup {R S : gW} {k : Nat} {x : Int32} (h : agr R S) (hk : ¬ k = 3) : agr (rup R k x) (rup S k x) := by
  refine ⟨fun j hj => ?_, fun t ht f hf => ?_⟩
  · unfold rup
    split
    · rfl
    · exact h.1 j hj
  · have ht : t < nM R := by
      unfold nM at ht ⊢
      rw [rup_ne (fun e => hk e.symm)] at ht
      exact ht
    unfold fld rup
    split
    · rfl
    · exact h.2 t ht f hf
theorem nM_rup3 {R : gW} {k : Nat} {x : Int32} (hk : ¬ k = 3) : nM (rup R k x) = nM R := by unfold nM; rw [rup_ne (fun e => hk e.symm)]
theorem fld_rup {R : gW} {t f s g : Nat} {x : Int32} (hf : f < 10) (hg : g < 10) : fld (rup R (9 + 10 * t + f) x) s g = if s = t ∧ g = f then x else fld R s g := by
  unfold fld rup
  by_cases q : s = t ∧ g = f
  · rw [if_pos q, if_pos (by omega)]
  · rw [if_neg q, if_neg (by omega)]
theorem fld_rupl {R : gW} {k s g : Nat} {x : Int32} (hk : k < 9) : fld (rup R k x) s g = fld R s g := by
  unfold fld
  rw [rup_ne (by omega)]
/-- a traveller's number that is not his seat, family or name -/
theorem SV_fld {σ : gS} {p t f : Nat} {R : gW} {x : Int32} (h : SV σ p R) (ht : t < nM R) (hf : f < 9) (h0 : ¬ f = 0) (h2 : ¬ f = 2) (h1 : f = 1 → x = 0 ∨ x = 1) : SV (gup σ (p + 2 + t) (f + 1) x) p (rup R (9 + 10 * t + f) x) := by
  obtain ⟨b3, bn, e7⟩ := SV_3 h
  obtain ⟨a1, ⟨t1, t2, t3⟩, l1, n1⟩ := h
  have eR := cR_gupf (σ := σ) (p := p) (t := t) (f := f) (x := x) (by omega) hf
  have eN : nM (cR σ p) = nM R := agr_n a1
  refine ⟨by rw [eR]; exact agr_rup a1 (by omega), ⟨by rw [eR, rup_ne (by omega)]; exact t1, ?_, ?_⟩, ?_, ?_⟩
  · intro s hs
    rw [eR, nM_rup3 (by omega)] at hs
    rw [eR, fld_rup (by omega) (by decide), fld_rup (by omega) (by decide), fld_rup (by omega) (by decide)]
    obtain ⟨b1, b2, b4⟩ := t2 s hs
    rw [if_neg (show ¬ (s = t ∧ 0 = f) by omega), if_neg (show ¬ (s = t ∧ 2 = f) by omega)]
    refine ⟨?_, b2, b4⟩
    split
    · rename_i q
      exact h1 q.2.symm
    · exact b1
  · intro a ha g hg
    rw [gup_ne (by omega), t3 a ha g hg, eR]
    congr 1
    unfold mem
    rw [nM_rup3 (by omega)]
    refine cnt_congr (fun j hj => ?_)
    unfold memP
    rw [fld_rup (by omega) (by decide), fld_rup (by omega) (by decide), if_neg (show ¬ (j = t ∧ 0 = f) by omega), if_neg (show ¬ (j = t ∧ 2 = f) by omega)]
  · refine LR_same ?_ (fun j h3 h4 => rup_ne (by omega))
    obtain ⟨c1, c2, c3⟩ := l1
    unfold LR bLg
    have e1 : ∀ i, gup σ (p + 2 + t) (f + 1) x (p + 24) i = σ (p + 24) i := fun i => gup_ne (by omega)
    have e2 : ∀ i, gup σ (p + 2 + t) (f + 1) x (p + 24 + 1) i = σ (p + 24 + 1) i := fun i => gup_ne (by omega)
    simp only [e1, e2]
    exact ⟨c1, c2, c3⟩
  · intro s hs
    rw [nM_rup3 (by omega)] at hs
    rw [gup_ne (by omega), rup_ne (by omega)]
    exact n1 s hs
/-- a number of the header but how many there are -/
theorem SV_hdr {σ : gS} {p k : Nat} {R : gW} {x : Int32} (h : SV σ p R) (hk : k < 9) (h3 : ¬ k = 3) : SV (gup σ p (k + 4) x) p (rup R k x) := by
  obtain ⟨b3, bn, e7⟩ := SV_3 h
  obtain ⟨a1, ⟨t1, t2, t3⟩, l1, n1⟩ := h
  have eR := cR_gup0 (σ := σ) (p := p) (k := k) (x := x) hk
  refine ⟨by rw [eR]; exact agr_rup a1 h3, ⟨by rw [eR, rup_ne (by omega)]; exact t1, ?_, ?_⟩, ?_, ?_⟩
  · intro s hs
    rw [eR, nM_rup3 h3] at hs
    rw [eR, fld_rupl hk, fld_rupl hk, fld_rupl hk]
    exact t2 s hs
  · intro a ha g hg
    rw [gup_ne (by omega), t3 a ha g hg, eR]
    congr 1
    unfold mem
    rw [nM_rup3 h3]
    refine cnt_congr (fun j hj => ?_)
    unfold memP
    rw [fld_rupl hk, fld_rupl hk]
  · refine LR_same ?_ (fun j h3 h4 => rup_ne (by omega))
    obtain ⟨c1, c2, c3⟩ := l1
    unfold LR bLg
    have e1 : ∀ i, gup σ p (k + 4) x (p + 24) i = σ (p + 24) i := fun i => gup_ne (by omega)
    have e2 : ∀ i, gup σ p (k + 4) x (p + 24 + 1) i = σ (p + 24 + 1) i := fun i => gup_ne (by omega)
    simp only [e1, e2]
    exact ⟨c1, c2, c3⟩
  · intro s hs
    rw [nM_rup3 h3] at hs
    rw [gup_ne (by omega), rup_ne (by omega)]
    exact n1 s hs
/-- a seat -/
theorem SV_sit {σ : gS} {p t : Nat} {R : gW} {x : Int32} (h : SV σ p R) (ht : t < nM R) (hx : 0 ≤ x ∧ x < 40) : SV (cSit σ p t x) p (rup R (9 + 10 * t + 0) x) := by
  obtain ⟨b3, bn, e7⟩ := SV_3 h
  obtain ⟨a1, hT, l1, n1⟩ := h
  obtain ⟨eR, hT2, hF⟩ := cSit_ok hT (show t < nM (cR σ p) by rw [agr_n a1]; exact ht) hx
  refine ⟨by rw [eR]; exact agr_rup a1 (by omega), hT2, ?_, ?_⟩
  · refine LR_same ?_ (fun j h3 h4 => rup_ne (by omega))
    obtain ⟨c1, c2, c3⟩ := l1
    unfold LR bLg
    have e1 : ∀ i, cSit σ p t x (p + 24) i = σ (p + 24) i := fun i => hF _ _ (by omega) (by omega)
    have e2 : ∀ i, cSit σ p t x (p + 24 + 1) i = σ (p + 24 + 1) i := fun i => hF _ _ (by omega) (by omega)
    simp only [e1, e2]
    exact ⟨c1, c2, c3⟩
  · intro s hs
    rw [nM_rup] at hs
    rw [hF _ _ (by omega) (by omega), rup_ne (by omega)]
    exact n1 s hs
theorem cAdd_far {σ : gS} {w a b : Int32} {q : Nat} (h : ¬ q = 30) (h2 : ¬ q = 31) : cAdd σ w a b q = σ q := by
  funext j
  unfold cAdd cAd3
  split
  · rw [gup_ne (by omega), gup_ne (by omega), gup_ne (by omega), gup_ne (by omega)]
  · rw [gup_ne (by omega), gup_ne (by omega), gup_ne (by omega), gup_ne (by omega)]
/-- an entry -/
theorem SV_add {σ : gS} {R : gW} {w a b : Int32} (h : SV σ 6 R) : SV (cAdd σ w a b) 6 (fTe R w a b) := by
  obtain ⟨b3, bn, e7⟩ := SV_3 h
  have b9 := LR_b h.2.2.1
  obtain ⟨a1, ⟨t1, t2, t3⟩, l1, n1⟩ := h
  have eR : cR (cAdd σ w a b) 6 = cR σ 6 := by
    funext j
    unfold cR
    by_cases h1 : j < 9
    · rw [if_pos h1, if_pos h1, cAdd_far (by omega) (by omega)]
    · rw [if_neg h1, if_neg h1]
      by_cases h2 : j < 209
      · rw [if_pos h2, if_pos h2, cAdd_far (by omega) (by omega)]
      · rw [if_neg h2, if_neg h2]
  have ag : agr R (fTe R w a b) := by
    refine ⟨fun j hj => (fTe_ne b9 (by omega)).symm, fun t ht f hf => ?_⟩
    unfold fld
    exact (fTe_ne b9 (by omega)).symm
  refine ⟨by rw [eR]; exact agr_trans a1 ag, ⟨by rw [eR]; exact t1, by rw [eR]; exact t2, ?_⟩, cAdd_ok l1, ?_⟩
  · intro x hx f hf
    rw [cAdd_far (by omega) (by omega), eR]
    exact t3 x hx f hf
  · intro t ht
    rw [← agr_n ag] at ht
    rw [cAdd_far (by omega) (by omega), fTe_ne b9 (by omega)]
    exact n1 t ht
theorem SV_ex {σ : gS} {p a b : Nat} {R : gW} (h : SV σ p R) (ha : a < nM R) (hb : b < nM R) : SV (cExS σ p a b) p (rsw R a b) := by
  obtain ⟨b3, bn, e7⟩ := SV_3 h
  obtain ⟨a1, hT, l1, n1⟩ := id h
  have eN := agr_n a1
  have ea := (hT.2.1 a (by omega)).2.1
  have eb := (hT.2.1 b (by omega)).2.1
  have xa : σ (p + 2 + a) 1 = R (9 + 10 * a + 0) := by rw [cR_s (σ := σ) (p := p) (t := a) (by omega)]; exact a1.2 a (by omega) 0 (by decide)
  have xb : σ (p + 2 + b) 1 = R (9 + 10 * b + 0) := by rw [cR_s (σ := σ) (p := p) (t := b) (by omega)]; exact a1.2 b (by omega) 0 (by decide)
  rw [a1.2 a (by omega) 0 (by decide)] at ea
  rw [a1.2 b (by omega) 0 (by decide)] at eb
  unfold cExS
  rw [xa, xb]
  have s1 := SV_sit h ha eb
  have s2 := SV_sit (t := b) s1 (by rw [nM_rup]; exact hb) ea
  exact s2
theorem SV_pas {σ : gS} {p a b c : Nat} {R : gW} (h : SV σ p R) (ha : a < nM R) (hb : b < nM R) (hc : c < nM R) (hd : a ≠ b ∧ b ≠ c ∧ a ≠ c) : SV (cPas σ p a b c) p (rtu R a b c) := by
  obtain ⟨b3, bn, e7⟩ := SV_3 h
  obtain ⟨a1, hT, l1, n1⟩ := id h
  have eN := agr_n a1
  have ea := (hT.2.1 a (by omega)).2.1
  have eb := (hT.2.1 b (by omega)).2.1
  have ec := (hT.2.1 c (by omega)).2.1
  have xa : σ (p + 2 + a) 1 = R (9 + 10 * a + 0) := by rw [cR_s (σ := σ) (p := p) (t := a) (by omega)]; exact a1.2 a (by omega) 0 (by decide)
  have xb : σ (p + 2 + b) 1 = R (9 + 10 * b + 0) := by rw [cR_s (σ := σ) (p := p) (t := b) (by omega)]; exact a1.2 b (by omega) 0 (by decide)
  rw [a1.2 a (by omega) 0 (by decide)] at ea
  rw [a1.2 b (by omega) 0 (by decide)] at eb
  rw [a1.2 c (by omega) 0 (by decide)] at ec
  have s1 := SV_sit h ha eb
  have xc : cSit σ p a (R (9 + 10 * b + 0)) (p + 2 + c) 1 = rup R (9 + 10 * a + 0) (R (9 + 10 * b + 0)) (9 + 10 * c + 0) := by
    rw [cR_s (σ := cSit σ p a (R (9 + 10 * b + 0))) (p := p) (t := c) (by omega)]
    have n1 := (SV_3 s1).2.1
    exact s1.1.2 c (by rw [agr_n s1.1, nM_rup]; exact hc) 0 (by decide)
  have vc : rup R (9 + 10 * a + 0) (R (9 + 10 * b + 0)) (9 + 10 * c + 0) = R (9 + 10 * c + 0) := rup_ne (by omega)
  unfold cPas
  rw [xa, xb, xc]
  have s2 := SV_sit (t := b) (x := rup R (9 + 10 * a + 0) (R (9 + 10 * b + 0)) (9 + 10 * c + 0)) s1 (by rw [nM_rup]; exact hb) (by rw [vc]; exact ec)
  have s3 := SV_sit (t := c) s2 (by rw [nM_rup, nM_rup]; exact hc) ea
  exact s3
-- text 34
/-! THE CLASS: its calls, swap, move, ring, first, set -/
noncomputable def gpct_l : List (Nat × gD) := (10, f10) :: gpcs_l
noncomputable def gpct : gP := gpl0 gpct_l
theorem gpct_ok : gPok gpct := gpl0_cons ok10 (gpcs_ok)
def gad (σ : gS) (p k : Nat) (x : Int32) : gS := gup σ p k (σ p k + x)
theorem gad_ne {σ : gS} {p k q j : Nat} {x : Int32} (h : ¬ (q = p ∧ j = k)) : gad σ p k x q j = σ q j := gup_ne h
theorem cExS_30 {σ : gS} {p a b : Nat} (h : TC σ p) (ha : a < nM (cR σ p)) (hb : b < nM (cR σ p)) : ∀ j, cExS σ p a b (p + 24) j = σ (p + 24) j := fun j => (cExS_ok h ha hb).2.2 _ _ (by omega) (by omega)
theorem cPas_30 {σ : gS} {p a b c : Nat} (h : TC σ p) (ha : a < nM (cR σ p)) (hb : b < nM (cR σ p)) (hc : c < nM (cR σ p)) (hd : a ≠ b ∧ b ≠ c ∧ a ≠ c) : ∀ j, cPas σ p a b c (p + 24) j = σ (p + 24) j := fun j => (cPas_ok h ha hb hc hd).2.2 _ _ (by omega) (by omega)
def cDsw (σ : gS) (a b : Nat) (x : Int32) : gS := cAdd (gad (gad (gad (gad (cExS σ 6 a b) (6 + 2 + a) 8 (-x)) (6 + 2 + b) 8 x) 6 8 1) 6 11 x) 1 (100 * iN a + iN b) x
def cDmo (σ : gS) (a : Nat) (x : Int32) : gS := cAdd (gad (cSit σ 6 a x) 6 9 1) 2 (iN a) (σ (6 + 2 + a) 1)
def cDri (σ : gS) (a b c : Nat) : gS := cAdd (gad (cPas σ 6 a b c) 6 10 1) 3 (10000 * iN a + 100 * iN b + iN c) 0
set_option maxRecDepth 20000 in
theorem w89 {σ : gS} {K : gK} {a b x : Int32} (h : ((0 ≤ a ∧ a < 20) ∧ (0 ≤ b ∧ b < 20)) ∧ (0 ≤ a ∧ a < 20) ∧ gTv (6 + 2 + a.toNatClampNeg) ∧ gTv (6 + 2 + a.toNatClampNeg) ∧ gE 89 20 [some (.ref 6), some (.int a), some (.int b), some (.int x)] [] (gup (cExS σ 6 a.toNatClampNeg b.toNatClampNeg) (6 + 2 + a.toNatClampNeg) 8 (((cExS σ 6 a.toNatClampNeg b.toNatClampNeg) (6 + 2 + a.toNatClampNeg) 8) - x)) K) : gE 89 0 [some (.ref 6), some (.int a), some (.int b), some (.int x)] [] σ K :=
  gw_run (cy := 89) (cuts := [20, 34, 44, 54]) (inl := []) (pf := gpct) gpct_ok 400 (by decide) h
set_option maxRecDepth 20000 in
theorem c89_20 {σ : gS} {K : gK} {l1 l2 l3 : Int32} (h : (0 ≤ l2 ∧ l2 < 20) ∧ gTv (6 + 2 + l2.toNatClampNeg) ∧ gTv (6 + 2 + l2.toNatClampNeg) ∧ gE 89 34 [some (.ref 6), some (.int l1), some (.int l2), some (.int l3)] [] (gup σ (6 + 2 + l2.toNatClampNeg) 8 ((σ (6 + 2 + l2.toNatClampNeg) 8) + l3)) K) : gE 89 20 [some (.ref 6), some (.int l1), some (.int l2), some (.int l3)] [] σ K :=
  gw_run (cy := 89) (cuts := [20, 34, 44, 54]) (inl := []) (pf := gpct) gpct_ok 400 (by decide) h
set_option maxRecDepth 20000 in
theorem c89_34 {σ : gS} {K : gK} {l1 l2 l3 : Int32} (h : gE 89 44 [some (.ref 6), some (.int l1), some (.int l2), some (.int l3)] [] (gup σ 6 8 ((σ 6 8) + 1)) K) : gE 89 34 [some (.ref 6), some (.int l1), some (.int l2), some (.int l3)] [] σ K :=
  gw_run (cy := 89) (cuts := [20, 34, 44, 54]) (inl := []) (pf := gpct) gpct_ok 400 (by decide) h
set_option maxRecDepth 20000 in
theorem c89_44 {σ : gS} {K : gK} {l1 l2 l3 : Int32} (h : gE 89 54 [some (.ref 6), some (.int l1), some (.int l2), some (.int l3)] [] (gup σ 6 11 ((σ 6 11) + l3)) K) : gE 89 44 [some (.ref 6), some (.int l1), some (.int l2), some (.int l3)] [] σ K :=
  gw_run (cy := 89) (cuts := [20, 34, 44, 54]) (inl := []) (pf := gpct) gpct_ok 400 (by decide) h
set_option maxRecDepth 20000 in
theorem c89_54 {σ : gS} {K : gK} {l1 l2 l3 : Int32} (h : (bLg σ 30) ∧ K none (cAdd σ (1 : Int32) ((100 * l1) + l2) l3)) : gE 89 54 [some (.ref 6), some (.int l1), some (.int l2), some (.int l3)] [] σ K :=
  gw_run (cy := 89) (cuts := [20, 34, 44, 54]) (inl := []) (pf := gpct) gpct_ok 400 (by decide) h
theorem s89 {σ : gS} {K : gK} {a b x : Int32} (hc : (isN σ 6 a ∧ isN σ 6 b) ∧ TC σ 6 ∧ bLg σ 30) (hK : K none (cDsw σ a.toNatClampNeg b.toNatClampNeg x)) : gE 89 0 [some (.ref 6), some (.int a), some (.int b), some (.int x)] [] σ K := by
  obtain ⟨⟨ha, hb⟩, hT, hl⟩ := hc
  have ea := (t20 ha.1).1
  have eb := (t20 hb.1).1
  have tva := tv_6 _ (n20 ha.1)
  have tvb := tv_6 _ (n20 hb.1)
  have e30 := cExS_30 hT ha.2 hb.2
  unfold cDsw gad at hK
  rw [← ea, ← eb] at hK
  have la := n20 ha.1
  have lb := n20 hb.1
  refine w89 ⟨⟨ha.1, hb.1⟩, ha.1, tva, tva, c89_20 ⟨hb.1, tvb, tvb, c89_34 (c89_44 (c89_54 ⟨?_, ?_⟩))⟩⟩
  · have e : ∀ j, gup (gup (gup (gup (cExS σ 6 a.toNatClampNeg b.toNatClampNeg) (6 + 2 + a.toNatClampNeg) 8 (cExS σ 6 a.toNatClampNeg b.toNatClampNeg (6 + 2 + a.toNatClampNeg) 8 - x)) (6 + 2 + b.toNatClampNeg) 8 (gup (cExS σ 6 a.toNatClampNeg b.toNatClampNeg) (6 + 2 + a.toNatClampNeg) 8 (cExS σ 6 a.toNatClampNeg b.toNatClampNeg (6 + 2 + a.toNatClampNeg) 8 - x) (6 + 2 + b.toNatClampNeg) 8 + x)) 6 8 (gup (gup (cExS σ 6 a.toNatClampNeg b.toNatClampNeg) (6 + 2 + a.toNatClampNeg) 8 (cExS σ 6 a.toNatClampNeg b.toNatClampNeg (6 + 2 + a.toNatClampNeg) 8 - x)) (6 + 2 + b.toNatClampNeg) 8 (gup (cExS σ 6 a.toNatClampNeg b.toNatClampNeg) (6 + 2 + a.toNatClampNeg) 8 (cExS σ 6 a.toNatClampNeg b.toNatClampNeg (6 + 2 + a.toNatClampNeg) 8 - x) (6 + 2 + b.toNatClampNeg) 8 + x) 6 8 + 1)) 6 11 (gup (gup (gup (cExS σ 6 a.toNatClampNeg b.toNatClampNeg) (6 + 2 + a.toNatClampNeg) 8 (cExS σ 6 a.toNatClampNeg b.toNatClampNeg (6 + 2 + a.toNatClampNeg) 8 - x)) (6 + 2 + b.toNatClampNeg) 8 (gup (cExS σ 6 a.toNatClampNeg b.toNatClampNeg) (6 + 2 + a.toNatClampNeg) 8 (cExS σ 6 a.toNatClampNeg b.toNatClampNeg (6 + 2 + a.toNatClampNeg) 8 - x) (6 + 2 + b.toNatClampNeg) 8 + x)) 6 8 (gup (gup (cExS σ 6 a.toNatClampNeg b.toNatClampNeg) (6 + 2 + a.toNatClampNeg) 8 (cExS σ 6 a.toNatClampNeg b.toNatClampNeg (6 + 2 + a.toNatClampNeg) 8 - x)) (6 + 2 + b.toNatClampNeg) 8 (gup (cExS σ 6 a.toNatClampNeg b.toNatClampNeg) (6 + 2 + a.toNatClampNeg) 8 (cExS σ 6 a.toNatClampNeg b.toNatClampNeg (6 + 2 + a.toNatClampNeg) 8 - x) (6 + 2 + b.toNatClampNeg) 8 + x) 6 8 + 1) 6 11 + x) 30 j = σ 30 j := fun j => by
      rw [gup_ne (by omega), gup_ne (by omega), gup_ne (by omega), gup_ne (by omega)]
      exact e30 j
    unfold bLg
    rw [e, e]
    exact hl
  · simp only [Int32.sub_eq_add_neg]
    exact hK
noncomputable def f89 : gD := fun Lv σ => match Lv with
  | [some (.ref q0), some (.int a), some (.int b), some (.int x)] => cond (Nat.beq q0 6) (some (some ((isN σ 6 a ∧ isN σ 6 b) ∧ TC σ 6 ∧ bLg σ 30), none, cDsw σ a.toNatClampNeg b.toNatClampNeg x)) none
  | _ => none
theorem ok89 : gFok 89 f89 := by
  intro Lv σ q h hc K hK
  unfold f89 at h
  split at h
  · rename_i q0 a b x
    obtain ⟨hb, h⟩ := c_no h
    have hb0 := hb
    have e0 := b_eq hb0
    subst e0
    cases h
    exact s89 (hc _ rfl) hK
  · cases h
set_option maxRecDepth 20000 in
theorem w91 {σ : gS} {K : gK} {a x : Int32} (h : (0 ≤ a ∧ a < 20) ∧ gTv (6 + 2 + a.toNatClampNeg) ∧ (0 ≤ a ∧ a < 20) ∧ gE 91 25 [some (.ref 6), some (.int a), some (.int x), some (.int (σ (6 + 2 + a.toNatClampNeg) 1))] [] (gup (cSit σ 6 a.toNatClampNeg x) 6 9 (((cSit σ 6 a.toNatClampNeg x) 6 9) + 1)) K) : gE 91 0 [some (.ref 6), some (.int a), some (.int x), none] [] σ K :=
  gw_run (cy := 91) (cuts := [25]) (inl := []) (pf := gpct) gpct_ok 400 (by decide) h
set_option maxRecDepth 20000 in
theorem c91_25 {σ : gS} {K : gK} {l1 l2 l3 : Int32} (h : (bLg σ 30) ∧ K none (cAdd σ (2 : Int32) l1 l3)) : gE 91 25 [some (.ref 6), some (.int l1), some (.int l2), some (.int l3)] [] σ K :=
  gw_run (cy := 91) (cuts := [25]) (inl := []) (pf := gpct) gpct_ok 400 (by decide) h
theorem s91 {σ : gS} {K : gK} {a x : Int32} (hc : isN σ 6 a ∧ (0 ≤ x ∧ x < 40) ∧ TC σ 6 ∧ bLg σ 30) (hK : K none (cDmo σ a.toNatClampNeg x)) : gE 91 0 [some (.ref 6), some (.int a), some (.int x), none] [] σ K := by
  obtain ⟨ha, hx, hT, hl⟩ := hc
  have ea := (t20 ha.1).1
  have tva := tv_6 _ (n20 ha.1)
  have e30 : ∀ j, cSit σ 6 a.toNatClampNeg x 30 j = σ 30 j := fun j => (cSit_ok hT ha.2 hx).2.2 _ _ (by omega) (by omega)
  unfold cDmo gad at hK
  rw [← ea] at hK
  refine w91 ⟨ha.1, tva, ha.1, c91_25 ⟨?_, hK⟩⟩
  have e : ∀ j, gup (cSit σ 6 a.toNatClampNeg x) 6 9 (cSit σ 6 a.toNatClampNeg x 6 9 + 1) 30 j = σ 30 j := fun j => by rw [gup_ne (by omega)]; exact e30 j
  unfold bLg
  rw [e, e]
  exact hl
noncomputable def f91 : gD := fun Lv σ => match Lv with
  | [some (.ref q0), some (.int a), some (.int x), none] => cond (Nat.beq q0 6) (some (some (isN σ 6 a ∧ (0 ≤ x ∧ x < 40) ∧ TC σ 6 ∧ bLg σ 30), none, cDmo σ a.toNatClampNeg x)) none
  | _ => none
theorem ok91 : gFok 91 f91 := by
  intro Lv σ q h hc K hK
  unfold f91 at h
  split at h
  · rename_i q0 a x
    obtain ⟨hb, h⟩ := c_no h
    have hb0 := hb
    have e0 := b_eq hb0
    subst e0
    cases h
    exact s91 (hc _ rfl) hK
  · cases h
set_option maxRecDepth 20000 in
theorem w94 {σ : gS} {K : gK} {a b c : Int32} (h : ((0 ≤ a ∧ a < 20) ∧ (0 ≤ b ∧ b < 20) ∧ (0 ≤ c ∧ c < 20)) ∧ gE 94 17 [some (.ref 6), some (.int a), some (.int b), some (.int c)] [] (gup (cPas σ 6 a.toNatClampNeg b.toNatClampNeg c.toNatClampNeg) 6 10 (((cPas σ 6 a.toNatClampNeg b.toNatClampNeg c.toNatClampNeg) 6 10) + 1)) K) : gE 94 0 [some (.ref 6), some (.int a), some (.int b), some (.int c)] [] σ K :=
  gw_run (cy := 94) (cuts := [17]) (inl := []) (pf := gpct) gpct_ok 400 (by decide) h
set_option maxRecDepth 20000 in
theorem c94_17 {σ : gS} {K : gK} {l1 l2 l3 : Int32} (h : (bLg σ 30) ∧ K none (cAdd σ (3 : Int32) (((10000 * l1) + (100 * l2)) + l3) (0 : Int32))) : gE 94 17 [some (.ref 6), some (.int l1), some (.int l2), some (.int l3)] [] σ K :=
  gw_run (cy := 94) (cuts := [17]) (inl := []) (pf := gpct) gpct_ok 400 (by decide) h
theorem s94 {σ : gS} {K : gK} {a b c : Int32} (hc : (isN σ 6 a ∧ isN σ 6 b ∧ isN σ 6 c) ∧ (a.toNatClampNeg ≠ b.toNatClampNeg ∧ b.toNatClampNeg ≠ c.toNatClampNeg ∧ a.toNatClampNeg ≠ c.toNatClampNeg) ∧ TC σ 6 ∧ bLg σ 30) (hK : K none (cDri σ a.toNatClampNeg b.toNatClampNeg c.toNatClampNeg)) : gE 94 0 [some (.ref 6), some (.int a), some (.int b), some (.int c)] [] σ K := by
  obtain ⟨⟨ha, hb, hcc⟩, hd, hT, hl⟩ := hc
  have ea := (t20 ha.1).1
  have eb := (t20 hb.1).1
  have ec := (t20 hcc.1).1
  have e30 := cPas_30 hT ha.2 hb.2 hcc.2 hd
  unfold cDri gad at hK
  rw [← ea, ← eb, ← ec] at hK
  refine w94 ⟨⟨ha.1, hb.1, hcc.1⟩, c94_17 ⟨?_, hK⟩⟩
  have e : ∀ j, gup (cPas σ 6 a.toNatClampNeg b.toNatClampNeg c.toNatClampNeg) 6 10 (cPas σ 6 a.toNatClampNeg b.toNatClampNeg c.toNatClampNeg 6 10 + 1) 30 j = σ 30 j := fun j => by rw [gup_ne (by omega)]; exact e30 j
  unfold bLg
  rw [e, e]
  exact hl
noncomputable def f94 : gD := fun Lv σ => match Lv with
  | [some (.ref q0), some (.int a), some (.int b), some (.int c)] => cond (Nat.beq q0 6) (some (some ((isN σ 6 a ∧ isN σ 6 b ∧ isN σ 6 c) ∧ (a.toNatClampNeg ≠ b.toNatClampNeg ∧ b.toNatClampNeg ≠ c.toNatClampNeg ∧ a.toNatClampNeg ≠ c.toNatClampNeg) ∧ TC σ 6 ∧ bLg σ 30), none, cDri σ a.toNatClampNeg b.toNatClampNeg c.toNatClampNeg)) none
  | _ => none
theorem ok94 : gFok 94 f94 := by
  intro Lv σ q h hc K hK
  unfold f94 at h
  split at h
  · rename_i q0 a b c
    obtain ⟨hb, h⟩ := c_no h
    have hb0 := hb
    have e0 := b_eq hb0
    subst e0
    cases h
    exact s94 (hc _ rfl) hK
  · cases h
set_option maxRecDepth 20000 in
theorem w149 {σ : gS} {K : gK} {a b : Int32} (h : (((bI (isT (cR σ 6) a)) = 0 → ((0 : Int32) = 0 ∨ (0 : Int32) = 1) ∧ K (some (.int 0)) σ) ∧ (¬ (bI (isT (cR σ 6) a)) = 0 → (((bI (isT (cR σ 6) b)) = 0 → ((0 : Int32) = 0 ∨ (0 : Int32) = 1) ∧ K (some (.int 0)) σ) ∧ (¬ (bI (isT (cR σ 6) b)) = 0 → ((a = b → ((0 : Int32) = 0 ∨ (0 : Int32) = 1) ∧ K (some (.int 0)) σ) ∧ (¬ a = b → ((1 : Int32) = 0 ∨ (1 : Int32) = 1) ∧ K (some (.int 1)) σ))))))) : gE 149 0 [some (.ref 0), some (.int a), some (.int b)] [] σ K :=
  gw_run (cy := 149) (cuts := []) (inl := []) (pf := gpct) gpct_ok 400 (by decide) h
theorem s149 {σ : gS} {K : gK} {a b : Int32} (hK : K (some (.int (bI (isP (cR σ 6) a b)))) σ) : gE 149 0 [some (.ref 0), some (.int a), some (.int b)] [] σ K := by
  refine w149 ?_
  simp only [bI_0]
  grind [bI]
noncomputable def f149 : gD := fun Lv σ => match Lv with
  | [some (.ref q0), some (.int a), some (.int b)] => cond (Nat.beq q0 0) (some (none, some (.int (bI (isP (cR σ 6) a b))), σ)) none
  | _ => none
theorem ok149 : gFok 149 f149 := by
  intro Lv σ q h hc K hK
  unfold f149 at h
  split at h
  · rename_i q0 a b
    obtain ⟨hb, h⟩ := c_no h
    have hb0 := hb
    have e0 := b_eq hb0
    subst e0
    cases h
    exact s149 hK
  · cases h
noncomputable def gpcu_l : List (Nat × gD) := (89, f89) :: (91, f91) :: (94, f94) :: (149, f149) :: gpct_l
noncomputable def gpcu : gP := gpl0 gpcu_l
theorem gpcu_ok : gPok gpcu := gpl0_cons ok89 (gpl0_cons ok91 (gpl0_cons ok94 (gpl0_cons ok149 (gpct_ok))))
