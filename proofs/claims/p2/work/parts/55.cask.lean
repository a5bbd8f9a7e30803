/-! THE CLASS: swaps, moves, rings asked for -/
def cPas (σ : gS) (p a b c : Nat) : gS := cSit (cSit (cSit σ p a (σ (p + 2 + b) 1)) p b (cSit σ p a (σ (p + 2 + b) 1) (p + 2 + c) 1)) p c (σ (p + 2 + a) 1)
theorem cR_s {σ : gS} {p t : Nat} (ht : t < 20) : σ (p + 2 + t) 1 = cR σ p (9 + 10 * t + 0) := (cR_f (f := 0) ht (by decide)).symm
theorem nM_rup {R : gW} {t : Nat} {x : Int32} : nM (rup R (9 + 10 * t + 0) x) = nM R := by unfold nM; rw [rup_ne (by omega)]
theorem cExS_ok {σ : gS} {p a b : Nat} (h : TC σ p) (ha : a < nM (cR σ p)) (hb : b < nM (cR σ p)) : cR (cExS σ p a b) p = rsw (cR σ p) a b ∧ TC (cExS σ p a b) p ∧ sFr σ (cExS σ p a b) p := by
  have hn := (nM_of h.1).2
  have sa := (h.2.1 a ha).2.1
  have sb := (h.2.1 b hb).2.1
  unfold fld at sa sb
  have ea := cR_s (σ := σ) (p := p) (t := a) (by omega)
  have eb := cR_s (σ := σ) (p := p) (t := b) (by omega)
  obtain ⟨r1, t1, f1⟩ := cSit_ok h ha sb
  obtain ⟨r2, t2, f2⟩ := cSit_ok (x := cR σ p (9 + 10 * a + 0)) t1 (show b < nM _ by rw [r1, nM_rup]; exact hb) sa
  unfold cExS
  rw [ea, eb]
  refine ⟨?_, t2, sFr_t f1 f2⟩
  rw [r2, r1]
  rfl
theorem cPas_ok {σ : gS} {p a b c : Nat} (h : TC σ p) (ha : a < nM (cR σ p)) (hb : b < nM (cR σ p)) (hc : c < nM (cR σ p)) (hd : a ≠ b ∧ b ≠ c ∧ a ≠ c) : cR (cPas σ p a b c) p = rtu (cR σ p) a b c ∧ TC (cPas σ p a b c) p ∧ sFr σ (cPas σ p a b c) p := by
  have hn := (nM_of h.1).2
  have sa := (h.2.1 a ha).2.1
  have sb := (h.2.1 b hb).2.1
  have sc := (h.2.1 c hc).2.1
  unfold fld at sa sb sc
  have ea := cR_s (σ := σ) (p := p) (t := a) (by omega)
  have eb := cR_s (σ := σ) (p := p) (t := b) (by omega)
  obtain ⟨r1, t1, f1⟩ := cSit_ok h ha sb
  have ec := cR_s (σ := cSit σ p a (cR σ p (9 + 10 * b + 0))) (p := p) (t := c) (by omega)
  have ecv : cR (cSit σ p a (cR σ p (9 + 10 * b + 0))) p (9 + 10 * c + 0) = cR σ p (9 + 10 * c + 0) := by rw [r1, rup_ne (by omega)]
  obtain ⟨r2, t2, f2⟩ := cSit_ok (t := b) (x := cR (cSit σ p a (cR σ p (9 + 10 * b + 0))) p (9 + 10 * c + 0)) t1 (show b < nM _ by rw [r1, nM_rup]; exact hb) (by rw [ecv]; exact sc)
  obtain ⟨r3, t3, f3⟩ := cSit_ok (t := c) (x := cR σ p (9 + 10 * a + 0)) t2 (show c < nM _ by rw [r2, nM_rup, r1, nM_rup]; exact hc) sa
  unfold cPas
  rw [ea, eb, ec]
  refine ⟨?_, t3, sFr_t f1 (sFr_t f2 f3)⟩
  rw [r3, r2, r1]
  rfl
theorem nM_rsw {R : gW} {a b : Nat} : nM (rsw R a b) = nM R := by unfold nM; rw [rsw_3]
theorem nM_rtu {R : gW} {a b c : Nat} (hd : a ≠ b ∧ b ≠ c ∧ a ≠ c) : nM (rtu R a b c) = nM R := by unfold nM; rw [rtu_3 hd]
/-- back again -/
theorem cExS_bk {σ : gS} {p a b : Nat} (h : TC σ p) (ha : a < nM (cR σ p)) (hb : b < nM (cR σ p)) : cExS (cExS σ p a b) p a b = σ := by
  obtain ⟨r1, t1, f1⟩ := cExS_ok h ha hb
  obtain ⟨r2, t2, f2⟩ := cExS_ok (a := a) (b := b) t1 (by rw [r1, nM_rsw]; exact ha) (by rw [r1, nM_rsw]; exact hb)
  exact sFr_eq h t2 (by rw [r2, r1, rsw_rsw]) (sFr_t f1 f2)
theorem cPas_bk {σ : gS} {p a b c : Nat} (h : TC σ p) (ha : a < nM (cR σ p)) (hb : b < nM (cR σ p)) (hc : c < nM (cR σ p)) (hd : a ≠ b ∧ b ≠ c ∧ a ≠ c) : cPas (cPas σ p a b c) p c b a = σ := by
  obtain ⟨r1, t1, f1⟩ := cPas_ok h ha hb hc hd
  have hd2 : c ≠ b ∧ b ≠ a ∧ c ≠ a := ⟨fun e => hd.2.1 e.symm, fun e => hd.1 e.symm, fun e => hd.2.2 e.symm⟩
  obtain ⟨r2, t2, f2⟩ := cPas_ok (a := c) (b := b) (c := a) t1 (by rw [r1, nM_rtu hd]; exact hc) (by rw [r1, nM_rtu hd]; exact hb) (by rw [r1, nM_rtu hd]; exact ha) hd2
  exact sFr_eq h t2 (by rw [r2, r1, rtu_rtu hd]) (sFr_t f1 f2)
/-- a traveller of the train -/
abbrev isN (σ : gS) (p : Nat) (t : Int32) : Prop := (0 ≤ t ∧ t < 20) ∧ t.toNatClampNeg < nM (cR σ p)
theorem fWho_c (R : gW) (x : Int32) (h : 0 ≤ R 3 ∧ R 3 ≤ 20) : fWho R x = -2 ∨ 0 ≤ fWho R x := by
  have hn := (nM_of h).2
  unfold fWho
  generalize nM R = n at hn
  induction n with
  | zero => exact Or.inl rfl
  | succ n ih =>
    unfold fnd
    by_cases e : fnd (fun t => decide (fld R t 0 = x)) n = -2
    · rw [if_pos e]
      split
      · exact Or.inr ((iN_le (k := 0) (by decide) (by omega)).mpr (by omega))
      · exact Or.inl rfl
    · rw [if_neg e]
      exact ih (by omega)
set_option maxRecDepth 20000 in
theorem w84_6 {σ : gS} {K : gK} {a b : Int32} (h : (0 ≤ a ∧ a < 20) ∧ gTv (6 + 2 + a.toNatClampNeg) ∧ (0 ≤ b ∧ b < 20) ∧ gTv (6 + 2 + b.toNatClampNeg) ∧ (0 ≤ a ∧ a < 20) ∧ (0 ≤ b ∧ b < 20) ∧ K none (cSit (cSit σ 6 a.toNatClampNeg (σ (6 + 2 + b.toNatClampNeg) 1)) 6 b.toNatClampNeg (σ (6 + 2 + a.toNatClampNeg) 1))) : gE 84 0 [some (.ref 6), some (.int a), some (.int b), none] [] σ K :=
  gw_run (cy := 84) (cuts := []) (inl := []) (pf := gpcj) gpcj_ok 400 (by decide) h
theorem s84_6 {σ : gS} {K : gK} {a b : Int32} (hc : (0 ≤ a ∧ a < 20) ∧ (0 ≤ b ∧ b < 20)) (hK : K none (cExS σ 6 a.toNatClampNeg b.toNatClampNeg)) : gE 84 0 [some (.ref 6), some (.int a), some (.int b), none] [] σ K := by
  obtain ⟨ha, hb⟩ := hc
  exact w84_6 ⟨ha, tv_6 _ (n20 ha), hb, tv_6 _ (n20 hb), ha, hb, hK⟩
set_option maxRecDepth 20000 in
theorem w84_32 {σ : gS} {K : gK} {a b : Int32} (h : (0 ≤ a ∧ a < 20) ∧ gTv (32 + 2 + a.toNatClampNeg) ∧ (0 ≤ b ∧ b < 20) ∧ gTv (32 + 2 + b.toNatClampNeg) ∧ (0 ≤ a ∧ a < 20) ∧ (0 ≤ b ∧ b < 20) ∧ K none (cSit (cSit σ 32 a.toNatClampNeg (σ (32 + 2 + b.toNatClampNeg) 1)) 32 b.toNatClampNeg (σ (32 + 2 + a.toNatClampNeg) 1))) : gE 84 0 [some (.ref 32), some (.int a), some (.int b), none] [] σ K :=
  gw_run (cy := 84) (cuts := []) (inl := []) (pf := gpcj) gpcj_ok 400 (by decide) h
theorem s84_32 {σ : gS} {K : gK} {a b : Int32} (hc : (0 ≤ a ∧ a < 20) ∧ (0 ≤ b ∧ b < 20)) (hK : K none (cExS σ 32 a.toNatClampNeg b.toNatClampNeg)) : gE 84 0 [some (.ref 32), some (.int a), some (.int b), none] [] σ K := by
  obtain ⟨ha, hb⟩ := hc
  exact w84_32 ⟨ha, tv_32 _ (n20 ha), hb, tv_32 _ (n20 hb), ha, hb, hK⟩
noncomputable def f84 : gD := fun Lv σ => match Lv with
  | [some (.ref p), some (.int a), some (.int b), none] => cond (Nat.beq p 6 || Nat.beq p 32) (some (some ((0 ≤ a ∧ a < 20) ∧ (0 ≤ b ∧ b < 20)), none, cExS σ p a.toNatClampNeg b.toNatClampNeg)) none
  | _ => none
theorem ok84 : gFok 84 f84 := by
  intro Lv σ q h hc K hK
  unfold f84 at h
  split at h
  · rename_i p a b
    obtain ⟨hb, h⟩ := c_no h
    have hb0 := hb
    rcases s_or hb0 with hb0 | hb0
    · have e := b_eq hb0
      subst e
      cases h
      exact s84_6 (hc _ rfl) hK
    · have e := b_eq hb0
      subst e
      cases h
      exact s84_32 (hc _ rfl) hK
  · cases h
set_option maxRecDepth 20000 in
theorem w85_6 {σ : gS} {K : gK} {a b c : Int32} (h : (0 ≤ a ∧ a < 20) ∧ gTv (6 + 2 + a.toNatClampNeg) ∧ (0 ≤ b ∧ b < 20) ∧ gTv (6 + 2 + b.toNatClampNeg) ∧ (0 ≤ a ∧ a < 20) ∧ (0 ≤ c ∧ c < 20) ∧ gTv (6 + 2 + c.toNatClampNeg) ∧ (0 ≤ b ∧ b < 20) ∧ (0 ≤ c ∧ c < 20) ∧ K none (cSit (cSit (cSit σ 6 a.toNatClampNeg (σ (6 + 2 + b.toNatClampNeg) 1)) 6 b.toNatClampNeg ((cSit σ 6 a.toNatClampNeg (σ (6 + 2 + b.toNatClampNeg) 1)) (6 + 2 + c.toNatClampNeg) 1)) 6 c.toNatClampNeg (σ (6 + 2 + a.toNatClampNeg) 1))) : gE 85 0 [some (.ref 6), some (.int a), some (.int b), some (.int c), none] [] σ K :=
  gw_run (cy := 85) (cuts := []) (inl := []) (pf := gpcj) gpcj_ok 400 (by decide) h
theorem s85_6 {σ : gS} {K : gK} {a b c : Int32} (hc : (0 ≤ a ∧ a < 20) ∧ (0 ≤ b ∧ b < 20) ∧ (0 ≤ c ∧ c < 20)) (hK : K none (cPas σ 6 a.toNatClampNeg b.toNatClampNeg c.toNatClampNeg)) : gE 85 0 [some (.ref 6), some (.int a), some (.int b), some (.int c), none] [] σ K := by
  obtain ⟨ha, hb, hcc⟩ := hc
  exact w85_6 ⟨ha, tv_6 _ (n20 ha), hb, tv_6 _ (n20 hb), ha, hcc, tv_6 _ (n20 hcc), hb, hcc, hK⟩
set_option maxRecDepth 20000 in
theorem w85_32 {σ : gS} {K : gK} {a b c : Int32} (h : (0 ≤ a ∧ a < 20) ∧ gTv (32 + 2 + a.toNatClampNeg) ∧ (0 ≤ b ∧ b < 20) ∧ gTv (32 + 2 + b.toNatClampNeg) ∧ (0 ≤ a ∧ a < 20) ∧ (0 ≤ c ∧ c < 20) ∧ gTv (32 + 2 + c.toNatClampNeg) ∧ (0 ≤ b ∧ b < 20) ∧ (0 ≤ c ∧ c < 20) ∧ K none (cSit (cSit (cSit σ 32 a.toNatClampNeg (σ (32 + 2 + b.toNatClampNeg) 1)) 32 b.toNatClampNeg ((cSit σ 32 a.toNatClampNeg (σ (32 + 2 + b.toNatClampNeg) 1)) (32 + 2 + c.toNatClampNeg) 1)) 32 c.toNatClampNeg (σ (32 + 2 + a.toNatClampNeg) 1))) : gE 85 0 [some (.ref 32), some (.int a), some (.int b), some (.int c), none] [] σ K :=
  gw_run (cy := 85) (cuts := []) (inl := []) (pf := gpcj) gpcj_ok 400 (by decide) h
theorem s85_32 {σ : gS} {K : gK} {a b c : Int32} (hc : (0 ≤ a ∧ a < 20) ∧ (0 ≤ b ∧ b < 20) ∧ (0 ≤ c ∧ c < 20)) (hK : K none (cPas σ 32 a.toNatClampNeg b.toNatClampNeg c.toNatClampNeg)) : gE 85 0 [some (.ref 32), some (.int a), some (.int b), some (.int c), none] [] σ K := by
  obtain ⟨ha, hb, hcc⟩ := hc
  exact w85_32 ⟨ha, tv_32 _ (n20 ha), hb, tv_32 _ (n20 hb), ha, hcc, tv_32 _ (n20 hcc), hb, hcc, hK⟩
noncomputable def f85 : gD := fun Lv σ => match Lv with
  | [some (.ref p), some (.int a), some (.int b), some (.int c), none] => cond (Nat.beq p 6 || Nat.beq p 32) (some (some ((0 ≤ a ∧ a < 20) ∧ (0 ≤ b ∧ b < 20) ∧ (0 ≤ c ∧ c < 20)), none, cPas σ p a.toNatClampNeg b.toNatClampNeg c.toNatClampNeg)) none
  | _ => none
theorem ok85 : gFok 85 f85 := by
  intro Lv σ q h hc K hK
  unfold f85 at h
  split at h
  · rename_i p a b c
    obtain ⟨hb, h⟩ := c_no h
    have hb0 := hb
    rcases s_or hb0 with hb0 | hb0
    · have e := b_eq hb0
      subst e
      cases h
      exact s85_6 (hc _ rfl) hK
    · have e := b_eq hb0
      subst e
      cases h
      exact s85_32 (hc _ rfl) hK
  · cases h
noncomputable def gpck_l : List (Nat × gD) := (84, f84) :: (85, f85) :: gpcj_l
noncomputable def gpck : gP := gpl0 gpck_l
theorem gpck_ok : gPok gpck := gpl0_cons ok84 (gpl0_cons ok85 (gpcj_ok))
set_option maxRecDepth 20000 in
theorem w86_6 {σ : gS} {K : gK} {a b : Int32} (h : (((0 ≤ a ∧ a < 20) ∧ a.toNatClampNeg < nM (cR σ 6)) ∧ TC σ 6) ∧ ((0 ≤ a ∧ a < 20) ∧ (0 ≤ b ∧ b < 20)) ∧ (((0 ≤ a ∧ a < 20) ∧ a.toNatClampNeg < nM (cR (cExS σ 6 a.toNatClampNeg b.toNatClampNeg) 6)) ∧ TC (cExS σ 6 a.toNatClampNeg b.toNatClampNeg) 6) ∧ ((0 ≤ a ∧ a < 20) ∧ (0 ≤ b ∧ b < 20)) ∧ K (some (.int ((fJo (cR (cExS σ 6 a.toNatClampNeg b.toNatClampNeg) 6) a.toNatClampNeg) - (fJo (cR σ 6) a.toNatClampNeg)))) (cExS (cExS σ 6 a.toNatClampNeg b.toNatClampNeg) 6 a.toNatClampNeg b.toNatClampNeg)) : gE 86 0 [some (.ref 6), some (.int a), some (.int b), none, none] [] σ K :=
  gw_run (cy := 86) (cuts := []) (inl := []) (pf := gpck) gpck_ok 400 (by decide) h
theorem s86_6 {σ : gS} {K : gK} {a b : Int32} (hc : isN σ 6 a ∧ isN σ 6 b ∧ TC σ 6) (hK : K (some (.int (fRise (cR σ 6) a.toNatClampNeg b.toNatClampNeg a.toNatClampNeg))) σ) : gE 86 0 [some (.ref 6), some (.int a), some (.int b), none, none] [] σ K := by
  obtain ⟨ha, hb, hT⟩ := hc
  obtain ⟨r1, t1, f1⟩ := cExS_ok hT ha.2 hb.2
  refine w86_6 ⟨⟨ha, hT⟩, ⟨ha.1, hb.1⟩, ⟨⟨ha.1, by rw [r1, nM_rsw]; exact ha.2⟩, t1⟩, ⟨ha.1, hb.1⟩, ?_⟩
  rw [cExS_bk hT ha.2 hb.2, r1]
  exact hK
set_option maxRecDepth 20000 in
theorem w86_32 {σ : gS} {K : gK} {a b : Int32} (h : (((0 ≤ a ∧ a < 20) ∧ a.toNatClampNeg < nM (cR σ 32)) ∧ TC σ 32) ∧ ((0 ≤ a ∧ a < 20) ∧ (0 ≤ b ∧ b < 20)) ∧ (((0 ≤ a ∧ a < 20) ∧ a.toNatClampNeg < nM (cR (cExS σ 32 a.toNatClampNeg b.toNatClampNeg) 32)) ∧ TC (cExS σ 32 a.toNatClampNeg b.toNatClampNeg) 32) ∧ ((0 ≤ a ∧ a < 20) ∧ (0 ≤ b ∧ b < 20)) ∧ K (some (.int ((fJo (cR (cExS σ 32 a.toNatClampNeg b.toNatClampNeg) 32) a.toNatClampNeg) - (fJo (cR σ 32) a.toNatClampNeg)))) (cExS (cExS σ 32 a.toNatClampNeg b.toNatClampNeg) 32 a.toNatClampNeg b.toNatClampNeg)) : gE 86 0 [some (.ref 32), some (.int a), some (.int b), none, none] [] σ K :=
  gw_run (cy := 86) (cuts := []) (inl := []) (pf := gpck) gpck_ok 400 (by decide) h
theorem s86_32 {σ : gS} {K : gK} {a b : Int32} (hc : isN σ 32 a ∧ isN σ 32 b ∧ TC σ 32) (hK : K (some (.int (fRise (cR σ 32) a.toNatClampNeg b.toNatClampNeg a.toNatClampNeg))) σ) : gE 86 0 [some (.ref 32), some (.int a), some (.int b), none, none] [] σ K := by
  obtain ⟨ha, hb, hT⟩ := hc
  obtain ⟨r1, t1, f1⟩ := cExS_ok hT ha.2 hb.2
  refine w86_32 ⟨⟨ha, hT⟩, ⟨ha.1, hb.1⟩, ⟨⟨ha.1, by rw [r1, nM_rsw]; exact ha.2⟩, t1⟩, ⟨ha.1, hb.1⟩, ?_⟩
  rw [cExS_bk hT ha.2 hb.2, r1]
  exact hK
noncomputable def f86 : gD := fun Lv σ => match Lv with
  | [some (.ref p), some (.int a), some (.int b), none, none] => cond (Nat.beq p 6 || Nat.beq p 32) (some (some (isN σ p a ∧ isN σ p b ∧ TC σ p), some (.int (fRise (cR σ p) a.toNatClampNeg b.toNatClampNeg a.toNatClampNeg)), σ)) none
  | _ => none
theorem ok86 : gFok 86 f86 := by
  intro Lv σ q h hc K hK
  unfold f86 at h
  split at h
  · rename_i p a b
    obtain ⟨hb, h⟩ := c_no h
    have hb0 := hb
    rcases s_or hb0 with hb0 | hb0
    · have e := b_eq hb0
      subst e
      cases h
      exact s86_6 (hc _ rfl) hK
    · have e := b_eq hb0
      subst e
      cases h
      exact s86_32 (hc _ rfl) hK
  · cases h
set_option maxRecDepth 20000 in
theorem w87_6 {σ : gS} {K : gK} {a b : Int32} (h : ((0 ≤ a ∧ a < 20) ∧ (0 ≤ b ∧ b < 20)) ∧ (TC (cExS σ 6 a.toNatClampNeg b.toNatClampNeg) 6) ∧ ((0 ≤ a ∧ a < 20) ∧ (0 ≤ b ∧ b < 20)) ∧ K (some (.int (fJa (cR (cExS σ 6 a.toNatClampNeg b.toNatClampNeg) 6)))) (cExS (cExS σ 6 a.toNatClampNeg b.toNatClampNeg) 6 a.toNatClampNeg b.toNatClampNeg)) : gE 87 0 [some (.ref 6), some (.int a), some (.int b), none] [] σ K :=
  gw_run (cy := 87) (cuts := []) (inl := []) (pf := gpck) gpck_ok 400 (by decide) h
theorem s87_6 {σ : gS} {K : gK} {a b : Int32} (hc : isN σ 6 a ∧ isN σ 6 b ∧ TC σ 6) (hK : K (some (.int (fJa (rsw (cR σ 6) a.toNatClampNeg b.toNatClampNeg)))) σ) : gE 87 0 [some (.ref 6), some (.int a), some (.int b), none] [] σ K := by
  obtain ⟨ha, hb, hT⟩ := hc
  obtain ⟨r1, t1, f1⟩ := cExS_ok hT ha.2 hb.2
  refine w87_6 ⟨⟨ha.1, hb.1⟩, t1, ⟨ha.1, hb.1⟩, ?_⟩
  rw [cExS_bk hT ha.2 hb.2, r1]
  exact hK
set_option maxRecDepth 20000 in
theorem w87_32 {σ : gS} {K : gK} {a b : Int32} (h : ((0 ≤ a ∧ a < 20) ∧ (0 ≤ b ∧ b < 20)) ∧ (TC (cExS σ 32 a.toNatClampNeg b.toNatClampNeg) 32) ∧ ((0 ≤ a ∧ a < 20) ∧ (0 ≤ b ∧ b < 20)) ∧ K (some (.int (fJa (cR (cExS σ 32 a.toNatClampNeg b.toNatClampNeg) 32)))) (cExS (cExS σ 32 a.toNatClampNeg b.toNatClampNeg) 32 a.toNatClampNeg b.toNatClampNeg)) : gE 87 0 [some (.ref 32), some (.int a), some (.int b), none] [] σ K :=
  gw_run (cy := 87) (cuts := []) (inl := []) (pf := gpck) gpck_ok 400 (by decide) h
theorem s87_32 {σ : gS} {K : gK} {a b : Int32} (hc : isN σ 32 a ∧ isN σ 32 b ∧ TC σ 32) (hK : K (some (.int (fJa (rsw (cR σ 32) a.toNatClampNeg b.toNatClampNeg)))) σ) : gE 87 0 [some (.ref 32), some (.int a), some (.int b), none] [] σ K := by
  obtain ⟨ha, hb, hT⟩ := hc
  obtain ⟨r1, t1, f1⟩ := cExS_ok hT ha.2 hb.2
  refine w87_32 ⟨⟨ha.1, hb.1⟩, t1, ⟨ha.1, hb.1⟩, ?_⟩
  rw [cExS_bk hT ha.2 hb.2, r1]
  exact hK
noncomputable def f87 : gD := fun Lv σ => match Lv with
  | [some (.ref p), some (.int a), some (.int b), none] => cond (Nat.beq p 6 || Nat.beq p 32) (some (some (isN σ p a ∧ isN σ p b ∧ TC σ p), some (.int (fJa (rsw (cR σ p) a.toNatClampNeg b.toNatClampNeg))), σ)) none
  | _ => none
theorem ok87 : gFok 87 f87 := by
  intro Lv σ q h hc K hK
  unfold f87 at h
  split at h
  · rename_i p a b
    obtain ⟨hb, h⟩ := c_no h
    have hb0 := hb
    rcases s_or hb0 with hb0 | hb0
    · have e := b_eq hb0
      subst e
      cases h
      exact s87_6 (hc _ rfl) hK
    · have e := b_eq hb0
      subst e
      cases h
      exact s87_32 (hc _ rfl) hK
  · cases h
set_option maxRecDepth 20000 in
theorem w88_6 {σ : gS} {K : gK} {a b x : Int32} (h : (0 ≤ b ∧ b < 20) ∧ gTv (6 + 2 + b.toNatClampNeg) ∧ (0 ≤ a ∧ a < 20) ∧ (((bI (fMay (cR σ 6) a.toNatClampNeg (σ (6 + 2 + b.toNatClampNeg) 1))) = 0 → K (some (.int 1)) σ) ∧ (¬ (bI (fMay (cR σ 6) a.toNatClampNeg (σ (6 + 2 + b.toNatClampNeg) 1))) = 0 → (0 ≤ a ∧ a < 20) ∧ gTv (6 + 2 + a.toNatClampNeg) ∧ (0 ≤ b ∧ b < 20) ∧ ((¬ (bI (fMay (cR σ 6) b.toNatClampNeg (σ (6 + 2 + a.toNatClampNeg) 1))) = 0 → (0 ≤ a ∧ a < 20) ∧ gTv (6 + 2 + a.toNatClampNeg) ∧ ((¬ (σ (6 + 2 + a.toNatClampNeg) 8) < x → (((0 ≤ a ∧ a < 20) ∧ a.toNatClampNeg < nM (cR σ 6)) ∧ TC σ 6) ∧ (((0 ≤ b ∧ b < 20) ∧ b.toNatClampNeg < nM (cR σ 6)) ∧ TC σ 6) ∧ ((0 ≤ a ∧ a < 20) ∧ (0 ≤ b ∧ b < 20)) ∧ (((0 ≤ a ∧ a < 20) ∧ a.toNatClampNeg < nM (cR (cExS σ 6 a.toNatClampNeg b.toNatClampNeg) 6)) ∧ TC (cExS σ 6 a.toNatClampNeg b.toNatClampNeg) 6) ∧ (((0 ≤ b ∧ b < 20) ∧ b.toNatClampNeg < nM (cR (cExS σ 6 a.toNatClampNeg b.toNatClampNeg) 6)) ∧ TC (cExS σ 6 a.toNatClampNeg b.toNatClampNeg) 6) ∧ ((0 ≤ a ∧ a < 20) ∧ (0 ≤ b ∧ b < 20)) ∧ ((¬ ((fJo (cR (cExS σ 6 a.toNatClampNeg b.toNatClampNeg) 6) a.toNatClampNeg) - (fJo (cR σ 6) a.toNatClampNeg)) < x → ((¬ ((fJo (cR (cExS σ 6 a.toNatClampNeg b.toNatClampNeg) 6) b.toNatClampNeg) - (fJo (cR σ 6) b.toNatClampNeg)) < (-x) → K (some (.int 0)) (cExS (cExS σ 6 a.toNatClampNeg b.toNatClampNeg) 6 a.toNatClampNeg b.toNatClampNeg)) ∧ (((fJo (cR (cExS σ 6 a.toNatClampNeg b.toNatClampNeg) 6) b.toNatClampNeg) - (fJo (cR σ 6) b.toNatClampNeg)) < (-x) → K (some (.int 4)) (cExS (cExS σ 6 a.toNatClampNeg b.toNatClampNeg) 6 a.toNatClampNeg b.toNatClampNeg)))) ∧ (((fJo (cR (cExS σ 6 a.toNatClampNeg b.toNatClampNeg) 6) a.toNatClampNeg) - (fJo (cR σ 6) a.toNatClampNeg)) < x → K (some (.int 3)) (cExS (cExS σ 6 a.toNatClampNeg b.toNatClampNeg) 6 a.toNatClampNeg b.toNatClampNeg)))) ∧ ((σ (6 + 2 + a.toNatClampNeg) 8) < x → K (some (.int 2)) σ))) ∧ ((bI (fMay (cR σ 6) b.toNatClampNeg (σ (6 + 2 + a.toNatClampNeg) 1))) = 0 → K (some (.int 1)) σ))))) : gE 88 0 [some (.ref 6), some (.int a), some (.int b), some (.int x), none, none, none, none] [] σ K :=
  gw_run (cy := 88) (cuts := []) (inl := []) (pf := gpck) gpck_ok 400 (by decide) h
theorem s88_6 {σ : gS} {K : gK} {a b x : Int32} (hc : isN σ 6 a ∧ isN σ 6 b ∧ TC σ 6) (hK : K (some (.int (fWhy (cR σ 6) a.toNatClampNeg b.toNatClampNeg x))) σ) : gE 88 0 [some (.ref 6), some (.int a), some (.int b), some (.int x), none, none, none, none] [] σ K := by
  obtain ⟨ha, hb, hT⟩ := hc
  obtain ⟨r1, t1, f1⟩ := cExS_ok hT ha.2 hb.2
  have tva := tv_6 _ (n20 ha.1)
  have tvb := tv_6 _ (n20 hb.1)
  have ea := cR_f (σ := σ) (p := 6) (t := a.toNatClampNeg) (f := 0) (n20 ha.1) (by decide)
  have eb := cR_f (σ := σ) (p := 6) (t := b.toNatClampNeg) (f := 0) (n20 hb.1) (by decide)
  have e7 := cR_f (σ := σ) (p := 6) (t := a.toNatClampNeg) (f := 7) (n20 ha.1) (by decide)
  have na := ha.1
  have nb := hb.1
  have c1 : isN (cExS σ 6 a.toNatClampNeg b.toNatClampNeg) 6 a := ⟨ha.1, by rw [r1, nM_rsw]; exact ha.2⟩
  have c2 : isN (cExS σ 6 a.toNatClampNeg b.toNatClampNeg) 6 b := ⟨hb.1, by rw [r1, nM_rsw]; exact hb.2⟩
  unfold fWhy fRise at hK
  rw [ea, eb, e7, ← r1] at hK
  refine w88_6 ?_
  rw [cExS_bk hT ha.2 hb.2]
  simp only [bI_0]
  grind
set_option maxRecDepth 20000 in
theorem w88_32 {σ : gS} {K : gK} {a b x : Int32} (h : (0 ≤ b ∧ b < 20) ∧ gTv (32 + 2 + b.toNatClampNeg) ∧ (0 ≤ a ∧ a < 20) ∧ (((bI (fMay (cR σ 32) a.toNatClampNeg (σ (32 + 2 + b.toNatClampNeg) 1))) = 0 → K (some (.int 1)) σ) ∧ (¬ (bI (fMay (cR σ 32) a.toNatClampNeg (σ (32 + 2 + b.toNatClampNeg) 1))) = 0 → (0 ≤ a ∧ a < 20) ∧ gTv (32 + 2 + a.toNatClampNeg) ∧ (0 ≤ b ∧ b < 20) ∧ ((¬ (bI (fMay (cR σ 32) b.toNatClampNeg (σ (32 + 2 + a.toNatClampNeg) 1))) = 0 → (0 ≤ a ∧ a < 20) ∧ gTv (32 + 2 + a.toNatClampNeg) ∧ ((¬ (σ (32 + 2 + a.toNatClampNeg) 8) < x → (((0 ≤ a ∧ a < 20) ∧ a.toNatClampNeg < nM (cR σ 32)) ∧ TC σ 32) ∧ (((0 ≤ b ∧ b < 20) ∧ b.toNatClampNeg < nM (cR σ 32)) ∧ TC σ 32) ∧ ((0 ≤ a ∧ a < 20) ∧ (0 ≤ b ∧ b < 20)) ∧ (((0 ≤ a ∧ a < 20) ∧ a.toNatClampNeg < nM (cR (cExS σ 32 a.toNatClampNeg b.toNatClampNeg) 32)) ∧ TC (cExS σ 32 a.toNatClampNeg b.toNatClampNeg) 32) ∧ (((0 ≤ b ∧ b < 20) ∧ b.toNatClampNeg < nM (cR (cExS σ 32 a.toNatClampNeg b.toNatClampNeg) 32)) ∧ TC (cExS σ 32 a.toNatClampNeg b.toNatClampNeg) 32) ∧ ((0 ≤ a ∧ a < 20) ∧ (0 ≤ b ∧ b < 20)) ∧ ((¬ ((fJo (cR (cExS σ 32 a.toNatClampNeg b.toNatClampNeg) 32) a.toNatClampNeg) - (fJo (cR σ 32) a.toNatClampNeg)) < x → ((¬ ((fJo (cR (cExS σ 32 a.toNatClampNeg b.toNatClampNeg) 32) b.toNatClampNeg) - (fJo (cR σ 32) b.toNatClampNeg)) < (-x) → K (some (.int 0)) (cExS (cExS σ 32 a.toNatClampNeg b.toNatClampNeg) 32 a.toNatClampNeg b.toNatClampNeg)) ∧ (((fJo (cR (cExS σ 32 a.toNatClampNeg b.toNatClampNeg) 32) b.toNatClampNeg) - (fJo (cR σ 32) b.toNatClampNeg)) < (-x) → K (some (.int 4)) (cExS (cExS σ 32 a.toNatClampNeg b.toNatClampNeg) 32 a.toNatClampNeg b.toNatClampNeg)))) ∧ (((fJo (cR (cExS σ 32 a.toNatClampNeg b.toNatClampNeg) 32) a.toNatClampNeg) - (fJo (cR σ 32) a.toNatClampNeg)) < x → K (some (.int 3)) (cExS (cExS σ 32 a.toNatClampNeg b.toNatClampNeg) 32 a.toNatClampNeg b.toNatClampNeg)))) ∧ ((σ (32 + 2 + a.toNatClampNeg) 8) < x → K (some (.int 2)) σ))) ∧ ((bI (fMay (cR σ 32) b.toNatClampNeg (σ (32 + 2 + a.toNatClampNeg) 1))) = 0 → K (some (.int 1)) σ))))) : gE 88 0 [some (.ref 32), some (.int a), some (.int b), some (.int x), none, none, none, none] [] σ K :=
  gw_run (cy := 88) (cuts := []) (inl := []) (pf := gpck) gpck_ok 400 (by decide) h
theorem s88_32 {σ : gS} {K : gK} {a b x : Int32} (hc : isN σ 32 a ∧ isN σ 32 b ∧ TC σ 32) (hK : K (some (.int (fWhy (cR σ 32) a.toNatClampNeg b.toNatClampNeg x))) σ) : gE 88 0 [some (.ref 32), some (.int a), some (.int b), some (.int x), none, none, none, none] [] σ K := by
  obtain ⟨ha, hb, hT⟩ := hc
  obtain ⟨r1, t1, f1⟩ := cExS_ok hT ha.2 hb.2
  have tva := tv_32 _ (n20 ha.1)
  have tvb := tv_32 _ (n20 hb.1)
  have ea := cR_f (σ := σ) (p := 32) (t := a.toNatClampNeg) (f := 0) (n20 ha.1) (by decide)
  have eb := cR_f (σ := σ) (p := 32) (t := b.toNatClampNeg) (f := 0) (n20 hb.1) (by decide)
  have e7 := cR_f (σ := σ) (p := 32) (t := a.toNatClampNeg) (f := 7) (n20 ha.1) (by decide)
  have na := ha.1
  have nb := hb.1
  have c1 : isN (cExS σ 32 a.toNatClampNeg b.toNatClampNeg) 32 a := ⟨ha.1, by rw [r1, nM_rsw]; exact ha.2⟩
  have c2 : isN (cExS σ 32 a.toNatClampNeg b.toNatClampNeg) 32 b := ⟨hb.1, by rw [r1, nM_rsw]; exact hb.2⟩
  unfold fWhy fRise at hK
  rw [ea, eb, e7, ← r1] at hK
  refine w88_32 ?_
  rw [cExS_bk hT ha.2 hb.2]
  simp only [bI_0]
  grind
noncomputable def f88 : gD := fun Lv σ => match Lv with
  | [some (.ref p), some (.int a), some (.int b), some (.int x), none, none, none, none] => cond (Nat.beq p 6 || Nat.beq p 32) (some (some (isN σ p a ∧ isN σ p b ∧ TC σ p), some (.int (fWhy (cR σ p) a.toNatClampNeg b.toNatClampNeg x)), σ)) none
  | _ => none
theorem ok88 : gFok 88 f88 := by
  intro Lv σ q h hc K hK
  unfold f88 at h
  split at h
  · rename_i p a b x
    obtain ⟨hb, h⟩ := c_no h
    have hb0 := hb
    rcases s_or hb0 with hb0 | hb0
    · have e := b_eq hb0
      subst e
      cases h
      exact s88_6 (hc _ rfl) hK
    · have e := b_eq hb0
      subst e
      cases h
      exact s88_32 (hc _ rfl) hK
  · cases h
set_option maxRecDepth 20000 in
theorem w90_6 {σ : gS} {K : gK} {t x : Int32} (h : (0 ≤ σ 6 7 ∧ σ 6 7 ≤ 20) ∧ ((¬ (bI (fWho (cR σ 6) x = -2)) = 0 → (0 ≤ t ∧ t < 20) ∧ ((¬ (bI (fMay (cR σ 6) t.toNatClampNeg x)) = 0 → (((0 ≤ t ∧ t < 20) ∧ t.toNatClampNeg < nM (cR σ 6)) ∧ (0 ≤ x ∧ x < 40) ∧ TC σ 6) ∧ (((0 ≤ t ∧ t < 20) ∧ t.toNatClampNeg < nM (cR σ 6)) ∧ TC σ 6) ∧ ((¬ (fJoy (cR σ 6) t.toNatClampNeg x) < (fJo (cR σ 6) t.toNatClampNeg) → K (some (.int 0)) σ) ∧ ((fJoy (cR σ 6) t.toNatClampNeg x) < (fJo (cR σ 6) t.toNatClampNeg) → K (some (.int 6)) σ))) ∧ ((bI (fMay (cR σ 6) t.toNatClampNeg x)) = 0 → K (some (.int 1)) σ))) ∧ ((bI (fWho (cR σ 6) x = -2)) = 0 → K (some (.int 5)) σ))) : gE 90 0 [some (.ref 6), some (.int t), some (.int x)] [] σ K :=
  gw_run (cy := 90) (cuts := []) (inl := []) (pf := gpck) gpck_ok 400 (by decide) h
theorem s90_6 {σ : gS} {K : gK} {t x : Int32} (hc : isN σ 6 t ∧ (0 ≤ x ∧ x < 40) ∧ TC σ 6) (hK : K (some (.int (fWhyM (cR σ 6) t.toNatClampNeg x))) σ) : gE 90 0 [some (.ref 6), some (.int t), some (.int x)] [] σ K := by
  obtain ⟨ht, hx, hT⟩ := hc
  have h3 := hT.1
  have h7 : 0 ≤ σ 6 7 ∧ σ 6 7 ≤ 20 := by rw [← cR_3 σ 6]; exact h3
  have hw := fWho_c (cR σ 6) x h3
  unfold fWhyM at hK
  refine w90_6 ?_
  simp only [bI_0]
  grind
set_option maxRecDepth 20000 in
theorem w90_32 {σ : gS} {K : gK} {t x : Int32} (h : (0 ≤ σ 32 7 ∧ σ 32 7 ≤ 20) ∧ ((¬ (bI (fWho (cR σ 32) x = -2)) = 0 → (0 ≤ t ∧ t < 20) ∧ ((¬ (bI (fMay (cR σ 32) t.toNatClampNeg x)) = 0 → (((0 ≤ t ∧ t < 20) ∧ t.toNatClampNeg < nM (cR σ 32)) ∧ (0 ≤ x ∧ x < 40) ∧ TC σ 32) ∧ (((0 ≤ t ∧ t < 20) ∧ t.toNatClampNeg < nM (cR σ 32)) ∧ TC σ 32) ∧ ((¬ (fJoy (cR σ 32) t.toNatClampNeg x) < (fJo (cR σ 32) t.toNatClampNeg) → K (some (.int 0)) σ) ∧ ((fJoy (cR σ 32) t.toNatClampNeg x) < (fJo (cR σ 32) t.toNatClampNeg) → K (some (.int 6)) σ))) ∧ ((bI (fMay (cR σ 32) t.toNatClampNeg x)) = 0 → K (some (.int 1)) σ))) ∧ ((bI (fWho (cR σ 32) x = -2)) = 0 → K (some (.int 5)) σ))) : gE 90 0 [some (.ref 32), some (.int t), some (.int x)] [] σ K :=
  gw_run (cy := 90) (cuts := []) (inl := []) (pf := gpck) gpck_ok 400 (by decide) h
theorem s90_32 {σ : gS} {K : gK} {t x : Int32} (hc : isN σ 32 t ∧ (0 ≤ x ∧ x < 40) ∧ TC σ 32) (hK : K (some (.int (fWhyM (cR σ 32) t.toNatClampNeg x))) σ) : gE 90 0 [some (.ref 32), some (.int t), some (.int x)] [] σ K := by
  obtain ⟨ht, hx, hT⟩ := hc
  have h3 := hT.1
  have h7 : 0 ≤ σ 32 7 ∧ σ 32 7 ≤ 20 := by rw [← cR_3 σ 32]; exact h3
  have hw := fWho_c (cR σ 32) x h3
  unfold fWhyM at hK
  refine w90_32 ?_
  simp only [bI_0]
  grind
noncomputable def f90 : gD := fun Lv σ => match Lv with
  | [some (.ref p), some (.int t), some (.int x)] => cond (Nat.beq p 6 || Nat.beq p 32) (some (some (isN σ p t ∧ (0 ≤ x ∧ x < 40) ∧ TC σ p), some (.int (fWhyM (cR σ p) t.toNatClampNeg x)), σ)) none
  | _ => none
theorem ok90 : gFok 90 f90 := by
  intro Lv σ q h hc K hK
  unfold f90 at h
  split at h
  · rename_i p t x
    obtain ⟨hb, h⟩ := c_no h
    have hb0 := hb
    rcases s_or hb0 with hb0 | hb0
    · have e := b_eq hb0
      subst e
      cases h
      exact s90_6 (hc _ rfl) hK
    · have e := b_eq hb0
      subst e
      cases h
      exact s90_32 (hc _ rfl) hK
  · cases h
set_option maxRecDepth 20000 in
theorem w93_6 {σ : gS} {K : gK} {a b c : Int32} (h : (((0 ≤ a ∧ a < 20) ∧ a.toNatClampNeg < nM (cR σ 6)) ∧ TC σ 6) ∧ (((0 ≤ b ∧ b < 20) ∧ b.toNatClampNeg < nM (cR σ 6)) ∧ TC σ 6) ∧ (((0 ≤ c ∧ c < 20) ∧ c.toNatClampNeg < nM (cR σ 6)) ∧ TC σ 6) ∧ ((0 ≤ a ∧ a < 20) ∧ (0 ≤ b ∧ b < 20) ∧ (0 ≤ c ∧ c < 20)) ∧ (((0 ≤ a ∧ a < 20) ∧ a.toNatClampNeg < nM (cR (cPas σ 6 a.toNatClampNeg b.toNatClampNeg c.toNatClampNeg) 6)) ∧ TC (cPas σ 6 a.toNatClampNeg b.toNatClampNeg c.toNatClampNeg) 6) ∧ (((0 ≤ b ∧ b < 20) ∧ b.toNatClampNeg < nM (cR (cPas σ 6 a.toNatClampNeg b.toNatClampNeg c.toNatClampNeg) 6)) ∧ TC (cPas σ 6 a.toNatClampNeg b.toNatClampNeg c.toNatClampNeg) 6) ∧ (((0 ≤ c ∧ c < 20) ∧ c.toNatClampNeg < nM (cR (cPas σ 6 a.toNatClampNeg b.toNatClampNeg c.toNatClampNeg) 6)) ∧ TC (cPas σ 6 a.toNatClampNeg b.toNatClampNeg c.toNatClampNeg) 6) ∧ ((0 ≤ c ∧ c < 20) ∧ (0 ≤ b ∧ b < 20) ∧ (0 ≤ a ∧ a < 20)) ∧ K (some (.int ((((fJo (cR (cPas σ 6 a.toNatClampNeg b.toNatClampNeg c.toNatClampNeg) 6) a.toNatClampNeg) + (fJo (cR (cPas σ 6 a.toNatClampNeg b.toNatClampNeg c.toNatClampNeg) 6) b.toNatClampNeg)) + (fJo (cR (cPas σ 6 a.toNatClampNeg b.toNatClampNeg c.toNatClampNeg) 6) c.toNatClampNeg)) - (((fJo (cR σ 6) a.toNatClampNeg) + (fJo (cR σ 6) b.toNatClampNeg)) + (fJo (cR σ 6) c.toNatClampNeg))))) (cPas (cPas σ 6 a.toNatClampNeg b.toNatClampNeg c.toNatClampNeg) 6 c.toNatClampNeg b.toNatClampNeg a.toNatClampNeg)) : gE 93 0 [some (.ref 6), some (.int a), some (.int b), some (.int c), none, none] [] σ K :=
  gw_run (cy := 93) (cuts := []) (inl := []) (pf := gpck) gpck_ok 400 (by decide) h
theorem s93_6 {σ : gS} {K : gK} {a b c : Int32} (hc : (isN σ 6 a ∧ isN σ 6 b ∧ isN σ 6 c) ∧ (a.toNatClampNeg ≠ b.toNatClampNeg ∧ b.toNatClampNeg ≠ c.toNatClampNeg ∧ a.toNatClampNeg ≠ c.toNatClampNeg) ∧ TC σ 6) (hK : K (some (.int (fROR (cR σ 6) a.toNatClampNeg b.toNatClampNeg c.toNatClampNeg))) σ) : gE 93 0 [some (.ref 6), some (.int a), some (.int b), some (.int c), none, none] [] σ K := by
  obtain ⟨⟨ha, hb, hcc⟩, hd, hT⟩ := hc
  obtain ⟨r1, t1, f1⟩ := cPas_ok hT ha.2 hb.2 hcc.2 hd
  have c1 : isN (cPas σ 6 a.toNatClampNeg b.toNatClampNeg c.toNatClampNeg) 6 a := ⟨ha.1, by rw [r1, nM_rtu hd]; exact ha.2⟩
  have c2 : isN (cPas σ 6 a.toNatClampNeg b.toNatClampNeg c.toNatClampNeg) 6 b := ⟨hb.1, by rw [r1, nM_rtu hd]; exact hb.2⟩
  have c3 : isN (cPas σ 6 a.toNatClampNeg b.toNatClampNeg c.toNatClampNeg) 6 c := ⟨hcc.1, by rw [r1, nM_rtu hd]; exact hcc.2⟩
  refine w93_6 ⟨⟨ha, hT⟩, ⟨hb, hT⟩, ⟨hcc, hT⟩, ⟨ha.1, hb.1, hcc.1⟩, ⟨c1, t1⟩, ⟨c2, t1⟩, ⟨c3, t1⟩, ⟨hcc.1, hb.1, ha.1⟩, ?_⟩
  rw [cPas_bk hT ha.2 hb.2 hcc.2 hd, r1]
  have e : fROR (cR σ 6) a.toNatClampNeg b.toNatClampNeg c.toNatClampNeg = fJo (rtu (cR σ 6) a.toNatClampNeg b.toNatClampNeg c.toNatClampNeg) a.toNatClampNeg + fJo (rtu (cR σ 6) a.toNatClampNeg b.toNatClampNeg c.toNatClampNeg) b.toNatClampNeg + fJo (rtu (cR σ 6) a.toNatClampNeg b.toNatClampNeg c.toNatClampNeg) c.toNatClampNeg - (fJo (cR σ 6) a.toNatClampNeg + fJo (cR σ 6) b.toNatClampNeg + fJo (cR σ 6) c.toNatClampNeg) := by
    unfold fROR fRR
    grind
  rw [e] at hK
  exact hK
set_option maxRecDepth 20000 in
theorem w93_32 {σ : gS} {K : gK} {a b c : Int32} (h : (((0 ≤ a ∧ a < 20) ∧ a.toNatClampNeg < nM (cR σ 32)) ∧ TC σ 32) ∧ (((0 ≤ b ∧ b < 20) ∧ b.toNatClampNeg < nM (cR σ 32)) ∧ TC σ 32) ∧ (((0 ≤ c ∧ c < 20) ∧ c.toNatClampNeg < nM (cR σ 32)) ∧ TC σ 32) ∧ ((0 ≤ a ∧ a < 20) ∧ (0 ≤ b ∧ b < 20) ∧ (0 ≤ c ∧ c < 20)) ∧ (((0 ≤ a ∧ a < 20) ∧ a.toNatClampNeg < nM (cR (cPas σ 32 a.toNatClampNeg b.toNatClampNeg c.toNatClampNeg) 32)) ∧ TC (cPas σ 32 a.toNatClampNeg b.toNatClampNeg c.toNatClampNeg) 32) ∧ (((0 ≤ b ∧ b < 20) ∧ b.toNatClampNeg < nM (cR (cPas σ 32 a.toNatClampNeg b.toNatClampNeg c.toNatClampNeg) 32)) ∧ TC (cPas σ 32 a.toNatClampNeg b.toNatClampNeg c.toNatClampNeg) 32) ∧ (((0 ≤ c ∧ c < 20) ∧ c.toNatClampNeg < nM (cR (cPas σ 32 a.toNatClampNeg b.toNatClampNeg c.toNatClampNeg) 32)) ∧ TC (cPas σ 32 a.toNatClampNeg b.toNatClampNeg c.toNatClampNeg) 32) ∧ ((0 ≤ c ∧ c < 20) ∧ (0 ≤ b ∧ b < 20) ∧ (0 ≤ a ∧ a < 20)) ∧ K (some (.int ((((fJo (cR (cPas σ 32 a.toNatClampNeg b.toNatClampNeg c.toNatClampNeg) 32) a.toNatClampNeg) + (fJo (cR (cPas σ 32 a.toNatClampNeg b.toNatClampNeg c.toNatClampNeg) 32) b.toNatClampNeg)) + (fJo (cR (cPas σ 32 a.toNatClampNeg b.toNatClampNeg c.toNatClampNeg) 32) c.toNatClampNeg)) - (((fJo (cR σ 32) a.toNatClampNeg) + (fJo (cR σ 32) b.toNatClampNeg)) + (fJo (cR σ 32) c.toNatClampNeg))))) (cPas (cPas σ 32 a.toNatClampNeg b.toNatClampNeg c.toNatClampNeg) 32 c.toNatClampNeg b.toNatClampNeg a.toNatClampNeg)) : gE 93 0 [some (.ref 32), some (.int a), some (.int b), some (.int c), none, none] [] σ K :=
  gw_run (cy := 93) (cuts := []) (inl := []) (pf := gpck) gpck_ok 400 (by decide) h
theorem s93_32 {σ : gS} {K : gK} {a b c : Int32} (hc : (isN σ 32 a ∧ isN σ 32 b ∧ isN σ 32 c) ∧ (a.toNatClampNeg ≠ b.toNatClampNeg ∧ b.toNatClampNeg ≠ c.toNatClampNeg ∧ a.toNatClampNeg ≠ c.toNatClampNeg) ∧ TC σ 32) (hK : K (some (.int (fROR (cR σ 32) a.toNatClampNeg b.toNatClampNeg c.toNatClampNeg))) σ) : gE 93 0 [some (.ref 32), some (.int a), some (.int b), some (.int c), none, none] [] σ K := by
  obtain ⟨⟨ha, hb, hcc⟩, hd, hT⟩ := hc
  obtain ⟨r1, t1, f1⟩ := cPas_ok hT ha.2 hb.2 hcc.2 hd
  have c1 : isN (cPas σ 32 a.toNatClampNeg b.toNatClampNeg c.toNatClampNeg) 32 a := ⟨ha.1, by rw [r1, nM_rtu hd]; exact ha.2⟩
  have c2 : isN (cPas σ 32 a.toNatClampNeg b.toNatClampNeg c.toNatClampNeg) 32 b := ⟨hb.1, by rw [r1, nM_rtu hd]; exact hb.2⟩
  have c3 : isN (cPas σ 32 a.toNatClampNeg b.toNatClampNeg c.toNatClampNeg) 32 c := ⟨hcc.1, by rw [r1, nM_rtu hd]; exact hcc.2⟩
  refine w93_32 ⟨⟨ha, hT⟩, ⟨hb, hT⟩, ⟨hcc, hT⟩, ⟨ha.1, hb.1, hcc.1⟩, ⟨c1, t1⟩, ⟨c2, t1⟩, ⟨c3, t1⟩, ⟨hcc.1, hb.1, ha.1⟩, ?_⟩
  rw [cPas_bk hT ha.2 hb.2 hcc.2 hd, r1]
  have e : fROR (cR σ 32) a.toNatClampNeg b.toNatClampNeg c.toNatClampNeg = fJo (rtu (cR σ 32) a.toNatClampNeg b.toNatClampNeg c.toNatClampNeg) a.toNatClampNeg + fJo (rtu (cR σ 32) a.toNatClampNeg b.toNatClampNeg c.toNatClampNeg) b.toNatClampNeg + fJo (rtu (cR σ 32) a.toNatClampNeg b.toNatClampNeg c.toNatClampNeg) c.toNatClampNeg - (fJo (cR σ 32) a.toNatClampNeg + fJo (cR σ 32) b.toNatClampNeg + fJo (cR σ 32) c.toNatClampNeg) := by
    unfold fROR fRR
    grind
  rw [e] at hK
  exact hK
noncomputable def f93 : gD := fun Lv σ => match Lv with
  | [some (.ref p), some (.int a), some (.int b), some (.int c), none, none] => cond (Nat.beq p 6 || Nat.beq p 32) (some (some ((isN σ p a ∧ isN σ p b ∧ isN σ p c) ∧ (a.toNatClampNeg ≠ b.toNatClampNeg ∧ b.toNatClampNeg ≠ c.toNatClampNeg ∧ a.toNatClampNeg ≠ c.toNatClampNeg) ∧ TC σ p), some (.int (fROR (cR σ p) a.toNatClampNeg b.toNatClampNeg c.toNatClampNeg)), σ)) none
  | _ => none
theorem ok93 : gFok 93 f93 := by
  intro Lv σ q h hc K hK
  unfold f93 at h
  split at h
  · rename_i p a b c
    obtain ⟨hb, h⟩ := c_no h
    have hb0 := hb
    rcases s_or hb0 with hb0 | hb0
    · have e := b_eq hb0
      subst e
      cases h
      exact s93_6 (hc _ rfl) hK
    · have e := b_eq hb0
      subst e
      cases h
      exact s93_32 (hc _ rfl) hK
  · cases h
