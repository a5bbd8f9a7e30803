-- text 53
/-! THE CLASS: the name on the tape, a new traveller -/
/-- a traveller as it begins -/
def cZr (σ : gS) (w : Nat) : gS := fun q j => if q = w ∧ j < 9 then 0 else if q = w ∧ j = 9 then 99 else σ q j
def cAdm (σ : gS) (p w : Nat) : gS := gup (cCnt (cTv σ (p + 2 + (σ p 7).toNatClampNeg) w) p w 1) p 7 (σ p 7 + 1)
theorem cBeg_ne {σ : gS} {q : Nat} (h : ¬ q = 1) : cBeg σ q = σ q := by
  funext j
  unfold cBeg cTok cTk4
  rw [gup_ne (by omega), gup_ne (by omega), gup_ne (by omega), gup_ne (by omega), gup_ne (by omega)]
theorem cBeg_1 {σ : gS} : cBeg σ 1 2 = iN (tkS (σ 3) (σ 2 1).toNatClampNeg 0) ∧ cBeg σ 1 3 = iN (tkE (σ 3) (σ 2 1).toNatClampNeg 0) ∧ cBeg σ 1 4 = tkK (σ 3) (σ 2 1).toNatClampNeg 0 := by
  have e2 : gup (gup σ 1 5 0) 1 3 0 2 1 = σ 2 1 := by rw [gup_ne (by omega), gup_ne (by omega)]
  have e3 : gup (gup σ 1 5 0) 1 3 0 3 = σ 3 := funext fun j => by rw [gup_ne (by omega), gup_ne (by omega)]
  have e1 : (gup (gup σ 1 5 0) 1 3 0 1 3).toNatClampNeg = 0 := by rw [gup_at]; rfl
  unfold cBeg cTok
  rw [e1, e2, e3]
  unfold cTk4
  refine ⟨?_, gup_at _ _ _, ?_⟩
  · rw [gup_ne (by omega), gup_ne (by omega), gup_at]
  · rw [gup_ne (by omega), gup_at]
theorem tkS_b {T : gW} {L n : Nat} (h : n ≤ L) : n ≤ tkS T L n ∧ tkS T L n ≤ L := by
  have := skp_b (P := fun i => decide (cKd (T i) = 1)) (d := L - n) (s := n)
  unfold tkS
  omega
theorem tkE_b {T : gW} {L n : Nat} (h : n ≤ L) : tkS T L n < tkE T L n ∧ tkE T L n ≤ L + 1 := by
  have h1 := tkS_b (T := T) h
  have := skp_b (P := fun i => decide (cKd (T i) = tkK T L n)) (d := L - (tkS T L n + 1)) (s := tkS T L n + 1)
  unfold tkE
  split <;> omega
theorem cBeg_RW {σ : gS} (h : 0 ≤ σ 2 1 ∧ σ 2 1 ≤ 1000) : RW (cBeg σ) ∧ (0 ≤ (cBeg σ) 1 3 ∧ (cBeg σ) 1 3 ≤ 1001) := by
  obtain ⟨e, l⟩ := l1000 h
  have b1 := tkS_b (T := σ 3) (L := (σ 2 1).toNatClampNeg) (n := 0) (by omega)
  have b2 := tkE_b (T := σ 3) (L := (σ 2 1).toNatClampNeg) (n := 0) (by omega)
  obtain ⟨c1, c2, c3⟩ := cBeg_1 (σ := σ)
  unfold RW
  rw [c1, c2, cBeg_ne (by decide)]
  exact ⟨⟨h, ⟨(iN_le (k := 0) (by decide) (by omega)).mpr (by omega), (iN_le (m := 1000) (by omega) (by decide)).mpr (by omega)⟩⟩, ⟨(iN_le (k := 0) (by decide) (by omega)).mpr (by omega), (iN_le (m := 1001) (by omega) (by decide)).mpr (by omega)⟩⟩
abbrev cTN (σ : gS) : Prop := cBeg σ 1 2 = 0 ∧ cBeg σ 1 3 = cBeg σ 2 1 ∧ cNm (cBeg σ)
def cNam (σ : gS) : Int32 := cPk (cBeg σ 3) (cBeg σ 2 1).toNatClampNeg (cBeg σ 1 2).toNatClampNeg (min ((cBeg σ 1 3).toNatClampNeg - (cBeg σ 1 2).toNatClampNeg) 5)
set_option maxRecDepth 20000 in
theorem w102 {σ : gS} {K : gK} {w : Nat} (h : gTv w ∧ gTv w ∧ gTv w ∧ gTv w ∧ gTv w ∧ gTv w ∧ gTv w ∧ gTv w ∧ gTv w ∧ gTv w ∧ K none (gup (gup (gup (gup (gup (gup (gup (gup (gup (gup σ w 0 0) w 1 0) w 2 0) w 3 0) w 4 0) w 5 0) w 6 0) w 7 0) w 8 0) w 9 99)) : gE 102 0 [some (.ref w)] [] σ K :=
  gw_run (cy := 102) (cuts := []) (inl := []) (pf := gpdk) gpdk_ok 400 (by decide) h
theorem s102 {σ : gS} {K : gK} {w : Nat} (hc : gTv w) (hK : K none (cZr σ w)) : gE 102 0 [some (.ref w)] [] σ K := by
  refine w102 ⟨hc, hc, hc, hc, hc, hc, hc, hc, hc, hc, ?_⟩
  have e : gup (gup (gup (gup (gup (gup (gup (gup (gup (gup σ w 0 0) w 1 0) w 2 0) w 3 0) w 4 0) w 5 0) w 6 0) w 7 0) w 8 0) w 9 99 = cZr σ w := by
    funext q j
    unfold gup cZr
    grind (splits := 40)
  rw [e]
  exact hK
noncomputable def f102 : gD := fun Lv σ => match Lv with
  | [some (.ref w)] => some (some (gTv w), none, cZr σ w)
  | _ => none
theorem ok102 : gFok 102 f102 := by
  intro Lv σ q h hc K hK
  unfold f102 at h
  split at h
  · rename_i w
    cases h
    exact s102 (hc _ rfl) hK
  · cases h
set_option maxRecDepth 20000 in
theorem w62_6 {σ : gS} {K : gK} {w : Nat} (h : (((σ 6 7) < 20 → (0 ≤ (σ 6 7) ∧ (σ 6 7) < 20) ∧ gTv (6 + 2 + (σ 6 7).toNatClampNeg) ∧ (gTv (6 + 2 + (σ 6 7).toNatClampNeg) ∧ gTv w) ∧ (gTv w) ∧ K none (gup (cCnt (cTv σ (6 + 2 + (σ 6 7).toNatClampNeg) w) 6 w (1 : Int32)) 6 7 (((cCnt (cTv σ (6 + 2 + (σ 6 7).toNatClampNeg) w) 6 w (1 : Int32)) 6 7) + 1))) ∧ (¬ (σ 6 7) < 20 → K none σ))) : gE 62 0 [some (.ref 6), some (.ref w)] [] σ K :=
  gw_run (cy := 62) (cuts := []) (inl := []) (pf := gpdk) gpdk_ok 400 (by decide) h
theorem s62_6 {σ : gS} {K : gK} {w : Nat} (hc : (0 ≤ σ 6 7 ∧ σ 6 7 < 20) ∧ gTv w) (hK : K none (cAdm σ 6 w)) : gE 62 0 [some (.ref 6), some (.ref w)] [] σ K := by
  obtain ⟨h7, hw⟩ := hc
  have tv := tv_6 _ (n20 h7)
  have ln := n20 h7
  have e : cCnt (cTv σ (6 + 2 + (σ 6 7).toNatClampNeg) w) 6 w 1 6 7 = σ 6 7 := by
    rw [cCnt_off (by omega)]
    show (if 6 = 6 + 2 + (σ 6 7).toNatClampNeg ∧ 7 < 10 then _ else _) = _
    rw [if_neg (by omega)]
  refine w62_6 ⟨fun _ => ⟨h7, tv, ⟨tv, hw⟩, hw, ?_⟩, fun h => absurd h7.2 h⟩
  rw [e]
  exact hK
set_option maxRecDepth 20000 in
theorem w62_32 {σ : gS} {K : gK} {w : Nat} (h : (((σ 32 7) < 20 → (0 ≤ (σ 32 7) ∧ (σ 32 7) < 20) ∧ gTv (32 + 2 + (σ 32 7).toNatClampNeg) ∧ (gTv (32 + 2 + (σ 32 7).toNatClampNeg) ∧ gTv w) ∧ (gTv w) ∧ K none (gup (cCnt (cTv σ (32 + 2 + (σ 32 7).toNatClampNeg) w) 32 w (1 : Int32)) 32 7 (((cCnt (cTv σ (32 + 2 + (σ 32 7).toNatClampNeg) w) 32 w (1 : Int32)) 32 7) + 1))) ∧ (¬ (σ 32 7) < 20 → K none σ))) : gE 62 0 [some (.ref 32), some (.ref w)] [] σ K :=
  gw_run (cy := 62) (cuts := []) (inl := []) (pf := gpdk) gpdk_ok 400 (by decide) h
theorem s62_32 {σ : gS} {K : gK} {w : Nat} (hc : (0 ≤ σ 32 7 ∧ σ 32 7 < 20) ∧ gTv w) (hK : K none (cAdm σ 32 w)) : gE 62 0 [some (.ref 32), some (.ref w)] [] σ K := by
  obtain ⟨h7, hw⟩ := hc
  have tv := tv_32 _ (n20 h7)
  have ln := n20 h7
  have e : cCnt (cTv σ (32 + 2 + (σ 32 7).toNatClampNeg) w) 32 w 1 32 7 = σ 32 7 := by
    rw [cCnt_off (by omega)]
    show (if 32 = 32 + 2 + (σ 32 7).toNatClampNeg ∧ 7 < 10 then _ else _) = _
    rw [if_neg (by omega)]
  refine w62_32 ⟨fun _ => ⟨h7, tv, ⟨tv, hw⟩, hw, ?_⟩, fun h => absurd h7.2 h⟩
  rw [e]
  exact hK
noncomputable def f62 : gD := fun Lv σ => match Lv with
  | [some (.ref p), some (.ref w)] => cond (Nat.beq p 6 || Nat.beq p 32) (some (some ((0 ≤ σ p 7 ∧ σ p 7 < 20) ∧ gTv w), none, cAdm σ p w)) none
  | _ => none
theorem ok62 : gFok 62 f62 := by
  intro Lv σ q h hc K hK
  unfold f62 at h
  split at h
  · rename_i p w
    obtain ⟨hb, h⟩ := c_no h
    have hb0 := hb
    rcases s_or hb0 with hb0 | hb0
    · have e := b_eq hb0
      subst e
      cases h
      exact s62_6 (hc _ rfl) hK
    · have e := b_eq hb0
      subst e
      cases h
      exact s62_32 (hc _ rfl) hK
  · cases h
noncomputable def f14V (cBegV : gS → gS) : gD := fun Lv σ => match Lv with
  | [some (.ref q0)] => cond (Nat.beq q0 1) (some (some (0 ≤ σ 2 1 ∧ σ 2 1 ≤ 1000), none, cBegV σ)) none
  | _ => none
noncomputable def gpdkV (cBegV : gS → gS) : gP := gpl0 ((14, f14V cBegV) :: (19, f19) :: [])
set_option maxRecDepth 20000 in
theorem w29_V {cBegV : gS → gS} (hp : gPok (gpdkV cBegV)) {σ : gS} {K : gK} (h : (0 ≤ σ 2 1 ∧ σ 2 1 ≤ 1000) ∧ ((¬ ((cBegV σ) 1 2) = 0 → ((0 : Int32) = 0 ∨ (0 : Int32) = 1) ∧ K (some (.int 0)) (cBegV σ)) ∧ (((cBegV σ) 1 2) = 0 → ((¬ ((cBegV σ) 1 3) = ((cBegV σ) 2 1) → ((0 : Int32) = 0 ∨ (0 : Int32) = 1) ∧ K (some (.int 0)) (cBegV σ)) ∧ (((cBegV σ) 1 3) = ((cBegV σ) 2 1) → (RW (cBegV σ)) ∧ (((bI (cNm (cBegV σ))) = 0 → ((0 : Int32) = 0 ∨ (0 : Int32) = 1) ∧ K (some (.int 0)) (cBegV σ)) ∧ (¬ (bI (cNm (cBegV σ))) = 0 → ((1 : Int32) = 0 ∨ (1 : Int32) = 1) ∧ K (some (.int 1)) (cBegV σ)))))))) : gE 29 0 [some (.ref 1)] [] σ K :=
  gw_run (cy := 29) (cuts := []) (inl := []) (pf := gpdkV cBegV) hp 400 (by decide) h
theorem w29 {σ : gS} {K : gK} (h : (0 ≤ σ 2 1 ∧ σ 2 1 ≤ 1000) ∧ ((¬ ((cBeg σ) 1 2) = 0 → ((0 : Int32) = 0 ∨ (0 : Int32) = 1) ∧ K (some (.int 0)) (cBeg σ)) ∧ (((cBeg σ) 1 2) = 0 → ((¬ ((cBeg σ) 1 3) = ((cBeg σ) 2 1) → ((0 : Int32) = 0 ∨ (0 : Int32) = 1) ∧ K (some (.int 0)) (cBeg σ)) ∧ (((cBeg σ) 1 3) = ((cBeg σ) 2 1) → (RW (cBeg σ)) ∧ (((bI (cNm (cBeg σ))) = 0 → ((0 : Int32) = 0 ∨ (0 : Int32) = 1) ∧ K (some (.int 0)) (cBeg σ)) ∧ (¬ (bI (cNm (cBeg σ))) = 0 → ((1 : Int32) = 0 ∨ (1 : Int32) = 1) ∧ K (some (.int 1)) (cBeg σ)))))))) : gE 29 0 [some (.ref 1)] [] σ K :=
  w29_V (cBegV := cBeg) (gpl0_cons ok14 (gpl0_cons ok19 gpl0_nil)) h
theorem s29 {σ : gS} {K : gK} (hc : 0 ≤ σ 2 1 ∧ σ 2 1 ≤ 1000) (hK : K (some (.int (bI (cTN σ)))) (cBeg σ)) : gE 29 0 [some (.ref 1)] [] σ K := by
  obtain ⟨hr, hE⟩ := cBeg_RW hc
  have yes : cTN σ → ((1 : Int32) = 0 ∨ (1 : Int32) = 1) ∧ K (some (.int 1)) (cBeg σ) := fun h => ⟨Or.inr rfl, by rw [bI_y h] at hK; exact hK⟩
  have no : ¬ cTN σ → ((0 : Int32) = 0 ∨ (0 : Int32) = 1) ∧ K (some (.int 0)) (cBeg σ) := fun h => ⟨Or.inl rfl, by rw [bI_n h] at hK; exact hK⟩
  refine w29 ⟨hc, ?_⟩
  exact ⟨fun h => no (fun q => h q.1), fun h => ⟨fun h2 => no (fun q => h2 q.2.1), fun h2 => ⟨hr, fun h3 => no (fun q => bI_0.mp h3 q.2.2), fun h3 => yes ⟨h, h2, Decidable.not_not.mp (fun q => h3 (bI_0.mpr q))⟩⟩⟩⟩
noncomputable def f29 : gD := fun Lv σ => match Lv with
  | [some (.ref q0)] => cond (Nat.beq q0 1) (some (some (0 ≤ σ 2 1 ∧ σ 2 1 ≤ 1000), some (.int (bI (cTN σ))), cBeg σ)) none
  | _ => none
theorem ok29 : gFok 29 f29 := by
  intro Lv σ q h hc K hK
  unfold f29 at h
  split at h
  · rename_i q0
    obtain ⟨hb, h⟩ := c_no h
    have hb0 := hb
    have e0 := b_eq hb0
    subst e0
    cases h
    exact s29 (hc _ rfl) hK
  · cases h
set_option maxRecDepth 20000 in
theorem w30 {σ : gS} {K : gK} (h : (0 ≤ σ 2 1 ∧ σ 2 1 ≤ 1000) ∧ (RW (cBeg σ) ∧ (0 ≤ (cBeg σ) 1 3 ∧ (cBeg σ) 1 3 ≤ 1001)) ∧ K (some (.int (cPk ((cBeg σ) 3) ((cBeg σ) 2 1).toNatClampNeg ((cBeg σ) 1 2).toNatClampNeg (min (((cBeg σ) 1 3).toNatClampNeg - ((cBeg σ) 1 2).toNatClampNeg) 5)))) (cBeg σ)) : gE 30 0 [some (.ref 1)] [] σ K :=
  gw_run (cy := 30) (cuts := []) (inl := []) (pf := gpdk) gpdk_ok 400 (by decide) h
theorem s30 {σ : gS} {K : gK} (hc : 0 ≤ σ 2 1 ∧ σ 2 1 ≤ 1000) (hK : K (some (.int (cNam σ))) (cBeg σ)) : gE 30 0 [some (.ref 1)] [] σ K := by
  exact w30 ⟨hc, cBeg_RW hc, hK⟩
noncomputable def f30 : gD := fun Lv σ => match Lv with
  | [some (.ref q0)] => cond (Nat.beq q0 1) (some (some (0 ≤ σ 2 1 ∧ σ 2 1 ≤ 1000), some (.int (cNam σ)), cBeg σ)) none
  | _ => none
theorem ok30 : gFok 30 f30 := by
  intro Lv σ q h hc K hK
  unfold f30 at h
  split at h
  · rename_i q0
    obtain ⟨hb, h⟩ := c_no h
    have hb0 := hb
    have e0 := b_eq hb0
    subst e0
    cases h
    exact s30 (hc _ rfl) hK
  · cases h
noncomputable def gpdl_l : List (Nat × gD) := (102, f102) :: (62, f62) :: (29, f29) :: (30, f30) :: gpdk_l
noncomputable def gpdl : gP := gpl0 gpdl_l
theorem gpdl_ok : gPok gpdl := gpl0_cons ok102 (gpl0_cons ok62 (gpl0_cons ok29 (gpl0_cons ok30 (gpdk_ok))))
-- text 54
/-! THE CLASS: come -/
/-- the guest's numbers -/
def cGue (σ : gS) (x k f w s : Int32) : gS := gup (gup (gup (gup (gup (gup (cBeg σ) 58 0 (cNam σ)) 58 1 x) 58 2 k) 58 3 f) 58 8 w) 58 9 s
def cGu0 (σ : gS) (x k f w s : Int32) : gS := cGue (cZr (cRem (cBeg σ)) 58) x k f w s
def cCom (σ : gS) (x k f w s : Int32) : gS := gup (cAdd (cAdm (cGu0 σ x k f w s) 6 58) 0 (σ 6 7) x) 2 1 0
theorem cGue_ne {σ : gS} {x k f w s : Int32} {q : Nat} (h : ¬ q = 58) (h1 : ¬ q = 1) : cGue σ x k f w s q = σ q := by
  funext j
  unfold cGue
  rw [gup_ne (by omega), gup_ne (by omega), gup_ne (by omega), gup_ne (by omega), gup_ne (by omega), gup_ne (by omega), cBeg_ne h1]
theorem cZr_ne {σ : gS} {w q : Nat} (h : ¬ q = w) : cZr σ w q = σ q := by
  funext j
  unfold cZr
  rw [if_neg (by omega), if_neg (by omega)]
theorem cGu0_ne {σ : gS} {x k f w s : Int32} {q : Nat} (h7 : 0 ≤ σ 6 7 ∧ σ 6 7 ≤ 20) (h : q < 113) (h2 : ¬ q = 58) (h1 : ¬ q = 1) : cGu0 σ x k f w s q = σ q := by
  unfold cGu0
  rw [cGue_ne h2 h1, cZr_ne h2, cRem_far (Or.inl h) (by rw [cBeg_ne (by decide)]; exact h7), cBeg_ne h1]
theorem tv_58 : gTv 58 := by unfold gTv; decide +kernel
theorem cAdm_far {σ : gS} {p w q : Nat} (h7 : 0 ≤ σ p 7 ∧ σ p 7 < 20) (h : q < p ∨ p + 24 ≤ q) : cAdm σ p w q = σ q := by
  have l := n20 h7
  funext j
  unfold cAdm
  rw [gup_ne (by omega), cCnt_off (by omega)]
  show (if q = p + 2 + (σ p 7).toNatClampNeg ∧ j < 10 then _ else _) = _
  rw [if_neg (by omega)]
abbrev okK (σ : gS) (x k f w s : Int32) : Prop := (((isS (cR σ 6) x ∧ (0 ≤ k ∧ k ≤ 1)) ∧ (0 ≤ f ∧ f ≤ 9)) ∧ (0 ≤ w ∧ w ≤ 99)) ∧ (1 ≤ s ∧ s ≤ 99)
abbrev okF (σ : gS) (x k : Int32) : Prop := fWho (cR σ 6) x = -2 ∧ (k = 1 ∨ cR σ 6 1 ≤ x / 4)
set_option maxRecDepth 20000 in
theorem w112 {σ : gS} {K : gK} {x k f w s : Int32} (h : (((bI (isS (cR σ 6) x)) = 0 → K (some (.int (-1))) σ) ∧ (¬ (bI (isS (cR σ 6) x)) = 0 → (((bI ((0 : Int32) ≤ k ∧ k ≤ (1 : Int32))) = 0 → K (some (.int (-1))) σ) ∧ (¬ (bI ((0 : Int32) ≤ k ∧ k ≤ (1 : Int32))) = 0 → (((bI ((0 : Int32) ≤ f ∧ f ≤ (9 : Int32))) = 0 → K (some (.int (-1))) σ) ∧ (¬ (bI ((0 : Int32) ≤ f ∧ f ≤ (9 : Int32))) = 0 → (((bI ((0 : Int32) ≤ w ∧ w ≤ (99 : Int32))) = 0 → K (some (.int (-1))) σ) ∧ (¬ (bI ((0 : Int32) ≤ w ∧ w ≤ (99 : Int32))) = 0 → (((bI ((1 : Int32) ≤ s ∧ s ≤ (99 : Int32))) = 0 → K (some (.int (-1))) σ) ∧ (¬ (bI ((1 : Int32) ≤ s ∧ s ≤ (99 : Int32))) = 0 → (0 ≤ σ 2 1 ∧ σ 2 1 ≤ 1000) ∧ ((¬ (bI (cTN σ)) = 0 → ((((cBeg σ) 6 7) < 20 → (0 ≤ (cBeg σ) 6 7 ∧ (cBeg σ) 6 7 ≤ 20) ∧ (((bI (fWho (cR (cBeg σ) 6) x = -2)) = 0 → K (some (.int (-4))) (cBeg σ)) ∧ (¬ (bI (fWho (cR (cBeg σ) 6) x = -2)) = 0 → ((¬ (bI (k = 1 ∨ cR (cBeg σ) 6 1 ≤ x / 4)) = 0 → gE 112 105 [some (.ref 0), some (.int x), some (.int k), some (.int f), some (.int w), some (.int s), none] [] (cBeg σ) K) ∧ ((bI (k = 1 ∨ cR (cBeg σ) 6 1 ≤ x / 4)) = 0 → K (some (.int (-4))) (cBeg σ)))))) ∧ (¬ ((cBeg σ) 6 7) < 20 → K (some (.int (-3))) (cBeg σ)))) ∧ ((bI (cTN σ)) = 0 → K (some (.int (-1))) (cBeg σ)))))))))))))) : gE 112 0 [some (.ref 0), some (.int x), some (.int k), some (.int f), some (.int w), some (.int s), none] [] σ K :=
  gw_run (cy := 112) (cuts := [105, 123, 188]) (inl := []) (pf := gpdl) gpdl_ok 400 (by decide) h
set_option maxRecDepth 20000 in
theorem c112_105 {σ : gS} {K : gK} {l1 l2 l3 l4 l5 : Int32} (h : (bPa σ ∧ (0 ≤ σ 6 7 ∧ σ 6 7 ≤ 20)) ∧ gTv 58 ∧ (gTv 58) ∧ gE 112 123 [some (.ref 0), some (.int l1), some (.int l2), some (.int l3), some (.int l4), some (.int l5), none] [] (cZr (cRem σ) 58) K) : gE 112 105 [some (.ref 0), some (.int l1), some (.int l2), some (.int l3), some (.int l4), some (.int l5), none] [] σ K :=
  gw_run (cy := 112) (cuts := [105, 123, 188]) (inl := []) (pf := gpdl) gpdl_ok 400 (by decide) h
set_option maxRecDepth 20000 in
theorem c112_123 {σ : gS} {K : gK} {l1 l2 l3 l4 l5 : Int32} (h : (0 ≤ σ 2 1 ∧ σ 2 1 ≤ 1000) ∧ gTv 58 ∧ gTv 58 ∧ gTv 58 ∧ gTv 58 ∧ gTv 58 ∧ gTv 58 ∧ gE 112 188 [some (.ref 0), some (.int l1), some (.int l2), some (.int l3), some (.int l4), some (.int l5), some (.int ((gup (gup (gup (gup (gup (gup (cBeg σ) 58 0 (cNam σ)) 58 1 l1) 58 2 l2) 58 3 l3) 58 8 l4) 58 9 l5) 6 7))] [] (gup (gup (gup (gup (gup (gup (cBeg σ) 58 0 (cNam σ)) 58 1 l1) 58 2 l2) 58 3 l3) 58 8 l4) 58 9 l5) K) : gE 112 123 [some (.ref 0), some (.int l1), some (.int l2), some (.int l3), some (.int l4), some (.int l5), none] [] σ K :=
  gw_run (cy := 112) (cuts := [105, 123, 188]) (inl := []) (pf := gpdl) gpdl_ok 400 (by decide) h
set_option maxRecDepth 20000 in
theorem c112_188 {σ : gS} {K : gK} {l1 l2 l3 l4 l5 l6 : Int32} (h : ((0 ≤ σ 6 7 ∧ σ 6 7 < 20) ∧ gTv 58) ∧ (bLg (cAdm σ 6 58) 30) ∧ K (some (.int l6)) (gup (cAdd (cAdm σ 6 58) (0 : Int32) l6 l1) 2 1 0)) : gE 112 188 [some (.ref 0), some (.int l1), some (.int l2), some (.int l3), some (.int l4), some (.int l5), some (.int l6)] [] σ K :=
  gw_run (cy := 112) (cuts := [105, 123, 188]) (inl := []) (pf := gpdl) gpdl_ok 400 (by decide) h
theorem s112 {σ : gS} {K : gK} {x k f w s : Int32} (hc : SC σ ∧ (0 ≤ σ 2 1 ∧ σ 2 1 ≤ 1000)) (hK : K (some (.int (if okK σ x k f w s ∧ cTN σ then (if σ 6 7 < 20 then (if okF σ x k then σ 6 7 else -4) else -3) else -1))) (if okK σ x k f w s then (if cTN σ ∧ σ 6 7 < 20 ∧ okF σ x k then cCom σ x k f w s else cBeg σ) else σ)) : gE 112 0 [some (.ref 0), some (.int x), some (.int k), some (.int f), some (.int w), some (.int s), none] [] σ K := by
  obtain ⟨hs, hL⟩ := hc
  have h7 := SC_7 hs
  have b6 : cBeg σ 6 = σ 6 := cBeg_ne (by decide)
  have bR : cR (cBeg σ) 6 = cR σ 6 := cR_blk (fun q q1 q2 => cBeg_ne (by omega))
  have no : ¬ okK σ x k f w s → K (some (.int (-1))) σ := by
    intro q
    rw [if_neg q, if_neg (fun e => q e.1)] at hK
    exact hK
  refine w112 ⟨fun h => no (fun q => bI_0.mp h q.1.1.1.1), fun h => ⟨fun h1 => no (fun q => bI_0.mp h1 q.1.1.1.2), fun h1 => ⟨fun h2 => no (fun q => bI_0.mp h2 q.1.1.2), fun h2 => ⟨fun h3 => no (fun q => bI_0.mp h3 q.1.2), fun h3 => ⟨fun h4 => no (fun q => bI_0.mp h4 q.2), fun h4 => ⟨hL, ?_⟩⟩⟩⟩⟩⟩
  have yy : ∀ {P : Prop} [Decidable P], ¬ bI P = 0 → P := fun {P} _ h => Decidable.not_not.mp (fun q => h (bI_0.mpr q))
  have ok : okK σ x k f w s := ⟨⟨⟨⟨yy h, yy h1⟩, yy h2⟩, yy h3⟩, yy h4⟩
  rw [if_pos ok] at hK
  rw [b6, bR]
  refine ⟨fun h5 => ?_, fun h5 => ?_⟩
  · have h5 := yy h5
    rw [if_pos ⟨ok, h5⟩] at hK
    refine ⟨fun h6 => ?_, fun h6 => ?_⟩
    · rw [if_pos h6] at hK
      have bad : ¬ okF σ x k → K (some (.int (-4))) (cBeg σ) := by
        intro q
        rw [if_neg q, if_neg (fun e => q e.2.2)] at hK
        exact hK
      refine ⟨h7, fun h8 => bad (fun q => bI_0.mp h8 q.1), fun h8 => ⟨fun h9 => ?_, fun h9 => bad (fun q => bI_0.mp h9 q.2)⟩⟩
      have okf : okF σ x k := ⟨yy h8, yy h9⟩
      rw [if_pos okf, if_pos ⟨h5, h6, okf⟩] at hK
      have hP := hs.2.1
      have g7 : ∀ q, q < 113 → ¬ q = 58 → ¬ q = 1 → cGu0 σ x k f w s q = σ q := fun q q1 q2 q3 => cGu0_ne h7 q1 q2 q3
      have u7 : 0 ≤ cGu0 σ x k f w s 6 7 ∧ cGu0 σ x k f w s 6 7 < 20 := by rw [g7 6 (by decide) (by decide) (by decide)]; exact ⟨h7.1, h6⟩
      refine c112_105 ⟨⟨by unfold bPa; rw [cBeg_ne (by decide)]; exact hP, by rw [b6]; exact h7⟩, tv_58, tv_58, c112_123 ⟨?_, tv_58, tv_58, tv_58, tv_58, tv_58, tv_58, ?_⟩⟩
      · rw [cZr_ne (by decide), cRem_far (Or.inl (by decide)) (by rw [b6]; exact h7), cBeg_ne (by decide)]
        exact hL
      · show gE 112 188 [some (.ref 0), some (.int x), some (.int k), some (.int f), some (.int w), some (.int s), some (.int (cGu0 σ x k f w s 6 7))] [] (cGu0 σ x k f w s) K
        refine c112_188 ⟨⟨u7, tv_58⟩, ?_, ?_⟩
        · unfold bLg
          rw [cAdm_far u7 (Or.inr (by decide)), g7 30 (by decide) (by decide) (by decide)]
          exact hs.2.2.1
        · rw [g7 6 (by decide) (by decide) (by decide)]
          exact hK
    · rw [if_neg h6, if_neg (fun e => h6 e.2.1)] at hK
      exact hK
  · have h5 := bI_0.mp h5
    rw [if_neg (fun e => h5 e.2), if_neg (fun e => h5 e.1)] at hK
    exact hK
noncomputable def f112 : gD := fun Lv σ => match Lv with
  | [some (.ref q0), some (.int x), some (.int k), some (.int f), some (.int w), some (.int s), none] => cond (Nat.beq q0 0) (some (some (SC σ ∧ (0 ≤ σ 2 1 ∧ σ 2 1 ≤ 1000)), some (.int (if okK σ x k f w s ∧ cTN σ then (if σ 6 7 < 20 then (if okF σ x k then σ 6 7 else -4) else -3) else -1)), if okK σ x k f w s then (if cTN σ ∧ σ 6 7 < 20 ∧ okF σ x k then cCom σ x k f w s else cBeg σ) else σ)) none
  | _ => none
theorem ok112 : gFok 112 f112 := by
  intro Lv σ q h hc K hK
  unfold f112 at h
  split at h
  · rename_i q0 x k f w s
    obtain ⟨hb, h⟩ := c_no h
    have hb0 := hb
    have e0 := b_eq hb0
    subst e0
    cases h
    exact s112 (hc _ rfl) hK
  · cases h
