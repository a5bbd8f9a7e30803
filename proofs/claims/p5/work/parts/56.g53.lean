-- text 53
/-! THE CLASS: the name on the tape, a new traveller -/
/-- a traveller as it begins -/
def cZr (σ : gS) (w : Nat) : gS := fun q j => if q = w ∧ j < 9 then 0 else if q = w ∧ j = 9 then 99 else σ q j
def cAdm (σ : gS) (p w : Nat) : gS := gup (cCnt (cTv σ (p + 2 + (σ p 7).toNatClampNeg) w) p w 1) p 7 (σ p 7 + 1)
theorem cBeg_ne {σ : gS} {q : Nat} (h : ¬ q = 1) : cBeg σ q = σ q := by
  funext j
  unfold cBeg cTok cTk4
  rw [gup_ne (by omega), gup_ne (by omega), gup_ne (by omega), gup_ne (by omega), gup_ne (by omega)]
theorem cBeg_1 {σ : gS} : cBeg σ 1 2 = iN (tkS (σ 3) (σ 2 1).toNatClampNeg 0) ∧ cBeg σ 1 3 = iN (tkE (σ 3) (σ 2 1).toNatClampNeg 0) ∧ cBeg σ 1 4 = tkK (σ 3) (σ 2 1).toNatClampNeg 0 := by
  have e2 : gup (gup σ 1 5 0) 1 3 0 2 1 = σ 2 1 := by rw [gup_ne (by omega), gup_ne (by omega)]
  have e3 : gup (gup σ 1 5 0) 1 3 0 3 = σ 3 := funext fun j => by rw [gup_ne (by omega), gup_ne (by omega)]
  have e1 : (gup (gup σ 1 5 0) 1 3 0 1 3).toNatClampNeg = 0 := by rw [gup_at]; rfl
  unfold cBeg cTok
  rw [e1, e2, e3]
  unfold cTk4
  refine ⟨?_, gup_at _ _ _, ?_⟩
  · rw [gup_ne (by omega), gup_ne (by omega), gup_at]
  · rw [gup_ne (by omega), gup_at]
theorem tkS_b {T : gW} {L n : Nat} (h : n ≤ L) : n ≤ tkS T L n ∧ tkS T L n ≤ L := by
  have := skp_b (P := fun i => decide (cKd (T i) = 1)) (d := L - n) (s := n)
  unfold tkS
  omega
theorem tkE_b {T : gW} {L n : Nat} (h : n ≤ L) : tkS T L n < tkE T L n ∧ tkE T L n ≤ L + 1 := by
  have h1 := tkS_b (T := T) h
  have := skp_b (P := fun i => decide (cKd (T i) = tkK T L n)) (d := L - (tkS T L n + 1)) (s := tkS T L n + 1)
  unfold tkE
  split <;> omega
theorem cBeg_RW {σ : gS} (h : 0 ≤ σ 2 1 ∧ σ 2 1 ≤ 1000) : RW (cBeg σ) ∧ (0 ≤ (cBeg σ) 1 3 ∧ (cBeg σ) 1 3 ≤ 1001) := by
  obtain ⟨e, l⟩ := l1000 h
  have b1 := tkS_b (T := σ 3) (L := (σ 2 1).toNatClampNeg) (n := 0) (by omega)
  have b2 := tkE_b (T := σ 3) (L := (σ 2 1).toNatClampNeg) (n := 0) (by omega)
  obtain ⟨c1, c2, c3⟩ := cBeg_1 (σ := σ)
  unfold RW
  rw [c1, c2, cBeg_ne (by decide)]
  exact ⟨⟨h, ⟨(iN_le (k := 0) (by decide) (by omega)).mpr (by omega), (iN_le (m := 1000) (by omega) (by decide)).mpr (by omega)⟩⟩, ⟨(iN_le (k := 0) (by decide) (by omega)).mpr (by omega), (iN_le (m := 1001) (by omega) (by decide)).mpr (by omega)⟩⟩
abbrev cTN (σ : gS) : Prop := cBeg σ 1 2 = 0 ∧ cBeg σ 1 3 = cBeg σ 2 1 ∧ cNm (cBeg σ)
def cNam (σ : gS) : Int32 := cPk (cBeg σ 3) (cBeg σ 2 1).toNatClampNeg (cBeg σ 1 2).toNatClampNeg (min ((cBeg σ 1 3).toNatClampNeg - (cBeg σ 1 2).toNatClampNeg) 5)
set_option maxRecDepth 20000 in
theorem w102 {σ : gS} {K : gK} {w : Nat} (h : gTv w ∧ gTv w ∧ gTv w ∧ gTv w ∧ gTv w ∧ gTv w ∧ gTv w ∧ gTv w ∧ gTv w ∧ gTv w ∧ K none (gup (gup (gup (gup (gup (gup (gup (gup (gup (gup σ w 0 0) w 1 0) w 2 0) w 3 0) w 4 0) w 5 0) w 6 0) w 7 0) w 8 0) w 9 99)) : gE 102 0 [some (.ref w)] [] σ K :=
  gw_run (cy := 102) (cuts := []) (inl := []) (pf := gpdk) gpdk_ok 400 (by decide) h
theorem s102 {σ : gS} {K : gK} {w : Nat} (hc : gTv w) (hK : K none (cZr σ w)) : gE 102 0 [some (.ref w)] [] σ K := by
  refine w102 ⟨hc, hc, hc, hc, hc, hc, hc, hc, hc, hc, ?_⟩
  have e : gup (gup (gup (gup (gup (gup (gup (gup (gup (gup σ w 0 0) w 1 0) w 2 0) w 3 0) w 4 0) w 5 0) w 6 0) w 7 0) w 8 0) w 9 99 = cZr σ w := by
    funext q j
    unfold gup cZr
    grind (splits := 40)
  rw [e]
  exact hK
noncomputable def f102 : gD := fun Lv σ => match Lv with
  | [some (.ref w)] => some (some (gTv w), none, cZr σ w)
  | _ => none
theorem ok102 : gFok 102 f102 := by
  intro Lv σ q h hc K hK
  unfold f102 at h
  split at h
  · rename_i w
    cases h
    exact s102 (hc _ rfl) hK
  · cases h
set_option maxRecDepth 20000 in
theorem w62_6 {σ : gS} {K : gK} {w : Nat} (h : (((σ 6 7) < 20 → (0 ≤ (σ 6 7) ∧ (σ 6 7) < 20) ∧ gTv (6 + 2 + (σ 6 7).toNatClampNeg) ∧ (gTv (6 + 2 + (σ 6 7).toNatClampNeg) ∧ gTv w) ∧ (gTv w) ∧ K none (gup (cCnt (cTv σ (6 + 2 + (σ 6 7).toNatClampNeg) w) 6 w (1 : Int32)) 6 7 (((cCnt (cTv σ (6 + 2 + (σ 6 7).toNatClampNeg) w) 6 w (1 : Int32)) 6 7) + 1))) ∧ (¬ (σ 6 7) < 20 → K none σ))) : gE 62 0 [some (.ref 6), some (.ref w)] [] σ K :=
  gw_run (cy := 62) (cuts := []) (inl := []) (pf := gpdk) gpdk_ok 400 (by decide) h
theorem s62_6 {σ : gS} {K : gK} {w : Nat} (hc : (0 ≤ σ 6 7 ∧ σ 6 7 < 20) ∧ gTv w) (hK : K none (cAdm σ 6 w)) : gE 62 0 [some (.ref 6), some (.ref w)] [] σ K := by
  obtain ⟨h7, hw⟩ := hc
  have tv := tv_6 _ (n20 h7)
  have ln := n20 h7
  have e : cCnt (cTv σ (6 + 2 + (σ 6 7).toNatClampNeg) w) 6 w 1 6 7 = σ 6 7 := by
    rw [cCnt_off (by omega)]
    show (if 6 = 6 + 2 + (σ 6 7).toNatClampNeg ∧ 7 < 10 then _ else _) = _
    rw [if_neg (by omega)]
  refine w62_6 ⟨fun _ => ⟨h7, tv, ⟨tv, hw⟩, hw, ?_⟩, fun h => absurd h7.2 h⟩
  rw [e]
  exact hK
set_option maxRecDepth 20000 in
theorem w62_32 {σ : gS} {K : gK} {w : Nat} (h : (((σ 32 7) < 20 → (0 ≤ (σ 32 7) ∧ (σ 32 7) < 20) ∧ gTv (32 + 2 + (σ 32 7).toNatClampNeg) ∧ (gTv (32 + 2 + (σ 32 7).toNatClampNeg) ∧ gTv w) ∧ (gTv w) ∧ K none (gup (cCnt (cTv σ (32 + 2 + (σ 32 7).toNatClampNeg) w) 32 w (1 : Int32)) 32 7 (((cCnt (cTv σ (32 + 2 + (σ 32 7).toNatClampNeg) w) 32 w (1 : Int32)) 32 7) + 1))) ∧ (¬ (σ 32 7) < 20 → K none σ))) : gE 62 0 [some (.ref 32), some (.ref w)] [] σ K :=
  gw_run (cy := 62) (cuts := []) (inl := []) (pf := gpdk) gpdk_ok 400 (by decide) h
theorem s62_32 {σ : gS} {K : gK} {w : Nat} (hc : (0 ≤ σ 32 7 ∧ σ 32 7 < 20) ∧ gTv w) (hK : K none (cAdm σ 32 w)) : gE 62 0 [some (.ref 32), some (.ref w)] [] σ K := by
  obtain ⟨h7, hw⟩ := hc
  have tv := tv_32 _ (n20 h7)
  have ln := n20 h7
  have e : cCnt (cTv σ (32 + 2 + (σ 32 7).toNatClampNeg) w) 32 w 1 32 7 = σ 32 7 := by
    rw [cCnt_off (by omega)]
    show (if 32 = 32 + 2 + (σ 32 7).toNatClampNeg ∧ 7 < 10 then _ else _) = _
    rw [if_neg (by omega)]
  refine w62_32 ⟨fun _ => ⟨h7, tv, ⟨tv, hw⟩, hw, ?_⟩, fun h => absurd h7.2 h⟩
  rw [e]
  exact hK
