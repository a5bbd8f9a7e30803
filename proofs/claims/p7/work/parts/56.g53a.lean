theorem tkE_b {T : gW} {L n : Nat} (h : n ≤ L) : tkS T L n < tkE T L n ∧ tkE T L n ≤ L + 1 := by
  have h1 := tkS_b (T := T) h
  have := skp_b (P := fun i => decide (cKd (T i) = tkK T L n)) (d := L - (tkS T L n + 1)) (s := tkS T L n + 1)
  unfold tkE
  split <;> omega
theorem cBeg_RW {σ : gS} (h : 0 ≤ σ 2 1 ∧ σ 2 1 ≤ 1000) : RW (cBeg σ) ∧ (0 ≤ (cBeg σ) 1 3 ∧ (cBeg σ) 1 3 ≤ 1001) := by
  obtain ⟨e, l⟩ := l1000 h
  have b1 := tkS_b (T := σ 3) (L := (σ 2 1).toNatClampNeg) (n := 0) (by omega)
  have b2 := tkE_b (T := σ 3) (L := (σ 2 1).toNatClampNeg) (n := 0) (by omega)
  obtain ⟨c1, c2, c3⟩ := cBeg_1 (σ := σ)
  unfold RW
  rw [c1, c2, cBeg_ne (by decide)]
  exact ⟨⟨h, ⟨(iN_le (k := 0) (by decide) (by omega)).mpr (by omega), (iN_le (m := 1000) (by omega) (by decide)).mpr (by omega)⟩⟩, ⟨(iN_le (k := 0) (by decide) (by omega)).mpr (by omega), (iN_le (m := 1001) (by omega) (by decide)).mpr (by omega)⟩⟩
abbrev cTN (σ : gS) : Prop := cBeg σ 1 2 = 0 ∧ cBeg σ 1 3 = cBeg σ 2 1 ∧ cNm (cBeg σ)
def cNam (σ : gS) : Int32 := cPk (cBeg σ 3) (cBeg σ 2 1).toNatClampNeg (cBeg σ 1 2).toNatClampNeg (min ((cBeg σ 1 3).toNatClampNeg - (cBeg σ 1 2).toNatClampNeg) 5)
set_option maxRecDepth 20000 in
theorem w102 {σ : gS} {K : gK} {w : Nat} (h : gTv w ∧ gTv w ∧ gTv w ∧ gTv w ∧ gTv w ∧ gTv w ∧ gTv w ∧ gTv w ∧ gTv w ∧ gTv w ∧ K none (gup (gup (gup (gup (gup (gup (gup (gup (gup (gup σ w 0 0) w 1 0) w 2 0) w 3 0) w 4 0) w 5 0) w 6 0) w 7 0) w 8 0) w 9 99)) : gE 102 0 [some (.ref w)] [] σ K :=
  gw_run (cy := 102) (cuts := []) (inl := []) (pf := gpdk) gpdk_ok 400 (by decide) h
theorem s102 {σ : gS} {K : gK} {w : Nat} (hc : gTv w) (hK : K none (cZr σ w)) : gE 102 0 [some (.ref w)] [] σ K := by
  refine w102 ⟨hc, hc, hc, hc, hc, hc, hc, hc, hc, hc, ?_⟩
  have e : gup (gup (gup (gup (gup (gup (gup (gup (gup (gup σ w 0 0) w 1 0) w 2 0) w 3 0) w 4 0) w 5 0) w 6 0) w 7 0) w 8 0) w 9 99 = cZr σ w := by
    funext q j
    unfold gup cZr
    grind (splits := 40)
  rw [e]
  exact hK
