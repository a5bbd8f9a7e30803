-- text 89
/-! THE REFERENCE: the next token -/
set_option maxRecDepth 20000 in
theorem w189 {σ : gS} {K : gK} (h : ((¬ (σ 323 11) < (σ 323 8) → gE 189 52 [some (.ref 323)] [] σ K) ∧ ((σ 323 11) < (σ 323 8) → (0 ≤ (σ 323 11) ∧ (σ 323 11) < 1000) ∧ (((σ 330 (σ 323 11).toNatClampNeg) = 32 → gE 189 0 [some (.ref 323)] [] (gup σ 323 11 ((σ 323 11) + 1)) K) ∧ (¬ (σ 330 (σ 323 11).toNatClampNeg) = 32 → (0 ≤ (σ 323 11) ∧ (σ 323 11) < 1000) ∧ ((¬ (σ 330 (σ 323 11).toNatClampNeg) = 10 → gE 189 52 [some (.ref 323)] [] σ K) ∧ ((σ 330 (σ 323 11).toNatClampNeg) = 10 → gE 189 0 [some (.ref 323)] [] (gup σ 323 11 ((σ 323 11) + 1)) K))))))) : gE 189 0 [some (.ref 323)] [] σ K :=
  gw_run (cy := 189) (cuts := [0, 52, 65, 120]) (inl := []) (pf := gpdw) gpdw_ok 400 (by decide) h
set_option maxRecDepth 20000 in
theorem c189_52 {σ : gS} {K : gK} (h : gE 189 65 [some (.ref 323)] [] (gup (gup σ 323 12 (σ 323 11)) 323 14 0) K) : gE 189 52 [some (.ref 323)] [] σ K :=
  gw_run (cy := 189) (cuts := [0, 52, 65, 120]) (inl := []) (pf := gpdw) gpdw_ok 400 (by decide) h
set_option maxRecDepth 20000 in
theorem c189_65 {σ : gS} {K : gK} (h : ((¬ (σ 323 11) = (σ 323 8) → ((0 ≤ (σ 323 11)) ∧ RT σ) ∧ (((bI ((σ 323 11) < σ 323 8 ∧ isSm (σ 330 (σ 323 11).toNatClampNeg))) = 0 → ((0 ≤ (σ 323 11)) ∧ RT σ) ∧ (((bI ((σ 323 11) < σ 323 8 ∧ isDg (σ 330 (σ 323 11).toNatClampNeg))) = 0 → gE 189 120 [some (.ref 323)] [] σ K) ∧ (¬ (bI ((σ 323 11) < σ 323 8 ∧ isDg (σ 330 (σ 323 11).toNatClampNeg))) = 0 → (NX σ ∧ σ 323 12 = σ 323 11 ∧ σ 323 14 = 0) ∧ K none (hNb σ)))) ∧ (¬ (bI ((σ 323 11) < σ 323 8 ∧ isSm (σ 330 (σ 323 11).toNatClampNeg))) = 0 → (NX σ ∧ σ 323 12 = σ 323 11 ∧ σ 323 14 = 0) ∧ K none (hWd σ)))) ∧ ((σ 323 11) = (σ 323 8) → K none (gup σ 323 13 0)))) : gE 189 65 [some (.ref 323)] [] σ K :=
  gw_run (cy := 189) (cuts := [0, 52, 65, 120]) (inl := []) (pf := gpdw) gpdw_ok 400 (by decide) h
set_option maxRecDepth 20000 in
theorem c189_120 {σ : gS} {K : gK} (h : (0 ≤ (σ 323 11) ∧ (σ 323 11) < 1000) ∧ ((¬ (σ 330 (σ 323 11).toNatClampNeg) = 59 → (0 ≤ (σ 323 11) ∧ (σ 323 11) < 1000) ∧ ((¬ (σ 330 (σ 323 11).toNatClampNeg) = 43 → (0 ≤ (σ 323 11) ∧ (σ 323 11) < 1000) ∧ ((¬ (σ 330 (σ 323 11).toNatClampNeg) = 45 → K none (gup (gup σ 323 13 6) 323 11 (((gup σ 323 13 6) 323 11) + 1))) ∧ ((σ 330 (σ 323 11).toNatClampNeg) = 45 → K none (gup (gup σ 323 13 5) 323 11 (((gup σ 323 13 5) 323 11) + 1))))) ∧ ((σ 330 (σ 323 11).toNatClampNeg) = 43 → K none (gup (gup σ 323 13 4) 323 11 (((gup σ 323 13 4) 323 11) + 1))))) ∧ ((σ 330 (σ 323 11).toNatClampNeg) = 59 → K none (gup (gup σ 323 13 3) 323 11 (((gup σ 323 13 3) 323 11) + 1))))) : gE 189 120 [some (.ref 323)] [] σ K :=
  gw_run (cy := 189) (cuts := [0, 52, 65, 120]) (inl := []) (pf := gpdw) gpdw_ok 400 (by decide) h
/-- where the reference stands behind a token, the token's number and kind -/
noncomputable def rPl (T : gW) (L S : Nat) : Nat := if S = L then S else if isSm (T S) then rnE 2 T L S else if isDg (T S) then rnE 3 T L S else S + 1
noncomputable def rVa (T : gW) (L S : Nat) : Int32 := if S = L then 0 else if isSm (T S) then wvN T S (min (rPl T L S - S) 6) else if isDg (T S) then nuN T S (min (rPl T L S - S) 2) else 0
noncomputable def rKi (T : gW) (L S : Nat) : Int32 := if S = L then 0 else if isSm (T S) then (if 6 < rPl T L S - S then 6 else 1) else if isDg (T S) then (if 2 < rPl T L S - S then 6 else 2) else if T S = 59 then 3 else if T S = 43 then 4 else if T S = 45 then 5 else 6
noncomputable def rSt (σ : gS) : Nat := tkS (σ 330) (σ 323 8).toNatClampNeg (σ 323 11).toNatClampNeg
noncomputable def rNx4 (σ : gS) (S : Nat) (v k : Int32) (e : Nat) : gS := fun q j => if q = 323 then (if j = 11 then iN e else if j = 12 then iN S else if j = 13 then k else if j = 14 then v else σ 323 j) else σ q j
theorem rNx_x : ∃ f : gS → gS, ∀ σ, f σ = rNx4 σ (rSt σ) (rVa (σ 330) (σ 323 8).toNatClampNeg (rSt σ)) (rKi (σ 330) (σ 323 8).toNatClampNeg (rSt σ)) (rPl (σ 330) (σ 323 8).toNatClampNeg (rSt σ)) := ⟨fun σ => rNx4 σ (rSt σ) (rVa (σ 330) (σ 323 8).toNatClampNeg (rSt σ)) (rKi (σ 330) (σ 323 8).toNatClampNeg (rSt σ)) (rPl (σ 330) (σ 323 8).toNatClampNeg (rSt σ)), fun _ => rfl⟩
noncomputable def rNx : gS → gS := Classical.choose rNx_x
theorem rNx_e : ∀ σ, rNx σ = rNx4 σ (rSt σ) (rVa (σ 330) (σ 323 8).toNatClampNeg (rSt σ)) (rKi (σ 330) (σ 323 8).toNatClampNeg (rSt σ)) (rPl (σ 330) (σ 323 8).toNatClampNeg (rSt σ)) := Classical.choose_spec rNx_x
theorem rN_1 {σ : gS} {S e : Nat} {v k : Int32} (e12 : σ 323 12 = iN S) : gup (gup (gup σ 323 14 v) 323 11 (iN e)) 323 13 k = rNx4 σ S v k e := by
  funext q j
  unfold rNx4 gup
  grind
theorem rN_2 {σ : gS} {S e : Nat} {k : Int32} (e12 : σ 323 12 = iN S) (e14 : σ 323 14 = 0) : gup (gup σ 323 13 k) 323 11 (iN e) = rNx4 σ S 0 k e := by
  funext q j
  unfold rNx4 gup
  grind
theorem rN_3 {σ : gS} {S : Nat} (e11 : σ 323 11 = iN S) (e12 : σ 323 12 = iN S) (e14 : σ 323 14 = 0) : gup σ 323 13 0 = rNx4 σ S 0 0 S := by
  funext q j
  unfold rNx4 gup
  grind
theorem nx120 {σ : gS} {K : gK} {S : Nat} (e11 : σ 323 11 = iN S) (e12 : σ 323 12 = iN S) (e14 : σ 323 14 = 0) (lS : S < 1000) (hK : K none (rNx4 σ S 0 (if σ 330 S = 59 then 3 else if σ 330 S = 43 then 4 else if σ 330 S = 45 then 5 else 6) (S + 1))) : gE 189 120 [some (.ref 323)] [] σ K := by
  have b : 0 ≤ σ 323 11 ∧ σ 323 11 < 1000 := by
    rw [e11]
    exact ⟨(iN_le (k := 0) (by decide) (by omega)).mpr (by omega), (iN_lt (m := 1000) (by omega) (by decide)).mpr lS⟩
  have x : ∀ k, gup σ 323 13 k 323 11 + 1 = iN (S + 1) := fun k => by rw [gup_ne (by omega), e11, iN_one]
  have n11 : (σ 323 11).toNatClampNeg = S := by rw [e11, iN_nat (by omega)]
  refine c189_120 ?_
  rw [x, x, x, x, rN_2 e12 e14, rN_2 e12 e14, rN_2 e12 e14, rN_2 e12 e14, n11]
  refine ⟨b, fun h => ⟨b, fun h2 => ⟨b, fun h3 => ?_, fun h3 => ?_⟩, fun h2 => ?_⟩, fun h => ?_⟩
  · rw [if_neg h, if_neg h2, if_neg h3] at hK; exact hK
  · rw [if_neg h, if_neg h2, if_pos h3] at hK; exact hK
  · rw [if_neg h, if_pos h2] at hK; exact hK
  · rw [if_pos h] at hK; exact hK
theorem nx65 {σ : gS} {K : gK} {L S : Nat} (e8 : σ 323 8 = iN L) (e11 : σ 323 11 = iN S) (e12 : σ 323 12 = iN S) (e14 : σ 323 14 = 0) (lS : S ≤ L) (lL : L ≤ 1000) (hK : K none (rNx4 σ S (rVa (σ 330) L S) (rKi (σ 330) L S) (rPl (σ 330) L S))) : gE 189 65 [some (.ref 323)] [] σ K := by
  have hT : RT σ := by
    show 0 ≤ σ 323 8 ∧ σ 323 8 ≤ 1000
    rw [e8]
    exact ⟨(iN_le (k := 0) (by decide) (by omega)).mpr (by omega), (iN_le (m := 1000) (by omega) (by decide)).mpr lL⟩
  have p : 0 ≤ σ 323 11 := by rw [e11]; exact (iN_le (k := 0) (by decide) (by omega)).mpr (by omega)
  have hN : NX σ := ⟨hT, p, by rw [e8, e11]; exact (iN_le (by omega) (by omega)).mpr lS⟩
  have n8 : (σ 323 8).toNatClampNeg = L := by rw [e8, iN_nat (by omega)]
  have n11 : (σ 323 11).toNatClampNeg = S := by rw [e11, iN_nat (by omega)]
  have hlt : ∀ P : Prop, S < L → ((σ 323 11 < σ 323 8 ∧ P) ↔ P) := fun P h => ⟨fun q => q.2, fun q => ⟨by rw [e8, e11]; exact (iN_lt (by omega) (by omega)).mpr h, q⟩⟩
  have heq : σ 323 11 = σ 323 8 ↔ S = L := by rw [e8, e11]; exact iN_inj (by omega) (by omega)
  refine c189_65 ⟨fun h => ?_, fun h => ?_⟩
  · have h : ¬ S = L := fun q => h (heq.mpr q)
    have hl : S < L := by omega
    have hp : rPl (σ 330) L S = if isSm (σ 330 S) then rnE 2 (σ 330) L S else if isDg (σ 330 S) then rnE 3 (σ 330) L S else S + 1 := if_neg h
    unfold rVa rKi at hK
    rw [if_neg h, if_neg h] at hK
    rw [n11]
    refine ⟨⟨p, hT⟩, fun h1 => ⟨⟨p, hT⟩, fun h2 => ?_, fun h2 => ⟨⟨hN, e12.trans e11.symm, e14⟩, ?_⟩⟩, fun h1 => ⟨⟨hN, e12.trans e11.symm, e14⟩, ?_⟩⟩
    · have q1 : ¬ isSm (σ 330 S) := fun z => bI_0.mp h1 ((hlt _ hl).mpr z)
      have q2 : ¬ isDg (σ 330 S) := fun z => bI_0.mp h2 ((hlt _ hl).mpr z)
      rw [hp, if_neg q1, if_neg q1, if_neg q1, if_neg q2, if_neg q2, if_neg q2] at hK
      exact nx120 e11 e12 e14 (by omega) hK
    · have q1 : ¬ isSm (σ 330 S) := fun z => bI_0.mp h1 ((hlt _ hl).mpr z)
      have q2 : isDg (σ 330 S) := ((hlt _ hl).mp (Decidable.not_not.mp (fun z => h2 (bI_0.mpr z))))
      rw [hp, if_neg q1, if_neg q1, if_neg q1, if_pos q2, if_pos q2, if_pos q2] at hK
      rw [hNb_e, n8, n11, rN_1 e12]
      exact hK
    · have q1 : isSm (σ 330 S) := ((hlt _ hl).mp (Decidable.not_not.mp (fun z => h1 (bI_0.mpr z))))
      rw [hp, if_pos q1, if_pos q1, if_pos q1] at hK
      rw [hWd_e, n8, n11, rN_1 e12]
      exact hK
  · have h := heq.mp h
    unfold rVa rKi rPl at hK
    rw [if_pos h, if_pos h, if_pos h] at hK
    rw [rN_3 e11 e12 e14]
    exact hK
theorem cKd_1 {w : Int32} : cKd w = 1 ↔ (w = 32 ∨ w = 10) := by
  unfold cKd
  grind
theorem rNx4_up {σ : gS} {S e : Nat} {v k x y z : Int32} : rNx4 (gup (gup (gup σ 323 11 x) 323 12 y) 323 14 z) S v k e = rNx4 σ S v k e := by
  funext q j
  unfold rNx4 gup
  grind
theorem s189 {σ : gS} {K : gK} (hc : NX σ) (hK : K none (rNx σ)) : gE 189 0 [some (.ref 323)] [] σ K := by
  obtain ⟨L, n, eL, en, lL, ln, nL, nn⟩ := NX_n hc
  obtain ⟨S, hS⟩ : ∃ S, tkS (σ 330) L n = S := ⟨_, rfl⟩
  have eS : rSt σ = S := by unfold rSt; rw [nL, nn, hS]
  rw [rNx_e, eS, nL] at hK
  have f11 : ∀ x, gup σ 323 11 x 323 11 = x := fun x => gup_at _ _ _
  have f8 : ∀ x, gup σ 323 11 x 323 8 = iN L := fun x => by rw [gup_ne (by omega), eL]
  have f30 : ∀ x, gup σ 323 11 x 330 = σ 330 := fun x => funext fun i => gup_ne (by omega)
  have fin : S ≤ L → gE 189 52 [some (.ref 323)] [] (gup σ 323 11 (iN S)) K := by
    intro lS
    refine c189_52 ?_
    rw [f11]
    have g30 : gup (gup (gup σ 323 11 (iN S)) 323 12 (iN S)) 323 14 0 330 = σ 330 := funext fun i => by rw [gup_ne (by omega), gup_ne (by omega), gup_ne (by omega)]
    refine nx65 (L := L) (S := S) ?_ ?_ ?_ (gup_at _ _ _) lS lL ?_
    · rw [gup_ne (by omega), gup_ne (by omega), f8]
    · rw [gup_ne (by omega), gup_ne (by omega), f11]
    · rw [gup_ne (by omega), gup_at]
    · rw [g30, rNx4_up]
      exact hK
  have key : ∀ d j, n + j + d = L → S = skp (fun i => decide (cKd (σ 330 i) = 1)) d (n + j) → gE 189 0 [some (.ref 323)] [] (gup σ 323 11 (iN (n + j))) K := by
    intro d
    induction d with
    | zero =>
      intro j hj hE
      have hE : S = n + j := hE
      refine w189 ?_
      rw [f11, f8, f30]
      refine ⟨fun _ => ?_, fun q => absurd ((iN_lt (by omega) (by omega)).mp q) (by omega)⟩
      rw [← hE]
      exact fin (by omega)
    | succ d ih =>
      intro j hj hE
      have b : 0 ≤ iN (n + j) ∧ iN (n + j) < 1000 := ⟨(iN_le (k := 0) (by decide) (by omega)).mpr (by omega), (iN_lt (m := 1000) (by omega) (by decide)).mpr (by omega)⟩
      refine w189 ?_
      rw [f11, f8, f30, iN_nat (by omega), gup_tw, iN_one]
      unfold skp at hE
      refine ⟨fun q => absurd ((iN_lt (by omega) (by omega)).mpr (by omega)) q, fun _ => ⟨b, fun h => ?_, fun h => ⟨b, fun h2 => ?_, fun h2 => ?_⟩⟩⟩
      · rw [if_pos (decide_eq_true (cKd_1.mpr (Or.inl h)))] at hE
        exact ih (j + 1) (by omega) hE
      · rw [if_neg (fun q => (cKd_1.mp (of_decide_eq_true q)).elim h h2)] at hE
        rw [← hE]
        exact fin (by omega)
      · rw [if_pos (decide_eq_true (cKd_1.mpr (Or.inr h2)))] at hE
        exact ih (j + 1) (by omega) hE
  have := key (L - n) 0 (by omega) hS.symm
  rw [Nat.add_zero, gup_id en] at this
  exact this
noncomputable def f189 : gD := fun Lv σ => match Lv with
  | [some (.ref q0)] => cond (Nat.beq q0 323) (some (some (NX σ), none, rNx σ)) none
  | _ => none
theorem ok189 : gFok 189 f189 := by
  intro Lv σ q h hc K hK
  unfold f189 at h
  split at h
  · rename_i q0
    obtain ⟨hb, h⟩ := c_no h
    have hb0 := hb
    have e0 := b_eq hb0
    subst e0
    cases h
    exact s189 (hc _ rfl) hK
  · cases h
noncomputable def gpdx_l : List (Nat × gD) := (189, f189) :: gpdw_l
noncomputable def gpdx : gP := gpl0 gpdx_l
theorem gpdx_ok : gPok gpdx := gpl0_cons ok189 (gpdw_ok)
