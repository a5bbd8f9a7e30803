-- text 88
/-! THE REFERENCE: words and numbers on the tape -/
abbrev NX (σ : gS) : Prop := RT σ ∧ (0 ≤ σ 323 11 ∧ σ 323 11 ≤ σ 323 8)
theorem NX_n {σ : gS} (h : NX σ) : ∃ L n, σ 323 8 = iN L ∧ σ 323 11 = iN n ∧ L ≤ 1000 ∧ n ≤ L ∧ (σ 323 8).toNatClampNeg = L ∧ (σ 323 11).toNatClampNeg = n := by
  obtain ⟨⟨h1, h2⟩, h3, h4⟩ := h
  obtain ⟨e1, l1⟩ := iN_of h1
  obtain ⟨e2, l2⟩ := iN_of h3
  refine ⟨_, _, e1, e2, ?_, ?_, rfl, rfl⟩
  · rw [e1] at h2; exact (iN_le (m := 1000) l1 (by decide)).mp h2
  · rw [e1, e2] at h4; exact (iN_le l2 l1).mp h4
theorem cKd_3 {w : Int32} : cKd w = 3 ↔ isDg w := by
  unfold cKd isDg
  grind
/-- a run's end -/
noncomputable def rnE (c : Int32) (T : gW) (L S : Nat) : Nat := skp (fun i => decide (cKd (T i) = c)) (L - S) S
theorem rnE_b {c : Int32} {T : gW} {L S : Nat} (h : S ≤ L) : S ≤ rnE c T L S ∧ rnE c T L S ≤ L := by
  have := skp_b (P := fun i => decide (cKd (T i) = c)) (d := L - S) (s := S)
  unfold rnE
  omega
/-- a word's letters as a number -/
noncomputable def wvN (T : gW) (s : Nat) : Nat → Int32
  | 0 => 0
  | k + 1 => 27 * wvN T s k + T (s + k) - 96
noncomputable def hRn (σ : gS) (S j : Nat) (v : Int32) : gS := gup (gup σ 323 14 v) 323 11 (iN (S + j))
theorem hRn_1 {σ : gS} {S j : Nat} {v : Int32} : gup (hRn σ S j v) 323 11 (iN (S + j) + 1) = hRn σ S (j + 1) v := by
  unfold hRn
  rw [gup_tw, iN_one]
  rfl
theorem hRn_2 {σ : gS} {S j : Nat} {v w x : Int32} : gup (gup (hRn σ S j v) 323 14 w) 323 11 x = gup (gup σ 323 14 w) 323 11 x := by
  funext q i
  unfold hRn gup
  grind
theorem hWd_x : ∃ f : gS → gS, ∀ σ, f σ = gup (gup (gup σ 323 14 (wvN (σ 330) (σ 323 11).toNatClampNeg (min (rnE 2 (σ 330) (σ 323 8).toNatClampNeg (σ 323 11).toNatClampNeg - (σ 323 11).toNatClampNeg) 6))) 323 11 (iN (rnE 2 (σ 330) (σ 323 8).toNatClampNeg (σ 323 11).toNatClampNeg))) 323 13 (if 6 < rnE 2 (σ 330) (σ 323 8).toNatClampNeg (σ 323 11).toNatClampNeg - (σ 323 11).toNatClampNeg then 6 else 1) := ⟨fun σ => gup (gup (gup σ 323 14 (wvN (σ 330) (σ 323 11).toNatClampNeg (min (rnE 2 (σ 330) (σ 323 8).toNatClampNeg (σ 323 11).toNatClampNeg - (σ 323 11).toNatClampNeg) 6))) 323 11 (iN (rnE 2 (σ 330) (σ 323 8).toNatClampNeg (σ 323 11).toNatClampNeg))) 323 13 (if 6 < rnE 2 (σ 330) (σ 323 8).toNatClampNeg (σ 323 11).toNatClampNeg - (σ 323 11).toNatClampNeg then 6 else 1), fun _ => rfl⟩
noncomputable def hWd : gS → gS := Classical.choose hWd_x
theorem hWd_e : ∀ σ, hWd σ = gup (gup (gup σ 323 14 (wvN (σ 330) (σ 323 11).toNatClampNeg (min (rnE 2 (σ 330) (σ 323 8).toNatClampNeg (σ 323 11).toNatClampNeg - (σ 323 11).toNatClampNeg) 6))) 323 11 (iN (rnE 2 (σ 330) (σ 323 8).toNatClampNeg (σ 323 11).toNatClampNeg))) 323 13 (if 6 < rnE 2 (σ 330) (σ 323 8).toNatClampNeg (σ 323 11).toNatClampNeg - (σ 323 11).toNatClampNeg then 6 else 1) := Classical.choose_spec hWd_x
theorem hNb_x : ∃ f : gS → gS, ∀ σ, f σ = gup (gup (gup σ 323 14 (nuN (σ 330) (σ 323 11).toNatClampNeg (min (rnE 3 (σ 330) (σ 323 8).toNatClampNeg (σ 323 11).toNatClampNeg - (σ 323 11).toNatClampNeg) 2))) 323 11 (iN (rnE 3 (σ 330) (σ 323 8).toNatClampNeg (σ 323 11).toNatClampNeg))) 323 13 (if 2 < rnE 3 (σ 330) (σ 323 8).toNatClampNeg (σ 323 11).toNatClampNeg - (σ 323 11).toNatClampNeg then 6 else 2) := ⟨fun σ => gup (gup (gup σ 323 14 (nuN (σ 330) (σ 323 11).toNatClampNeg (min (rnE 3 (σ 330) (σ 323 8).toNatClampNeg (σ 323 11).toNatClampNeg - (σ 323 11).toNatClampNeg) 2))) 323 11 (iN (rnE 3 (σ 330) (σ 323 8).toNatClampNeg (σ 323 11).toNatClampNeg))) 323 13 (if 2 < rnE 3 (σ 330) (σ 323 8).toNatClampNeg (σ 323 11).toNatClampNeg - (σ 323 11).toNatClampNeg then 6 else 2), fun _ => rfl⟩
noncomputable def hNb : gS → gS := Classical.choose hNb_x
theorem hNb_e : ∀ σ, hNb σ = gup (gup (gup σ 323 14 (nuN (σ 330) (σ 323 11).toNatClampNeg (min (rnE 3 (σ 330) (σ 323 8).toNatClampNeg (σ 323 11).toNatClampNeg - (σ 323 11).toNatClampNeg) 2))) 323 11 (iN (rnE 3 (σ 330) (σ 323 8).toNatClampNeg (σ 323 11).toNatClampNeg))) 323 13 (if 2 < rnE 3 (σ 330) (σ 323 8).toNatClampNeg (σ 323 11).toNatClampNeg - (σ 323 11).toNatClampNeg then 6 else 2) := Classical.choose_spec hNb_x
set_option maxRecDepth 20000 in
theorem w190 {σ : gS} {K : gK} (h : ((0 ≤ (σ 323 11)) ∧ RT σ) ∧ (((bI ((σ 323 11) < σ 323 8 ∧ isSm (σ 330 (σ 323 11).toNatClampNeg))) = 0 → ((¬ 6 < ((σ 323 11) - (σ 323 12)) → K none (gup σ 323 13 1)) ∧ (6 < ((σ 323 11) - (σ 323 12)) → K none (gup σ 323 13 6)))) ∧ (¬ (bI ((σ 323 11) < σ 323 8 ∧ isSm (σ 330 (σ 323 11).toNatClampNeg))) = 0 → ((¬ ((σ 323 11) - (σ 323 12)) < 6 → gE 190 0 [some (.ref 323)] [] (gup σ 323 11 ((σ 323 11) + 1)) K) ∧ (((σ 323 11) - (σ 323 12)) < 6 → (0 ≤ (σ 323 11) ∧ (σ 323 11) < 1000) ∧ gE 190 0 [some (.ref 323)] [] (gup (gup σ 323 14 (((27 * (σ 323 14)) + (σ 330 (σ 323 11).toNatClampNeg)) - 96)) 323 11 (((gup σ 323 14 (((27 * (σ 323 14)) + (σ 330 (σ 323 11).toNatClampNeg)) - 96)) 323 11) + 1)) K))))) : gE 190 0 [some (.ref 323)] [] σ K :=
  gw_run (cy := 190) (cuts := [0]) (inl := []) (pf := gpdv) gpdv_ok 400 (by decide) h
theorem s190 {σ : gS} {K : gK} (hc : NX σ ∧ σ 323 12 = σ 323 11 ∧ σ 323 14 = 0) (hK : K none (hWd σ)) : gE 190 0 [some (.ref 323)] [] σ K := by
  obtain ⟨hN, hb, hv⟩ := hc
  obtain ⟨L, S, eL, eS, lL, lS, nL, nS⟩ := NX_n hN
  rw [hWd_e, nL, nS] at hK
  obtain ⟨E, hE⟩ : ∃ E, rnE 2 (σ 330) L S = E := ⟨_, rfl⟩
  rw [hE] at hK
  have f12 : ∀ j v, hRn σ S j v 323 12 = iN S := fun j v => by
    unfold hRn
    rw [gup_ne (by omega), gup_ne (by omega), hb, eS]
  have f11 : ∀ j v, hRn σ S j v 323 11 = iN (S + j) := fun j v => gup_at _ _ _
  have f14 : ∀ j v, hRn σ S j v 323 14 = v := fun j v => by
    unfold hRn
    rw [gup_ne (by omega), gup_at]
  have f8 : ∀ j v, hRn σ S j v 323 8 = iN L := fun j v => by
    unfold hRn
    rw [gup_ne (by omega), gup_ne (by omega), eL]
  have f30 : ∀ j v, hRn σ S j v 330 = σ 330 := fun j v => funext fun i => by
    unfold hRn
    rw [gup_ne (by omega), gup_ne (by omega)]
  have fT : ∀ j v, RT (hRn σ S j v) := fun j v => by
    show 0 ≤ hRn σ S j v 323 8 ∧ hRn σ S j v 323 8 ≤ 1000
    rw [f8, ← eL]
    exact hN.1
  have fs : ∀ j, S + j ≤ L → iN (S + j) - iN S = iN j := fun j hj => by
    rw [iN_sub (by omega) (by omega), Nat.add_sub_cancel_left]
  have fin : ∀ j, S + j ≤ L → E = S + j → ¬ (S + j < L ∧ isSm (σ 330 (S + j))) → gE 190 0 [some (.ref 323)] [] (hRn σ S j (wvN (σ 330) S (min j 6))) K := by
    intro j hj hE2 hno
    refine w190 ?_
    rw [f11, f12, f8, f30, fs j hj, iN_nat (by omega)]
    refine ⟨⟨(iN_le (k := 0) (by decide) (by omega)).mpr (by omega), fT _ _⟩, fun _ => ⟨fun h6 => ?_, fun h6 => ?_⟩, fun z => absurd (bI_0.mpr (fun q => hno ⟨(iN_lt (by omega) (by omega)).mp q.1, q.2⟩)) z⟩
    · have h6 : ¬ 6 < j := fun q => h6 ((iN_lt (k := 6) (by decide) (by omega)).mpr q)
      rw [hE2, Nat.add_sub_cancel_left, if_neg h6] at hK
      exact hK
    · have h6 : 6 < j := (iN_lt (k := 6) (by decide) (by omega)).mp h6
      rw [hE2, Nat.add_sub_cancel_left, if_pos h6] at hK
      exact hK
  have go : ∀ j, S + j < L → isSm (σ 330 (S + j)) → gE 190 0 [some (.ref 323)] [] (hRn σ S (j + 1) (wvN (σ 330) S (min (j + 1) 6))) K → gE 190 0 [some (.ref 323)] [] (hRn σ S j (wvN (σ 330) S (min j 6))) K := by
    intro j hj hy hn
    refine w190 ?_
    rw [f14, f11, f12, f8, f30, fs j (by omega), iN_nat (by omega), hRn_1, hRn_2, gup_ne (by omega), f11]
    refine ⟨⟨(iN_le (k := 0) (by decide) (by omega)).mpr (by omega), fT _ _⟩, fun z => absurd ⟨(iN_lt (by omega) (by omega)).mpr hj, hy⟩ (bI_0.mp z), fun _ => ⟨fun h6 => ?_, fun h6 => ⟨⟨(iN_le (k := 0) (by decide) (by omega)).mpr (by omega), (iN_lt (m := 1000) (by omega) (by decide)).mpr (by omega)⟩, ?_⟩⟩⟩
    · have h6 : ¬ j < 6 := fun q => h6 ((iN_lt (m := 6) (by omega) (by decide)).mpr q)
      rw [show min (j + 1) 6 = 6 by omega] at hn
      rw [show min j 6 = 6 by omega]
      exact hn
    · have h6 : j < 6 := (iN_lt (m := 6) (by omega) (by decide)).mp h6
      rw [show min (j + 1) 6 = j + 1 by omega] at hn
      rw [show min j 6 = j by omega, iN_one]
      exact hn
  have key : ∀ d j, S + j + d = L → E = skp (fun i => decide (cKd (σ 330 i) = 2)) d (S + j) → gE 190 0 [some (.ref 323)] [] (hRn σ S j (wvN (σ 330) S (min j 6))) K := by
    intro d
    induction d with
    | zero =>
      intro j hj hE2
      exact fin j (by omega) hE2 (by omega)
    | succ d ih =>
      intro j hj hE2
      unfold skp at hE2
      by_cases q : decide (cKd (σ 330 (S + j)) = 2) = true
      · rw [if_pos q] at hE2
        exact go j (by omega) (cKd_2.mp (of_decide_eq_true q)) (ih (j + 1) (by omega) hE2)
      · rw [if_neg q] at hE2
        exact fin j (by omega) hE2 (fun z => q (decide_eq_true (cKd_2.mpr z.2)))
  have e0 : hRn σ S 0 (wvN (σ 330) S (min 0 6)) = σ := by
    unfold hRn
    rw [gup_id (p := 323) (j := 14) (show σ 323 14 = wvN (σ 330) S (min 0 6) from hv), gup_id]
    exact eS
  have := key (L - S) 0 (by omega) hE.symm
  rw [e0] at this
  exact this
noncomputable def f190 : gD := fun Lv σ => match Lv with
  | [some (.ref q0)] => cond (Nat.beq q0 323) (some (some (NX σ ∧ σ 323 12 = σ 323 11 ∧ σ 323 14 = 0), none, hWd σ)) none
  | _ => none
theorem ok190 : gFok 190 f190 := by
  intro Lv σ q h hc K hK
  unfold f190 at h
  split at h
  · rename_i q0
    obtain ⟨hb, h⟩ := c_no h
    have hb0 := hb
    have e0 := b_eq hb0
    subst e0
    cases h
    exact s190 (hc _ rfl) hK
  · cases h
set_option maxRecDepth 20000 in
theorem w191 {σ : gS} {K : gK} (h : ((0 ≤ (σ 323 11)) ∧ RT σ) ∧ (((bI ((σ 323 11) < σ 323 8 ∧ isDg (σ 330 (σ 323 11).toNatClampNeg))) = 0 → ((¬ 2 < ((σ 323 11) - (σ 323 12)) → K none (gup σ 323 13 2)) ∧ (2 < ((σ 323 11) - (σ 323 12)) → K none (gup σ 323 13 6)))) ∧ (¬ (bI ((σ 323 11) < σ 323 8 ∧ isDg (σ 330 (σ 323 11).toNatClampNeg))) = 0 → ((¬ ((σ 323 11) - (σ 323 12)) < 2 → gE 191 0 [some (.ref 323)] [] (gup σ 323 11 ((σ 323 11) + 1)) K) ∧ (((σ 323 11) - (σ 323 12)) < 2 → (0 ≤ (σ 323 11) ∧ (σ 323 11) < 1000) ∧ gE 191 0 [some (.ref 323)] [] (gup (gup σ 323 14 (((10 * (σ 323 14)) + (σ 330 (σ 323 11).toNatClampNeg)) - 48)) 323 11 (((gup σ 323 14 (((10 * (σ 323 14)) + (σ 330 (σ 323 11).toNatClampNeg)) - 48)) 323 11) + 1)) K))))) : gE 191 0 [some (.ref 323)] [] σ K :=
  gw_run (cy := 191) (cuts := [0]) (inl := []) (pf := gpdv) gpdv_ok 400 (by decide) h
theorem s191 {σ : gS} {K : gK} (hc : NX σ ∧ σ 323 12 = σ 323 11 ∧ σ 323 14 = 0) (hK : K none (hNb σ)) : gE 191 0 [some (.ref 323)] [] σ K := by
  obtain ⟨hN, hb, hv⟩ := hc
  obtain ⟨L, S, eL, eS, lL, lS, nL, nS⟩ := NX_n hN
  rw [hNb_e, nL, nS] at hK
  obtain ⟨E, hE⟩ : ∃ E, rnE 3 (σ 330) L S = E := ⟨_, rfl⟩
  rw [hE] at hK
  have f12 : ∀ j v, hRn σ S j v 323 12 = iN S := fun j v => by
    unfold hRn
    rw [gup_ne (by omega), gup_ne (by omega), hb, eS]
  have f11 : ∀ j v, hRn σ S j v 323 11 = iN (S + j) := fun j v => gup_at _ _ _
  have f14 : ∀ j v, hRn σ S j v 323 14 = v := fun j v => by
    unfold hRn
    rw [gup_ne (by omega), gup_at]
  have f8 : ∀ j v, hRn σ S j v 323 8 = iN L := fun j v => by
    unfold hRn
    rw [gup_ne (by omega), gup_ne (by omega), eL]
  have f30 : ∀ j v, hRn σ S j v 330 = σ 330 := fun j v => funext fun i => by
    unfold hRn
    rw [gup_ne (by omega), gup_ne (by omega)]
  have fT : ∀ j v, RT (hRn σ S j v) := fun j v => by
    show 0 ≤ hRn σ S j v 323 8 ∧ hRn σ S j v 323 8 ≤ 1000
    rw [f8, ← eL]
    exact hN.1
  have fs : ∀ j, S + j ≤ L → iN (S + j) - iN S = iN j := fun j hj => by
    rw [iN_sub (by omega) (by omega), Nat.add_sub_cancel_left]
  have fin : ∀ j, S + j ≤ L → E = S + j → ¬ (S + j < L ∧ isDg (σ 330 (S + j))) → gE 191 0 [some (.ref 323)] [] (hRn σ S j (nuN (σ 330) S (min j 2))) K := by
    intro j hj hE2 hno
    refine w191 ?_
    rw [f11, f12, f8, f30, fs j hj, iN_nat (by omega)]
    refine ⟨⟨(iN_le (k := 0) (by decide) (by omega)).mpr (by omega), fT _ _⟩, fun _ => ⟨fun h6 => ?_, fun h6 => ?_⟩, fun z => absurd (bI_0.mpr (fun q => hno ⟨(iN_lt (by omega) (by omega)).mp q.1, q.2⟩)) z⟩
    · have h6 : ¬ 2 < j := fun q => h6 ((iN_lt (k := 2) (by decide) (by omega)).mpr q)
      rw [hE2, Nat.add_sub_cancel_left, if_neg h6] at hK
      exact hK
    · have h6 : 2 < j := (iN_lt (k := 2) (by decide) (by omega)).mp h6
      rw [hE2, Nat.add_sub_cancel_left, if_pos h6] at hK
      exact hK
  have go : ∀ j, S + j < L → isDg (σ 330 (S + j)) → gE 191 0 [some (.ref 323)] [] (hRn σ S (j + 1) (nuN (σ 330) S (min (j + 1) 2))) K → gE 191 0 [some (.ref 323)] [] (hRn σ S j (nuN (σ 330) S (min j 2))) K := by
    intro j hj hy hn
    refine w191 ?_
    rw [f14, f11, f12, f8, f30, fs j (by omega), iN_nat (by omega), hRn_1, hRn_2, gup_ne (by omega), f11]
    refine ⟨⟨(iN_le (k := 0) (by decide) (by omega)).mpr (by omega), fT _ _⟩, fun z => absurd ⟨(iN_lt (by omega) (by omega)).mpr hj, hy⟩ (bI_0.mp z), fun _ => ⟨fun h6 => ?_, fun h6 => ⟨⟨(iN_le (k := 0) (by decide) (by omega)).mpr (by omega), (iN_lt (m := 1000) (by omega) (by decide)).mpr (by omega)⟩, ?_⟩⟩⟩
    · have h6 : ¬ j < 2 := fun q => h6 ((iN_lt (m := 2) (by omega) (by decide)).mpr q)
      rw [show min (j + 1) 2 = 2 by omega] at hn
      rw [show min j 2 = 2 by omega]
      exact hn
    · have h6 : j < 2 := (iN_lt (m := 2) (by omega) (by decide)).mp h6
      rw [show min (j + 1) 2 = j + 1 by omega] at hn
      rw [show min j 2 = j by omega, iN_one]
      exact hn
  have key : ∀ d j, S + j + d = L → E = skp (fun i => decide (cKd (σ 330 i) = 3)) d (S + j) → gE 191 0 [some (.ref 323)] [] (hRn σ S j (nuN (σ 330) S (min j 2))) K := by
    intro d
    induction d with
    | zero =>
      intro j hj hE2
      exact fin j (by omega) hE2 (by omega)
    | succ d ih =>
      intro j hj hE2
      unfold skp at hE2
      by_cases q : decide (cKd (σ 330 (S + j)) = 3) = true
      · rw [if_pos q] at hE2
        exact go j (by omega) (cKd_3.mp (of_decide_eq_true q)) (ih (j + 1) (by omega) hE2)
      · rw [if_neg q] at hE2
        exact fin j (by omega) hE2 (fun z => q (decide_eq_true (cKd_3.mpr z.2)))
  have e0 : hRn σ S 0 (nuN (σ 330) S (min 0 2)) = σ := by
    unfold hRn
    rw [gup_id (p := 323) (j := 14) (show σ 323 14 = nuN (σ 330) S (min 0 2) from hv), gup_id]
    exact eS
  have := key (L - S) 0 (by omega) hE.symm
  rw [e0] at this
  exact this
noncomputable def f191 : gD := fun Lv σ => match Lv with
  | [some (.ref q0)] => cond (Nat.beq q0 323) (some (some (NX σ ∧ σ 323 12 = σ 323 11 ∧ σ 323 14 = 0), none, hNb σ)) none
  | _ => none
theorem ok191 : gFok 191 f191 := by
  intro Lv σ q h hc K hK
  unfold f191 at h
  split at h
  · rename_i q0
    obtain ⟨hb, h⟩ := c_no h
    have hb0 := hb
    have e0 := b_eq hb0
    subst e0
    cases h
    exact s191 (hc _ rfl) hK
  · cases h
noncomputable def gpdw_l : List (Nat × gD) := (190, f190) :: (191, f191) :: gpdv_l
noncomputable def gpdw : gP := gpl0 gpdw_l
theorem gpdw_ok : gPok gpdw := gpl0_cons ok190 (gpl0_cons ok191 (gpdv_ok))
