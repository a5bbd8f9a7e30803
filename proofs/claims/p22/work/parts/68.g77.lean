-- text 77
/-! RELATION: undo -/
def clW (σ : gS) : gS := if σ 113 2 = 0 then σ else cBk σ
theorem GR_undo {B : Nat} {σ : gS} (h : GR B σ) : (∀ q, 323 ≤ q → clW σ q = σ q) ∧ (if σ 113 2 = 0 then -1 else σ 113 2 - 1) = (if σ 323 6 = 0 then -1 else σ 323 6 - 1) ∧ GR B (hUn (clW σ)) := by
  have h' := h
  obtain ⟨g1, g2, g3, g4, g5, g6, g7, g8, g9⟩ := h'
  obtain ⟨⟨p1, p2, p3⟩, p4, p5⟩ := g3
  obtain ⟨O, C, eo, ec, lo, lc, no, nc⟩ := bPa_n p1
  have eU : σ 323 6 = iN C := by rw [← p2]; exact ec
  have hpl : ∀ u, cPl σ u = 115 + 26 * ((O + u) % 8) := fun u => by unfold cPl; rw [no]
  have hm : ∀ u, (O + u) % 8 < 8 := fun u => Nat.mod_lt _ (by decide)
  by_cases hz : σ 113 2 = 0
  · have hz2 : σ 323 6 = 0 := by rw [← p2]; exact hz
    unfold clW hUn
    rw [if_pos hz, if_pos hz, if_pos hz2, if_pos hz2]
    exact ⟨fun q _ => rfl, rfl, h⟩
  · have hz2 : ¬ σ 323 6 = 0 := by rw [← p2]; exact hz
    have C1 : 1 ≤ C := by
      rw [ec] at hz
      have : C ≠ 0 := fun q => hz (by rw [q]; rfl)
      omega
    have eD : iN C - 1 = iN (C - 1) := iN_sub (d := 1) (by omega) (by omega)
    have sU := p3 (C - 1) (by rw [nc]; omega)
    have gU := p4 (C - 1) (by rw [nc]; omega)
    rw [hpl] at sU
    have mU := hm (C - 1)
    have eW : clW σ = cCo (gup σ 113 2 (iN (C - 1))) 6 (115 + 26 * ((O + (C - 1)) % 8)) := by
      unfold clW cBk
      rw [if_neg hz, nc, hpl, ec, eD]
    have s1 : SV (gup σ 113 2 (iN (C - 1))) (115 + 26 * ((O + (C - 1)) % 8)) (rowAt (σ 327) (C - 1)) := SV_blk sU (fun q q1 q2 => funext fun j => gup_ne (by omega))
    have nU : (gup σ 113 2 (iN (C - 1)) (115 + 26 * ((O + (C - 1)) % 8)) 7).toNatClampNeg ≤ 20 := by
      rw [(SV_3 s1).2.2]
      exact (SV_3 s1).2.1
    have sC := cCo_ok (p := 6) (q := 115 + 26 * ((O + (C - 1)) % 8)) (by omega) s1
    have fW : ∀ q j, q < 6 ∨ 32 ≤ q → ¬ (q = 113 ∧ j = 2) → clW σ q j = σ q j := fun q j hq hj => by
      rw [eW, cCo_far (by omega) nU, gup_ne hj]
    have w2 : clW σ 113 2 = iN (C - 1) := by rw [eW, cCo_far (by omega) nU, gup_at]
    have hi : ∀ q, 323 ≤ q → clW σ q = σ q := fun q hq => funext fun j => fW q j (by omega) (by omega)
    refine ⟨hi, by rw [if_neg hz, if_neg hz2, p2], ?_⟩
    unfold hUn
    rw [hi 323 (by decide), hi 327 (by decide), if_neg hz2, eU, eD, iN_nat (by omega)]
    obtain ⟨τ, hτ⟩ : ∃ τ, grow (grow (clW σ) 323 (rup (σ 323) 6 (iN (C - 1)))) 324 (rowAt (σ 327) (C - 1)) = τ := ⟨_, rfl⟩
    rw [hτ]
    have t : ∀ q, ¬ q = 323 → ¬ q = 324 → τ q = clW σ q := fun q q1 q2 => by rw [← hτ, grow_ne q2, grow_ne q1]
    have t324 : τ 324 = rowAt (σ 327) (C - 1) := by rw [← hτ, grow_at]
    have t323 : τ 323 = rup (σ 323) 6 (iN (C - 1)) := by rw [← hτ, grow_ne (by decide), grow_at]
    have tq : ∀ q, q < 6 ∨ 32 ≤ q → ¬ q = 113 → ¬ q = 323 → ¬ q = 324 → τ q = σ q := fun q hq q1 q2 q3 => by
      rw [t q q2 q3]
      exact funext fun j => fW q j hq (by omega)
    have t1 : τ 113 1 = σ 113 1 := by rw [t 113 (by decide) (by decide)]; exact fW 113 1 (by decide) (by decide)
    have t2 : τ 113 2 = iN (C - 1) := by rw [t 113 (by decide) (by decide)]; exact w2
    have eP : ∀ u, cPl τ u = cPl σ u := fun u => by unfold cPl; rw [t1]
    have b8 : 0 ≤ iN (C - 1) ∧ iN (C - 1) ≤ 8 := ⟨(iN_le (k := 0) (by decide) (by omega)).mpr (by omega), (iN_le (m := 8) (by omega) (by decide)).mpr (by omega)⟩
    have e327 := tq 327 (by decide) (by decide) (by decide) (by decide)
    refine ⟨?_, by rw [t324]; exact gU, ⟨⟨?_, ?_, fun u hu => ?_⟩, fun u hu => ?_, fun j hj => ?_⟩, SL_same (Nat.le_refl _) g4 (fun q q1 q2 => tq q (by omega) (by omega) (by omega) (by omega)) (tq 328 (by decide) (by decide) (by decide) (by decide)) (tq 329 (by decide) (by decide) (by decide) (by decide)), ?_, ?_, ?_, ?_, ?_⟩
    · rw [t324]
      rw [← eW] at sC
      exact SV_blk sC (fun q q1 q2 => t q (by omega) (by omega))
    · unfold bPa
      rw [t1, t2]
      exact ⟨p1.1, b8⟩
    · rw [t2, t323, rup_at]
    · rw [t2, iN_nat (by omega)] at hu
      rw [eP, e327, hpl]
      have := p3 u (by rw [nc]; omega)
      rw [hpl] at this
      have mu := hm u
      exact SV_blk this (fun q q1 q2 => tq q (by omega) (by omega) (by omega) (by omega))
    · rw [t2, iN_nat (by omega)] at hu
      rw [e327]
      exact p4 u (by rw [nc]; omega)
    · rw [tq _ (by omega) (by omega) (by omega) (by omega)]
      exact p5 j hj
    · unfold TP
      rw [tq 2 (by decide) (by decide) (by decide) (by decide), tq 3 (by decide) (by decide) (by decide) (by decide), tq 330 (by decide) (by decide) (by decide) (by decide), t323, rup_ne (by decide)]
      exact g5
    · rw [tq 0 (by decide) (by decide) (by decide) (by decide), t323, rup_ne (by decide)]
      exact g6
    · unfold RS
      rw [t324, t323, rup_at]
      have sb := SV_b sU
      exact ⟨sb, b8⟩
    · unfold RZ
      rw [t324, tq 325 (by decide) (by decide) (by decide) (by decide), tq 326 (by decide) (by decide) (by decide) (by decide)]
      exact ⟨zR_rowAt _ _, g8.2.1, g8.2.2⟩
    · unfold RT
      rw [t323, rup_ne (by decide)]
      exact g9
-- text 78
/-! THE CLASS: what must stand, and what may -/
/-- the reader stands on a token -/
def RK (σ : gS) : Prop := ((RW σ ∧ (¬ σ 1 4 = 0 → RD σ)) ∧ (0 ≤ σ 1 3 ∧ σ 1 3 ≤ 1001)) ∧ σ 1 4 = cKd (cBy (σ 3) (σ 2 1).toNatClampNeg (σ 1 2).toNatClampNeg)
theorem cTok_ne {σ : gS} {q j : Nat} (h : ¬ (q = 1 ∧ (j = 2 ∨ j = 3 ∨ j = 4))) : cTok σ q j = σ q j := by
  unfold cTok cTk4
  rw [gup_ne (by omega), gup_ne (by omega), gup_ne (by omega)]
theorem cTok_1 {σ : gS} {L n : Nat} (nL : (σ 2 1).toNatClampNeg = L) (nn : (σ 1 3).toNatClampNeg = n) : cTok σ 1 2 = iN (tkS (σ 3) L n) ∧ cTok σ 1 3 = iN (tkE (σ 3) L n) ∧ cTok σ 1 4 = tkK (σ 3) L n := by
  unfold cTok cTk4
  rw [nL, nn]
  refine ⟨?_, gup_at _ _ _, ?_⟩
  · rw [gup_ne (by omega), gup_ne (by omega), gup_at]
  · rw [gup_ne (by omega), gup_at]
theorem tkE_k {T : gW} {L n : Nat} (h : n ≤ L) (hk : ¬ tkK T L n = 0) : tkE T L n ≤ L := by
  have hs := tkS_b (T := T) h
  have sL : tkS T L n < L := by
    apply Nat.lt_of_not_le
    intro q
    apply hk
    unfold tkK cBy
    rw [if_neg (by omega)]
    decide
  have b := skp_b (P := fun i => decide (cKd (T i) = tkK T L n)) (d := L - (tkS T L n + 1)) (s := tkS T L n + 1)
  unfold tkE
  split <;> omega
theorem cTok_RK {σ : gS} (h : RD σ) : RK (cTok σ) := by
  obtain ⟨L, n, eL, en, lL, ln, nL, nn⟩ := RD_n h
  obtain ⟨c1, c2, c3⟩ := cTok_1 nL nn
  have bS := tkS_b (T := σ 3) ln
  have bE := tkE_b (T := σ 3) ln
  have e2 : cTok σ 2 1 = σ 2 1 := cTok_ne (by omega)
  refine ⟨⟨⟨?_, fun hk => ?_⟩, ?_⟩, ?_⟩
  · unfold RW
    rw [e2, c1]
    exact ⟨h.1, (iN_le (k := 0) (by decide) (by omega)).mpr (by omega), (iN_le (m := 1000) (by omega) (by decide)).mpr (by omega)⟩
  · rw [c3] at hk
    have l := tkE_k ln hk
    unfold RD
    rw [e2, c2, eL]
    refine ⟨by rw [← eL]; exact h.1, (iN_le (k := 0) (by decide) (by omega)).mpr (by omega), (iN_le (by omega) (by omega)).mpr l⟩
  · rw [c2]
    exact ⟨(iN_le (k := 0) (by decide) (by omega)).mpr (by omega), (iN_le (m := 1001) (by omega) (by decide)).mpr (by omega)⟩
  · have e3 : cTok σ 3 = σ 3 := funext fun j => cTok_ne (by omega)
    rw [c3, c1, e2, e3, nL, iN_nat (by omega)]
    rfl
theorem RK_w {σ : gS} {x : Int32} (h : RK σ) : RK (gup σ 1 5 x) := by
  obtain ⟨⟨⟨h1, h2⟩, h3⟩, h4⟩ := h
  have e3 : gup σ 1 5 x 3 = σ 3 := funext fun j => gup_ne (by omega)
  unfold RK RW RD at *
  rw [gup_ne (by omega), gup_ne (by omega), gup_ne (by omega), gup_ne (by omega), e3]
  exact ⟨⟨⟨h1, h2⟩, h3⟩, h4⟩
/-- what must stand -/
def cPs (σ : gS) (c : Int32) : gS := if σ 1 5 = 0 ∧ ¬ c = 0 then cTok σ else gup σ 1 5 1
theorem cPs_RK {σ : gS} {c : Int32} (h : RK σ) (hc : ¬ c = 0 → ¬ σ 1 4 = 0) : RK (cPs σ c) := by
  unfold cPs
  split
  · rename_i q
    exact cTok_RK (h.1.1.2 (hc q.2))
  · exact RK_w h
theorem gup_id {σ : gS} {p j : Nat} {x : Int32} (h : σ p j = x) : gup σ p j x = σ := by
  funext q i
  unfold gup
  split
  · rename_i e
    rw [e.1, e.2, h]
  · rfl
/-- a number's digits -/
def nuN (T : gW) (s : Nat) : Nat → Int32
  | 0 => 0
  | k + 1 => 10 * nuN T s k + T (s + k) - 48
def cNu (σ : gS) : Int32 := if σ 1 4 = 3 ∧ ¬ 2 < σ 1 3 - σ 1 2 then nuN (σ 3) (σ 1 2).toNatClampNeg ((σ 1 3).toNatClampNeg - (σ 1 2).toNatClampNeg) else -1
set_option maxRecDepth 20000 in
theorem w21 {σ : gS} {K : gK} (h : ((¬ (σ 1 4) = 3 → K (some (.int (-1))) σ) ∧ ((σ 1 4) = 3 → ((¬ 2 < ((σ 1 3) - (σ 1 2)) → gE 21 30 [some (.ref 1), some (.int 0), some (.int (σ 1 2))] [] σ K) ∧ (2 < ((σ 1 3) - (σ 1 2)) → K (some (.int (-1))) σ))))) : gE 21 0 [some (.ref 1), none, none] [] σ K :=
  gw_run (cy := 21) (cuts := [30]) (inl := []) (pf := gpdm) gpdm_ok 400 (by decide) h
set_option maxRecDepth 20000 in
theorem v21 {σ : gS} {K : gK} {n i : Int32} (h : ((¬ i < (σ 1 3) → K (some (.int n)) σ) ∧ (i < (σ 1 3) → (σ 2 1 ≤ 1000) ∧ gE 21 30 [some (.ref 1), some (.int (((10 * n) + (if 0 ≤ i ∧ i < σ 2 1 then σ 3 i.toNatClampNeg else -1)) - 48)), some (.int (i + 1))] [] σ K))) : gE 21 30 [some (.ref 1), some (.int n), some (.int i)] [] σ K :=
  gw_run (cy := 21) (cuts := [30]) (inl := []) (pf := gpdm) gpdm_ok 400 (by decide) h
theorem s21 {σ : gS} {K : gK} (hc : RK σ) (hK : K (some (.int (cNu σ))) σ) : gE 21 0 [some (.ref 1), none, none] [] σ K := by
  obtain ⟨⟨⟨hr, hd⟩, hE⟩, h4⟩ := hc
  obtain ⟨L, S, eL, eS, lL, lS, nL, nS⟩ := RW_n hr
  unfold cNu at hK
  refine w21 ⟨fun h => ?_, fun h => ⟨fun h2 => ?_, fun h2 => ?_⟩⟩
  · rw [if_neg (fun q => h q.1)] at hK; exact hK
  · rw [if_pos ⟨h, h2⟩, nS] at hK
    obtain ⟨L', E, eL', eE, lL', lE, nL', nE⟩ := RD_n (hd (by rw [h]; decide))
    have : L' = L := by rw [← nL', ← nL]
    subst this
    rw [nE] at hK
    have key : ∀ d k, S + k + d = max S E → gE 21 30 [some (.ref 1), some (.int (nuN (σ 3) S k)), some (.int (iN (S + k)))] [] σ K := by
      intro d
      induction d with
      | zero =>
        intro k hk
        have e : E - S = k := by omega
        rw [e] at hK
        refine v21 ⟨fun _ => hK, fun h => ?_⟩
        rw [eE] at h
        exact absurd ((iN_lt (by omega) (by omega)).mp h) (by omega)
      | succ d ih =>
        intro k hk
        refine v21 ⟨fun h => ?_, fun _ => ⟨hr.1.2, ?_⟩⟩
        · exfalso
          apply h
          rw [eE]
          exact (iN_lt (by omega) (by omega)).mpr (by omega)
        · rw [eL, cBy_e2 lL (by omega), iN_one]
          have eb : cBy (σ 3) L' (S + k) = σ 3 (S + k) := if_pos (by omega)
          rw [eb]
          exact ih (k + 1) (by omega)
    rw [eS]
    exact key (max S E - S) 0 (by omega)
  · rw [if_neg (fun q => q.2 h2)] at hK; exact hK
noncomputable def f21 : gD := fun Lv σ => match Lv with
  | [some (.ref q0), none, none] => cond (Nat.beq q0 1) (some (some (RK σ), some (.int (cNu σ)), σ)) none
  | _ => none
theorem ok21 : gFok 21 f21 := by
  intro Lv σ q h hc K hK
  unfold f21 at h
  split at h
  · rename_i q0
    obtain ⟨hb, h⟩ := c_no h
    have hb0 := hb
    have e0 := b_eq hb0
    subst e0
    cases h
    exact s21 (hc _ rfl) hK
  · cases h
set_option maxRecDepth 20000 in
theorem w22 {σ : gS} {K : gK} {c : Int32} (h : ((¬ (σ 1 5) = 0 → ((1 : Int32) = 0 ∨ (1 : Int32) = 1) ∧ ((¬ ((gup σ 1 5 1) 1 5) = 0 → K none (gup σ 1 5 1)) ∧ (((gup σ 1 5 1) 1 5) = 0 → (RD (gup σ 1 5 1)) ∧ K none (cTok (gup σ 1 5 1))))) ∧ ((σ 1 5) = 0 → ((¬ c = 0 → ((0 : Int32) = 0 ∨ (0 : Int32) = 1) ∧ ((¬ ((gup σ 1 5 0) 1 5) = 0 → K none (gup σ 1 5 0)) ∧ (((gup σ 1 5 0) 1 5) = 0 → (RD (gup σ 1 5 0)) ∧ K none (cTok (gup σ 1 5 0))))) ∧ (c = 0 → ((1 : Int32) = 0 ∨ (1 : Int32) = 1) ∧ ((¬ ((gup σ 1 5 1) 1 5) = 0 → K none (gup σ 1 5 1)) ∧ (((gup σ 1 5 1) 1 5) = 0 → (RD (gup σ 1 5 1)) ∧ K none (cTok (gup σ 1 5 1))))))))) : gE 22 0 [some (.ref 1), some (.int c)] [] σ K :=
  gw_run (cy := 22) (cuts := []) (inl := []) (pf := gpdm) gpdm_ok 400 (by decide) h
theorem s22 {σ : gS} {K : gK} {c : Int32} (hc : ¬ c = 0 → RD σ) (hK : K none (cPs σ c)) : gE 22 0 [some (.ref 1), some (.int c)] [] σ K := by
  unfold cPs at hK
  refine w22 ?_
  have g1 : gup σ 1 5 1 1 5 = 1 := gup_at _ _ _
  have g0 : gup σ 1 5 0 1 5 = 0 := gup_at _ _ _
  rw [g1, g0]
  refine ⟨fun h => ⟨Or.inr rfl, fun _ => ?_, fun q => absurd q (by decide)⟩, fun h => ⟨fun h2 => ⟨Or.inl rfl, fun q => absurd rfl q, fun _ => ?_⟩, fun h2 => ⟨Or.inr rfl, fun _ => ?_, fun q => absurd q (by decide)⟩⟩⟩
  · rw [if_neg (fun q => h q.1)] at hK; exact hK
  · rw [if_pos ⟨h, h2⟩] at hK
    rw [gup_id h]
    exact ⟨hc h2, hK⟩
  · rw [if_neg (fun q => q.2 h2)] at hK; exact hK
noncomputable def f22 : gD := fun Lv σ => match Lv with
  | [some (.ref q0), some (.int c)] => cond (Nat.beq q0 1) (some (some (¬ c = 0 → RD σ), none, cPs σ c)) none
  | _ => none
theorem ok22 : gFok 22 f22 := by
  intro Lv σ q h hc K hK
  unfold f22 at h
  split at h
  · rename_i q0 c
    obtain ⟨hb, h⟩ := c_no h
    have hb0 := hb
    have e0 := b_eq hb0
    subst e0
    cases h
    exact s22 (hc _ rfl) hK
  · cases h
noncomputable def gpdn_l : List (Nat × gD) := (21, f21) :: (22, f22) :: gpdm_l
noncomputable def gpdn : gP := gpl0 gpdn_l
theorem gpdn_ok : gPok gpdn := gpl0_cons ok21 (gpl0_cons ok22 (gpdm_ok))
set_option maxRecDepth 20000 in
theorem w23_1000001 {σ : gS} {K : gK} (h : (RW σ) ∧ (¬ (bI (cWd σ (jW 1000001))) = 0 → RD σ) ∧ K none (cPs σ (bI (cWd σ (jW 1000001))))) : gE 23 0 [some (.ref 1), some (.ref 1000001)] [] σ K :=
  gw_run (cy := 23) (cuts := []) (inl := []) (pf := gpdn) gpdn_ok 400 (by decide) h
theorem s23_1000001 {σ : gS} {K : gK} (hc : RK σ) (hK : K none (cPs σ (bI (cWd σ (jW 1000001))))) : gE 23 0 [some (.ref 1), some (.ref 1000001)] [] σ K := by
  refine w23_1000001 ⟨hc.1.1.1, fun h => hc.1.1.2 ?_, hK⟩
  have q : cWd σ (jW 1000001) := Decidable.not_not.mp (fun q => h (bI_0.mpr q))
  rw [q.1]
  decide
set_option maxRecDepth 20000 in
theorem w23_1000002 {σ : gS} {K : gK} (h : (RW σ) ∧ (¬ (bI (cWd σ (jW 1000002))) = 0 → RD σ) ∧ K none (cPs σ (bI (cWd σ (jW 1000002))))) : gE 23 0 [some (.ref 1), some (.ref 1000002)] [] σ K :=
  gw_run (cy := 23) (cuts := []) (inl := []) (pf := gpdn) gpdn_ok 400 (by decide) h
theorem s23_1000002 {σ : gS} {K : gK} (hc : RK σ) (hK : K none (cPs σ (bI (cWd σ (jW 1000002))))) : gE 23 0 [some (.ref 1), some (.ref 1000002)] [] σ K := by
  refine w23_1000002 ⟨hc.1.1.1, fun h => hc.1.1.2 ?_, hK⟩
  have q : cWd σ (jW 1000002) := Decidable.not_not.mp (fun q => h (bI_0.mpr q))
  rw [q.1]
  decide
set_option maxRecDepth 20000 in
theorem w23_1000003 {σ : gS} {K : gK} (h : (RW σ) ∧ (¬ (bI (cWd σ (jW 1000003))) = 0 → RD σ) ∧ K none (cPs σ (bI (cWd σ (jW 1000003))))) : gE 23 0 [some (.ref 1), some (.ref 1000003)] [] σ K :=
  gw_run (cy := 23) (cuts := []) (inl := []) (pf := gpdn) gpdn_ok 400 (by decide) h
theorem s23_1000003 {σ : gS} {K : gK} (hc : RK σ) (hK : K none (cPs σ (bI (cWd σ (jW 1000003))))) : gE 23 0 [some (.ref 1), some (.ref 1000003)] [] σ K := by
  refine w23_1000003 ⟨hc.1.1.1, fun h => hc.1.1.2 ?_, hK⟩
  have q : cWd σ (jW 1000003) := Decidable.not_not.mp (fun q => h (bI_0.mpr q))
  rw [q.1]
  decide
set_option maxRecDepth 20000 in
theorem w23_1000004 {σ : gS} {K : gK} (h : (RW σ) ∧ (¬ (bI (cWd σ (jW 1000004))) = 0 → RD σ) ∧ K none (cPs σ (bI (cWd σ (jW 1000004))))) : gE 23 0 [some (.ref 1), some (.ref 1000004)] [] σ K :=
  gw_run (cy := 23) (cuts := []) (inl := []) (pf := gpdn) gpdn_ok 400 (by decide) h
theorem s23_1000004 {σ : gS} {K : gK} (hc : RK σ) (hK : K none (cPs σ (bI (cWd σ (jW 1000004))))) : gE 23 0 [some (.ref 1), some (.ref 1000004)] [] σ K := by
  refine w23_1000004 ⟨hc.1.1.1, fun h => hc.1.1.2 ?_, hK⟩
  have q : cWd σ (jW 1000004) := Decidable.not_not.mp (fun q => h (bI_0.mpr q))
  rw [q.1]
  decide
set_option maxRecDepth 20000 in
theorem w23_1000005 {σ : gS} {K : gK} (h : (RW σ) ∧ (¬ (bI (cWd σ (jW 1000005))) = 0 → RD σ) ∧ K none (cPs σ (bI (cWd σ (jW 1000005))))) : gE 23 0 [some (.ref 1), some (.ref 1000005)] [] σ K :=
  gw_run (cy := 23) (cuts := []) (inl := []) (pf := gpdn) gpdn_ok 400 (by decide) h
theorem s23_1000005 {σ : gS} {K : gK} (hc : RK σ) (hK : K none (cPs σ (bI (cWd σ (jW 1000005))))) : gE 23 0 [some (.ref 1), some (.ref 1000005)] [] σ K := by
  refine w23_1000005 ⟨hc.1.1.1, fun h => hc.1.1.2 ?_, hK⟩
  have q : cWd σ (jW 1000005) := Decidable.not_not.mp (fun q => h (bI_0.mpr q))
  rw [q.1]
  decide
set_option maxRecDepth 20000 in
theorem w23_1000006 {σ : gS} {K : gK} (h : (RW σ) ∧ (¬ (bI (cWd σ (jW 1000006))) = 0 → RD σ) ∧ K none (cPs σ (bI (cWd σ (jW 1000006))))) : gE 23 0 [some (.ref 1), some (.ref 1000006)] [] σ K :=
  gw_run (cy := 23) (cuts := []) (inl := []) (pf := gpdn) gpdn_ok 400 (by decide) h
theorem s23_1000006 {σ : gS} {K : gK} (hc : RK σ) (hK : K none (cPs σ (bI (cWd σ (jW 1000006))))) : gE 23 0 [some (.ref 1), some (.ref 1000006)] [] σ K := by
  refine w23_1000006 ⟨hc.1.1.1, fun h => hc.1.1.2 ?_, hK⟩
  have q : cWd σ (jW 1000006) := Decidable.not_not.mp (fun q => h (bI_0.mpr q))
  rw [q.1]
  decide
set_option maxRecDepth 20000 in
theorem w23_1000007 {σ : gS} {K : gK} (h : (RW σ) ∧ (¬ (bI (cWd σ (jW 1000007))) = 0 → RD σ) ∧ K none (cPs σ (bI (cWd σ (jW 1000007))))) : gE 23 0 [some (.ref 1), some (.ref 1000007)] [] σ K :=
  gw_run (cy := 23) (cuts := []) (inl := []) (pf := gpdn) gpdn_ok 400 (by decide) h
theorem s23_1000007 {σ : gS} {K : gK} (hc : RK σ) (hK : K none (cPs σ (bI (cWd σ (jW 1000007))))) : gE 23 0 [some (.ref 1), some (.ref 1000007)] [] σ K := by
  refine w23_1000007 ⟨hc.1.1.1, fun h => hc.1.1.2 ?_, hK⟩
  have q : cWd σ (jW 1000007) := Decidable.not_not.mp (fun q => h (bI_0.mpr q))
  rw [q.1]
  decide
set_option maxRecDepth 20000 in
theorem w23_1000008 {σ : gS} {K : gK} (h : (RW σ) ∧ (¬ (bI (cWd σ (jW 1000008))) = 0 → RD σ) ∧ K none (cPs σ (bI (cWd σ (jW 1000008))))) : gE 23 0 [some (.ref 1), some (.ref 1000008)] [] σ K :=
  gw_run (cy := 23) (cuts := []) (inl := []) (pf := gpdn) gpdn_ok 400 (by decide) h
theorem s23_1000008 {σ : gS} {K : gK} (hc : RK σ) (hK : K none (cPs σ (bI (cWd σ (jW 1000008))))) : gE 23 0 [some (.ref 1), some (.ref 1000008)] [] σ K := by
  refine w23_1000008 ⟨hc.1.1.1, fun h => hc.1.1.2 ?_, hK⟩
  have q : cWd σ (jW 1000008) := Decidable.not_not.mp (fun q => h (bI_0.mpr q))
  rw [q.1]
  decide
set_option maxRecDepth 20000 in
theorem w23_1000009 {σ : gS} {K : gK} (h : (RW σ) ∧ (¬ (bI (cWd σ (jW 1000009))) = 0 → RD σ) ∧ K none (cPs σ (bI (cWd σ (jW 1000009))))) : gE 23 0 [some (.ref 1), some (.ref 1000009)] [] σ K :=
  gw_run (cy := 23) (cuts := []) (inl := []) (pf := gpdn) gpdn_ok 400 (by decide) h
theorem s23_1000009 {σ : gS} {K : gK} (hc : RK σ) (hK : K none (cPs σ (bI (cWd σ (jW 1000009))))) : gE 23 0 [some (.ref 1), some (.ref 1000009)] [] σ K := by
  refine w23_1000009 ⟨hc.1.1.1, fun h => hc.1.1.2 ?_, hK⟩
  have q : cWd σ (jW 1000009) := Decidable.not_not.mp (fun q => h (bI_0.mpr q))
  rw [q.1]
  decide
set_option maxRecDepth 20000 in
theorem w23_1000010 {σ : gS} {K : gK} (h : (RW σ) ∧ (¬ (bI (cWd σ (jW 1000010))) = 0 → RD σ) ∧ K none (cPs σ (bI (cWd σ (jW 1000010))))) : gE 23 0 [some (.ref 1), some (.ref 1000010)] [] σ K :=
  gw_run (cy := 23) (cuts := []) (inl := []) (pf := gpdn) gpdn_ok 400 (by decide) h
theorem s23_1000010 {σ : gS} {K : gK} (hc : RK σ) (hK : K none (cPs σ (bI (cWd σ (jW 1000010))))) : gE 23 0 [some (.ref 1), some (.ref 1000010)] [] σ K := by
  refine w23_1000010 ⟨hc.1.1.1, fun h => hc.1.1.2 ?_, hK⟩
  have q : cWd σ (jW 1000010) := Decidable.not_not.mp (fun q => h (bI_0.mpr q))
  rw [q.1]
  decide
noncomputable def f23 : gD := fun Lv σ => match Lv with
  | [some (.ref q0), some (.ref p)] => cond ((Nat.beq p 1000001 || Nat.beq p 1000002 || Nat.beq p 1000003 || Nat.beq p 1000004 || Nat.beq p 1000005 || Nat.beq p 1000006 || Nat.beq p 1000007 || Nat.beq p 1000008 || Nat.beq p 1000009 || Nat.beq p 1000010) && (Nat.beq q0 1)) (some (some (RK σ), none, cPs σ (bI (cWd σ (jW p))))) none
  | _ => none
theorem ok23 : gFok 23 f23 := by
  intro Lv σ q h hc K hK
  unfold f23 at h
  split at h
  · rename_i q0 p
    obtain ⟨hb, h⟩ := c_no h
    obtain ⟨hc1, hb1⟩ := s_and hb
    have hb0 := hc1
    have e0 := b_eq hb1
    subst e0
    rcases s_or hb0 with hb0 | hb0
    · rcases s_or hb0 with hb0 | hb0
      · rcases s_or hb0 with hb0 | hb0
        · rcases s_or hb0 with hb0 | hb0
          · rcases s_or hb0 with hb0 | hb0
            · rcases s_or hb0 with hb0 | hb0
              · rcases s_or hb0 with hb0 | hb0
                · rcases s_or hb0 with hb0 | hb0
                  · rcases s_or hb0 with hb0 | hb0
                    · have e := b_eq hb0
                      subst e
                      cases h
                      exact s23_1000001 (hc _ rfl) hK
                    · have e := b_eq hb0
                      subst e
                      cases h
                      exact s23_1000002 (hc _ rfl) hK
                  · have e := b_eq hb0
                    subst e
                    cases h
                    exact s23_1000003 (hc _ rfl) hK
                · have e := b_eq hb0
                  subst e
                  cases h
                  exact s23_1000004 (hc _ rfl) hK
              · have e := b_eq hb0
                subst e
                cases h
                exact s23_1000005 (hc _ rfl) hK
            · have e := b_eq hb0
              subst e
              cases h
              exact s23_1000006 (hc _ rfl) hK
          · have e := b_eq hb0
            subst e
            cases h
            exact s23_1000007 (hc _ rfl) hK
        · have e := b_eq hb0
          subst e
          cases h
          exact s23_1000008 (hc _ rfl) hK
      · have e := b_eq hb0
        subst e
        cases h
        exact s23_1000009 (hc _ rfl) hK
    · have e := b_eq hb0
      subst e
      cases h
      exact s23_1000010 (hc _ rfl) hK
  · cases h
set_option maxRecDepth 20000 in
theorem w24_1000001 {σ : gS} {K : gK} (h : ((¬ (σ 1 5) = 0 → (((0 : Int32) = 0 → ((0 : Int32) = 0 ∨ (0 : Int32) = 1) ∧ K (some (.int 0)) σ) ∧ (¬ (0 : Int32) = 0 → (RD σ) ∧ ((0 : Int32) = 0 ∨ (0 : Int32) = 1) ∧ K (some (.int 0)) (cTok σ)))) ∧ ((σ 1 5) = 0 → (RW σ) ∧ (((bI (cWd σ (jW 1000001))) = 0 → (((0 : Int32) = 0 → ((0 : Int32) = 0 ∨ (0 : Int32) = 1) ∧ K (some (.int 0)) σ) ∧ (¬ (0 : Int32) = 0 → (RD σ) ∧ ((0 : Int32) = 0 ∨ (0 : Int32) = 1) ∧ K (some (.int 0)) (cTok σ)))) ∧ (¬ (bI (cWd σ (jW 1000001))) = 0 → (((1 : Int32) = 0 → ((1 : Int32) = 0 ∨ (1 : Int32) = 1) ∧ K (some (.int 1)) σ) ∧ (¬ (1 : Int32) = 0 → (RD σ) ∧ ((1 : Int32) = 0 ∨ (1 : Int32) = 1) ∧ K (some (.int 1)) (cTok σ)))))))) : gE 24 0 [some (.ref 1), some (.ref 1000001), none] [] σ K :=
  gw_run (cy := 24) (cuts := []) (inl := []) (pf := gpdn) gpdn_ok 400 (by decide) h
theorem s24_1000001 {σ : gS} {K : gK} (hc : RK σ) (hK : K (some (.int (bI (σ 1 5 = 0 ∧ cWd σ (jW 1000001))))) (if σ 1 5 = 0 ∧ cWd σ (jW 1000001) then cTok σ else σ)) : gE 24 0 [some (.ref 1), some (.ref 1000001), none] [] σ K := by
  refine w24_1000001 ⟨fun h => ⟨fun _ => ⟨Or.inl rfl, ?_⟩, fun q => absurd rfl q⟩, fun h => ⟨hc.1.1.1, fun h2 => ⟨fun _ => ⟨Or.inl rfl, ?_⟩, fun q => absurd rfl q⟩, fun h2 => ⟨fun q => absurd q (by decide), fun _ => ⟨hc.1.1.2 ?_, Or.inr rfl, ?_⟩⟩⟩⟩
  · rw [if_neg (fun q => h q.1), bI_n (fun q => h q.1)] at hK; exact hK
  · have h2 := bI_0.mp h2
    rw [if_neg (fun q => h2 q.2), bI_n (fun q => h2 q.2)] at hK; exact hK
  · have q : cWd σ (jW 1000001) := Decidable.not_not.mp (fun q => h2 (bI_0.mpr q))
    rw [q.1]
    decide
  · have q : cWd σ (jW 1000001) := Decidable.not_not.mp (fun q => h2 (bI_0.mpr q))
    rw [if_pos ⟨h, q⟩, bI_y ⟨h, q⟩] at hK; exact hK
set_option maxRecDepth 20000 in
theorem w24_1000002 {σ : gS} {K : gK} (h : ((¬ (σ 1 5) = 0 → (((0 : Int32) = 0 → ((0 : Int32) = 0 ∨ (0 : Int32) = 1) ∧ K (some (.int 0)) σ) ∧ (¬ (0 : Int32) = 0 → (RD σ) ∧ ((0 : Int32) = 0 ∨ (0 : Int32) = 1) ∧ K (some (.int 0)) (cTok σ)))) ∧ ((σ 1 5) = 0 → (RW σ) ∧ (((bI (cWd σ (jW 1000002))) = 0 → (((0 : Int32) = 0 → ((0 : Int32) = 0 ∨ (0 : Int32) = 1) ∧ K (some (.int 0)) σ) ∧ (¬ (0 : Int32) = 0 → (RD σ) ∧ ((0 : Int32) = 0 ∨ (0 : Int32) = 1) ∧ K (some (.int 0)) (cTok σ)))) ∧ (¬ (bI (cWd σ (jW 1000002))) = 0 → (((1 : Int32) = 0 → ((1 : Int32) = 0 ∨ (1 : Int32) = 1) ∧ K (some (.int 1)) σ) ∧ (¬ (1 : Int32) = 0 → (RD σ) ∧ ((1 : Int32) = 0 ∨ (1 : Int32) = 1) ∧ K (some (.int 1)) (cTok σ)))))))) : gE 24 0 [some (.ref 1), some (.ref 1000002), none] [] σ K :=
  gw_run (cy := 24) (cuts := []) (inl := []) (pf := gpdn) gpdn_ok 400 (by decide) h
theorem s24_1000002 {σ : gS} {K : gK} (hc : RK σ) (hK : K (some (.int (bI (σ 1 5 = 0 ∧ cWd σ (jW 1000002))))) (if σ 1 5 = 0 ∧ cWd σ (jW 1000002) then cTok σ else σ)) : gE 24 0 [some (.ref 1), some (.ref 1000002), none] [] σ K := by
  refine w24_1000002 ⟨fun h => ⟨fun _ => ⟨Or.inl rfl, ?_⟩, fun q => absurd rfl q⟩, fun h => ⟨hc.1.1.1, fun h2 => ⟨fun _ => ⟨Or.inl rfl, ?_⟩, fun q => absurd rfl q⟩, fun h2 => ⟨fun q => absurd q (by decide), fun _ => ⟨hc.1.1.2 ?_, Or.inr rfl, ?_⟩⟩⟩⟩
  · rw [if_neg (fun q => h q.1), bI_n (fun q => h q.1)] at hK; exact hK
  · have h2 := bI_0.mp h2
    rw [if_neg (fun q => h2 q.2), bI_n (fun q => h2 q.2)] at hK; exact hK
  · have q : cWd σ (jW 1000002) := Decidable.not_not.mp (fun q => h2 (bI_0.mpr q))
    rw [q.1]
    decide
  · have q : cWd σ (jW 1000002) := Decidable.not_not.mp (fun q => h2 (bI_0.mpr q))
    rw [if_pos ⟨h, q⟩, bI_y ⟨h, q⟩] at hK; exact hK
set_option maxRecDepth 20000 in
theorem w24_1000003 {σ : gS} {K : gK} (h : ((¬ (σ 1 5) = 0 → (((0 : Int32) = 0 → ((0 : Int32) = 0 ∨ (0 : Int32) = 1) ∧ K (some (.int 0)) σ) ∧ (¬ (0 : Int32) = 0 → (RD σ) ∧ ((0 : Int32) = 0 ∨ (0 : Int32) = 1) ∧ K (some (.int 0)) (cTok σ)))) ∧ ((σ 1 5) = 0 → (RW σ) ∧ (((bI (cWd σ (jW 1000003))) = 0 → (((0 : Int32) = 0 → ((0 : Int32) = 0 ∨ (0 : Int32) = 1) ∧ K (some (.int 0)) σ) ∧ (¬ (0 : Int32) = 0 → (RD σ) ∧ ((0 : Int32) = 0 ∨ (0 : Int32) = 1) ∧ K (some (.int 0)) (cTok σ)))) ∧ (¬ (bI (cWd σ (jW 1000003))) = 0 → (((1 : Int32) = 0 → ((1 : Int32) = 0 ∨ (1 : Int32) = 1) ∧ K (some (.int 1)) σ) ∧ (¬ (1 : Int32) = 0 → (RD σ) ∧ ((1 : Int32) = 0 ∨ (1 : Int32) = 1) ∧ K (some (.int 1)) (cTok σ)))))))) : gE 24 0 [some (.ref 1), some (.ref 1000003), none] [] σ K :=
  gw_run (cy := 24) (cuts := []) (inl := []) (pf := gpdn) gpdn_ok 400 (by decide) h
theorem s24_1000003 {σ : gS} {K : gK} (hc : RK σ) (hK : K (some (.int (bI (σ 1 5 = 0 ∧ cWd σ (jW 1000003))))) (if σ 1 5 = 0 ∧ cWd σ (jW 1000003) then cTok σ else σ)) : gE 24 0 [some (.ref 1), some (.ref 1000003), none] [] σ K := by
  refine w24_1000003 ⟨fun h => ⟨fun _ => ⟨Or.inl rfl, ?_⟩, fun q => absurd rfl q⟩, fun h => ⟨hc.1.1.1, fun h2 => ⟨fun _ => ⟨Or.inl rfl, ?_⟩, fun q => absurd rfl q⟩, fun h2 => ⟨fun q => absurd q (by decide), fun _ => ⟨hc.1.1.2 ?_, Or.inr rfl, ?_⟩⟩⟩⟩
  · rw [if_neg (fun q => h q.1), bI_n (fun q => h q.1)] at hK; exact hK
  · have h2 := bI_0.mp h2
    rw [if_neg (fun q => h2 q.2), bI_n (fun q => h2 q.2)] at hK; exact hK
  · have q : cWd σ (jW 1000003) := Decidable.not_not.mp (fun q => h2 (bI_0.mpr q))
    rw [q.1]
    decide
  · have q : cWd σ (jW 1000003) := Decidable.not_not.mp (fun q => h2 (bI_0.mpr q))
    rw [if_pos ⟨h, q⟩, bI_y ⟨h, q⟩] at hK; exact hK
set_option maxRecDepth 20000 in
theorem w24_1000004 {σ : gS} {K : gK} (h : ((¬ (σ 1 5) = 0 → (((0 : Int32) = 0 → ((0 : Int32) = 0 ∨ (0 : Int32) = 1) ∧ K (some (.int 0)) σ) ∧ (¬ (0 : Int32) = 0 → (RD σ) ∧ ((0 : Int32) = 0 ∨ (0 : Int32) = 1) ∧ K (some (.int 0)) (cTok σ)))) ∧ ((σ 1 5) = 0 → (RW σ) ∧ (((bI (cWd σ (jW 1000004))) = 0 → (((0 : Int32) = 0 → ((0 : Int32) = 0 ∨ (0 : Int32) = 1) ∧ K (some (.int 0)) σ) ∧ (¬ (0 : Int32) = 0 → (RD σ) ∧ ((0 : Int32) = 0 ∨ (0 : Int32) = 1) ∧ K (some (.int 0)) (cTok σ)))) ∧ (¬ (bI (cWd σ (jW 1000004))) = 0 → (((1 : Int32) = 0 → ((1 : Int32) = 0 ∨ (1 : Int32) = 1) ∧ K (some (.int 1)) σ) ∧ (¬ (1 : Int32) = 0 → (RD σ) ∧ ((1 : Int32) = 0 ∨ (1 : Int32) = 1) ∧ K (some (.int 1)) (cTok σ)))))))) : gE 24 0 [some (.ref 1), some (.ref 1000004), none] [] σ K :=
  gw_run (cy := 24) (cuts := []) (inl := []) (pf := gpdn) gpdn_ok 400 (by decide) h
theorem s24_1000004 {σ : gS} {K : gK} (hc : RK σ) (hK : K (some (.int (bI (σ 1 5 = 0 ∧ cWd σ (jW 1000004))))) (if σ 1 5 = 0 ∧ cWd σ (jW 1000004) then cTok σ else σ)) : gE 24 0 [some (.ref 1), some (.ref 1000004), none] [] σ K := by
  refine w24_1000004 ⟨fun h => ⟨fun _ => ⟨Or.inl rfl, ?_⟩, fun q => absurd rfl q⟩, fun h => ⟨hc.1.1.1, fun h2 => ⟨fun _ => ⟨Or.inl rfl, ?_⟩, fun q => absurd rfl q⟩, fun h2 => ⟨fun q => absurd q (by decide), fun _ => ⟨hc.1.1.2 ?_, Or.inr rfl, ?_⟩⟩⟩⟩
  · rw [if_neg (fun q => h q.1), bI_n (fun q => h q.1)] at hK; exact hK
  · have h2 := bI_0.mp h2
    rw [if_neg (fun q => h2 q.2), bI_n (fun q => h2 q.2)] at hK; exact hK
  · have q : cWd σ (jW 1000004) := Decidable.not_not.mp (fun q => h2 (bI_0.mpr q))
    rw [q.1]
    decide
  · have q : cWd σ (jW 1000004) := Decidable.not_not.mp (fun q => h2 (bI_0.mpr q))
    rw [if_pos ⟨h, q⟩, bI_y ⟨h, q⟩] at hK; exact hK
set_option maxRecDepth 20000 in
theorem w24_1000005 {σ : gS} {K : gK} (h : ((¬ (σ 1 5) = 0 → (((0 : Int32) = 0 → ((0 : Int32) = 0 ∨ (0 : Int32) = 1) ∧ K (some (.int 0)) σ) ∧ (¬ (0 : Int32) = 0 → (RD σ) ∧ ((0 : Int32) = 0 ∨ (0 : Int32) = 1) ∧ K (some (.int 0)) (cTok σ)))) ∧ ((σ 1 5) = 0 → (RW σ) ∧ (((bI (cWd σ (jW 1000005))) = 0 → (((0 : Int32) = 0 → ((0 : Int32) = 0 ∨ (0 : Int32) = 1) ∧ K (some (.int 0)) σ) ∧ (¬ (0 : Int32) = 0 → (RD σ) ∧ ((0 : Int32) = 0 ∨ (0 : Int32) = 1) ∧ K (some (.int 0)) (cTok σ)))) ∧ (¬ (bI (cWd σ (jW 1000005))) = 0 → (((1 : Int32) = 0 → ((1 : Int32) = 0 ∨ (1 : Int32) = 1) ∧ K (some (.int 1)) σ) ∧ (¬ (1 : Int32) = 0 → (RD σ) ∧ ((1 : Int32) = 0 ∨ (1 : Int32) = 1) ∧ K (some (.int 1)) (cTok σ)))))))) : gE 24 0 [some (.ref 1), some (.ref 1000005), none] [] σ K :=
  gw_run (cy := 24) (cuts := []) (inl := []) (pf := gpdn) gpdn_ok 400 (by decide) h
theorem s24_1000005 {σ : gS} {K : gK} (hc : RK σ) (hK : K (some (.int (bI (σ 1 5 = 0 ∧ cWd σ (jW 1000005))))) (if σ 1 5 = 0 ∧ cWd σ (jW 1000005) then cTok σ else σ)) : gE 24 0 [some (.ref 1), some (.ref 1000005), none] [] σ K := by
  refine w24_1000005 ⟨fun h => ⟨fun _ => ⟨Or.inl rfl, ?_⟩, fun q => absurd rfl q⟩, fun h => ⟨hc.1.1.1, fun h2 => ⟨fun _ => ⟨Or.inl rfl, ?_⟩, fun q => absurd rfl q⟩, fun h2 => ⟨fun q => absurd q (by decide), fun _ => ⟨hc.1.1.2 ?_, Or.inr rfl, ?_⟩⟩⟩⟩
  · rw [if_neg (fun q => h q.1), bI_n (fun q => h q.1)] at hK; exact hK
  · have h2 := bI_0.mp h2
    rw [if_neg (fun q => h2 q.2), bI_n (fun q => h2 q.2)] at hK; exact hK
  · have q : cWd σ (jW 1000005) := Decidable.not_not.mp (fun q => h2 (bI_0.mpr q))
    rw [q.1]
    decide
  · have q : cWd σ (jW 1000005) := Decidable.not_not.mp (fun q => h2 (bI_0.mpr q))
    rw [if_pos ⟨h, q⟩, bI_y ⟨h, q⟩] at hK; exact hK
set_option maxRecDepth 20000 in
theorem w24_1000006 {σ : gS} {K : gK} (h : ((¬ (σ 1 5) = 0 → (((0 : Int32) = 0 → ((0 : Int32) = 0 ∨ (0 : Int32) = 1) ∧ K (some (.int 0)) σ) ∧ (¬ (0 : Int32) = 0 → (RD σ) ∧ ((0 : Int32) = 0 ∨ (0 : Int32) = 1) ∧ K (some (.int 0)) (cTok σ)))) ∧ ((σ 1 5) = 0 → (RW σ) ∧ (((bI (cWd σ (jW 1000006))) = 0 → (((0 : Int32) = 0 → ((0 : Int32) = 0 ∨ (0 : Int32) = 1) ∧ K (some (.int 0)) σ) ∧ (¬ (0 : Int32) = 0 → (RD σ) ∧ ((0 : Int32) = 0 ∨ (0 : Int32) = 1) ∧ K (some (.int 0)) (cTok σ)))) ∧ (¬ (bI (cWd σ (jW 1000006))) = 0 → (((1 : Int32) = 0 → ((1 : Int32) = 0 ∨ (1 : Int32) = 1) ∧ K (some (.int 1)) σ) ∧ (¬ (1 : Int32) = 0 → (RD σ) ∧ ((1 : Int32) = 0 ∨ (1 : Int32) = 1) ∧ K (some (.int 1)) (cTok σ)))))))) : gE 24 0 [some (.ref 1), some (.ref 1000006), none] [] σ K :=
  gw_run (cy := 24) (cuts := []) (inl := []) (pf := gpdn) gpdn_ok 400 (by decide) h
theorem s24_1000006 {σ : gS} {K : gK} (hc : RK σ) (hK : K (some (.int (bI (σ 1 5 = 0 ∧ cWd σ (jW 1000006))))) (if σ 1 5 = 0 ∧ cWd σ (jW 1000006) then cTok σ else σ)) : gE 24 0 [some (.ref 1), some (.ref 1000006), none] [] σ K := by
  refine w24_1000006 ⟨fun h => ⟨fun _ => ⟨Or.inl rfl, ?_⟩, fun q => absurd rfl q⟩, fun h => ⟨hc.1.1.1, fun h2 => ⟨fun _ => ⟨Or.inl rfl, ?_⟩, fun q => absurd rfl q⟩, fun h2 => ⟨fun q => absurd q (by decide), fun _ => ⟨hc.1.1.2 ?_, Or.inr rfl, ?_⟩⟩⟩⟩
  · rw [if_neg (fun q => h q.1), bI_n (fun q => h q.1)] at hK; exact hK
  · have h2 := bI_0.mp h2
    rw [if_neg (fun q => h2 q.2), bI_n (fun q => h2 q.2)] at hK; exact hK
  · have q : cWd σ (jW 1000006) := Decidable.not_not.mp (fun q => h2 (bI_0.mpr q))
    rw [q.1]
    decide
  · have q : cWd σ (jW 1000006) := Decidable.not_not.mp (fun q => h2 (bI_0.mpr q))
    rw [if_pos ⟨h, q⟩, bI_y ⟨h, q⟩] at hK; exact hK
set_option maxRecDepth 20000 in
theorem w24_1000007 {σ : gS} {K : gK} (h : ((¬ (σ 1 5) = 0 → (((0 : Int32) = 0 → ((0 : Int32) = 0 ∨ (0 : Int32) = 1) ∧ K (some (.int 0)) σ) ∧ (¬ (0 : Int32) = 0 → (RD σ) ∧ ((0 : Int32) = 0 ∨ (0 : Int32) = 1) ∧ K (some (.int 0)) (cTok σ)))) ∧ ((σ 1 5) = 0 → (RW σ) ∧ (((bI (cWd σ (jW 1000007))) = 0 → (((0 : Int32) = 0 → ((0 : Int32) = 0 ∨ (0 : Int32) = 1) ∧ K (some (.int 0)) σ) ∧ (¬ (0 : Int32) = 0 → (RD σ) ∧ ((0 : Int32) = 0 ∨ (0 : Int32) = 1) ∧ K (some (.int 0)) (cTok σ)))) ∧ (¬ (bI (cWd σ (jW 1000007))) = 0 → (((1 : Int32) = 0 → ((1 : Int32) = 0 ∨ (1 : Int32) = 1) ∧ K (some (.int 1)) σ) ∧ (¬ (1 : Int32) = 0 → (RD σ) ∧ ((1 : Int32) = 0 ∨ (1 : Int32) = 1) ∧ K (some (.int 1)) (cTok σ)))))))) : gE 24 0 [some (.ref 1), some (.ref 1000007), none] [] σ K :=
  gw_run (cy := 24) (cuts := []) (inl := []) (pf := gpdn) gpdn_ok 400 (by decide) h
theorem s24_1000007 {σ : gS} {K : gK} (hc : RK σ) (hK : K (some (.int (bI (σ 1 5 = 0 ∧ cWd σ (jW 1000007))))) (if σ 1 5 = 0 ∧ cWd σ (jW 1000007) then cTok σ else σ)) : gE 24 0 [some (.ref 1), some (.ref 1000007), none] [] σ K := by
  refine w24_1000007 ⟨fun h => ⟨fun _ => ⟨Or.inl rfl, ?_⟩, fun q => absurd rfl q⟩, fun h => ⟨hc.1.1.1, fun h2 => ⟨fun _ => ⟨Or.inl rfl, ?_⟩, fun q => absurd rfl q⟩, fun h2 => ⟨fun q => absurd q (by decide), fun _ => ⟨hc.1.1.2 ?_, Or.inr rfl, ?_⟩⟩⟩⟩
  · rw [if_neg (fun q => h q.1), bI_n (fun q => h q.1)] at hK; exact hK
  · have h2 := bI_0.mp h2
    rw [if_neg (fun q => h2 q.2), bI_n (fun q => h2 q.2)] at hK; exact hK
  · have q : cWd σ (jW 1000007) := Decidable.not_not.mp (fun q => h2 (bI_0.mpr q))
    rw [q.1]
    decide
  · have q : cWd σ (jW 1000007) := Decidable.not_not.mp (fun q => h2 (bI_0.mpr q))
    rw [if_pos ⟨h, q⟩, bI_y ⟨h, q⟩] at hK; exact hK
set_option maxRecDepth 20000 in
theorem w24_1000008 {σ : gS} {K : gK} (h : ((¬ (σ 1 5) = 0 → (((0 : Int32) = 0 → ((0 : Int32) = 0 ∨ (0 : Int32) = 1) ∧ K (some (.int 0)) σ) ∧ (¬ (0 : Int32) = 0 → (RD σ) ∧ ((0 : Int32) = 0 ∨ (0 : Int32) = 1) ∧ K (some (.int 0)) (cTok σ)))) ∧ ((σ 1 5) = 0 → (RW σ) ∧ (((bI (cWd σ (jW 1000008))) = 0 → (((0 : Int32) = 0 → ((0 : Int32) = 0 ∨ (0 : Int32) = 1) ∧ K (some (.int 0)) σ) ∧ (¬ (0 : Int32) = 0 → (RD σ) ∧ ((0 : Int32) = 0 ∨ (0 : Int32) = 1) ∧ K (some (.int 0)) (cTok σ)))) ∧ (¬ (bI (cWd σ (jW 1000008))) = 0 → (((1 : Int32) = 0 → ((1 : Int32) = 0 ∨ (1 : Int32) = 1) ∧ K (some (.int 1)) σ) ∧ (¬ (1 : Int32) = 0 → (RD σ) ∧ ((1 : Int32) = 0 ∨ (1 : Int32) = 1) ∧ K (some (.int 1)) (cTok σ)))))))) : gE 24 0 [some (.ref 1), some (.ref 1000008), none] [] σ K :=
  gw_run (cy := 24) (cuts := []) (inl := []) (pf := gpdn) gpdn_ok 400 (by decide) h
theorem s24_1000008 {σ : gS} {K : gK} (hc : RK σ) (hK : K (some (.int (bI (σ 1 5 = 0 ∧ cWd σ (jW 1000008))))) (if σ 1 5 = 0 ∧ cWd σ (jW 1000008) then cTok σ else σ)) : gE 24 0 [some (.ref 1), some (.ref 1000008), none] [] σ K := by
  refine w24_1000008 ⟨fun h => ⟨fun _ => ⟨Or.inl rfl, ?_⟩, fun q => absurd rfl q⟩, fun h => ⟨hc.1.1.1, fun h2 => ⟨fun _ => ⟨Or.inl rfl, ?_⟩, fun q => absurd rfl q⟩, fun h2 => ⟨fun q => absurd q (by decide), fun _ => ⟨hc.1.1.2 ?_, Or.inr rfl, ?_⟩⟩⟩⟩
  · rw [if_neg (fun q => h q.1), bI_n (fun q => h q.1)] at hK; exact hK
  · have h2 := bI_0.mp h2
    rw [if_neg (fun q => h2 q.2), bI_n (fun q => h2 q.2)] at hK; exact hK
  · have q : cWd σ (jW 1000008) := Decidable.not_not.mp (fun q => h2 (bI_0.mpr q))
    rw [q.1]
    decide
  · have q : cWd σ (jW 1000008) := Decidable.not_not.mp (fun q => h2 (bI_0.mpr q))
    rw [if_pos ⟨h, q⟩, bI_y ⟨h, q⟩] at hK; exact hK
set_option maxRecDepth 20000 in
theorem w24_1000009 {σ : gS} {K : gK} (h : ((¬ (σ 1 5) = 0 → (((0 : Int32) = 0 → ((0 : Int32) = 0 ∨ (0 : Int32) = 1) ∧ K (some (.int 0)) σ) ∧ (¬ (0 : Int32) = 0 → (RD σ) ∧ ((0 : Int32) = 0 ∨ (0 : Int32) = 1) ∧ K (some (.int 0)) (cTok σ)))) ∧ ((σ 1 5) = 0 → (RW σ) ∧ (((bI (cWd σ (jW 1000009))) = 0 → (((0 : Int32) = 0 → ((0 : Int32) = 0 ∨ (0 : Int32) = 1) ∧ K (some (.int 0)) σ) ∧ (¬ (0 : Int32) = 0 → (RD σ) ∧ ((0 : Int32) = 0 ∨ (0 : Int32) = 1) ∧ K (some (.int 0)) (cTok σ)))) ∧ (¬ (bI (cWd σ (jW 1000009))) = 0 → (((1 : Int32) = 0 → ((1 : Int32) = 0 ∨ (1 : Int32) = 1) ∧ K (some (.int 1)) σ) ∧ (¬ (1 : Int32) = 0 → (RD σ) ∧ ((1 : Int32) = 0 ∨ (1 : Int32) = 1) ∧ K (some (.int 1)) (cTok σ)))))))) : gE 24 0 [some (.ref 1), some (.ref 1000009), none] [] σ K :=
  gw_run (cy := 24) (cuts := []) (inl := []) (pf := gpdn) gpdn_ok 400 (by decide) h
theorem s24_1000009 {σ : gS} {K : gK} (hc : RK σ) (hK : K (some (.int (bI (σ 1 5 = 0 ∧ cWd σ (jW 1000009))))) (if σ 1 5 = 0 ∧ cWd σ (jW 1000009) then cTok σ else σ)) : gE 24 0 [some (.ref 1), some (.ref 1000009), none] [] σ K := by
  refine w24_1000009 ⟨fun h => ⟨fun _ => ⟨Or.inl rfl, ?_⟩, fun q => absurd rfl q⟩, fun h => ⟨hc.1.1.1, fun h2 => ⟨fun _ => ⟨Or.inl rfl, ?_⟩, fun q => absurd rfl q⟩, fun h2 => ⟨fun q => absurd q (by decide), fun _ => ⟨hc.1.1.2 ?_, Or.inr rfl, ?_⟩⟩⟩⟩
  · rw [if_neg (fun q => h q.1), bI_n (fun q => h q.1)] at hK; exact hK
  · have h2 := bI_0.mp h2
    rw [if_neg (fun q => h2 q.2), bI_n (fun q => h2 q.2)] at hK; exact hK
  · have q : cWd σ (jW 1000009) := Decidable.not_not.mp (fun q => h2 (bI_0.mpr q))
    rw [q.1]
    decide
  · have q : cWd σ (jW 1000009) := Decidable.not_not.mp (fun q => h2 (bI_0.mpr q))
    rw [if_pos ⟨h, q⟩, bI_y ⟨h, q⟩] at hK; exact hK
set_option maxRecDepth 20000 in
theorem w24_1000010 {σ : gS} {K : gK} (h : ((¬ (σ 1 5) = 0 → (((0 : Int32) = 0 → ((0 : Int32) = 0 ∨ (0 : Int32) = 1) ∧ K (some (.int 0)) σ) ∧ (¬ (0 : Int32) = 0 → (RD σ) ∧ ((0 : Int32) = 0 ∨ (0 : Int32) = 1) ∧ K (some (.int 0)) (cTok σ)))) ∧ ((σ 1 5) = 0 → (RW σ) ∧ (((bI (cWd σ (jW 1000010))) = 0 → (((0 : Int32) = 0 → ((0 : Int32) = 0 ∨ (0 : Int32) = 1) ∧ K (some (.int 0)) σ) ∧ (¬ (0 : Int32) = 0 → (RD σ) ∧ ((0 : Int32) = 0 ∨ (0 : Int32) = 1) ∧ K (some (.int 0)) (cTok σ)))) ∧ (¬ (bI (cWd σ (jW 1000010))) = 0 → (((1 : Int32) = 0 → ((1 : Int32) = 0 ∨ (1 : Int32) = 1) ∧ K (some (.int 1)) σ) ∧ (¬ (1 : Int32) = 0 → (RD σ) ∧ ((1 : Int32) = 0 ∨ (1 : Int32) = 1) ∧ K (some (.int 1)) (cTok σ)))))))) : gE 24 0 [some (.ref 1), some (.ref 1000010), none] [] σ K :=
  gw_run (cy := 24) (cuts := []) (inl := []) (pf := gpdn) gpdn_ok 400 (by decide) h
theorem s24_1000010 {σ : gS} {K : gK} (hc : RK σ) (hK : K (some (.int (bI (σ 1 5 = 0 ∧ cWd σ (jW 1000010))))) (if σ 1 5 = 0 ∧ cWd σ (jW 1000010) then cTok σ else σ)) : gE 24 0 [some (.ref 1), some (.ref 1000010), none] [] σ K := by
  refine w24_1000010 ⟨fun h => ⟨fun _ => ⟨Or.inl rfl, ?_⟩, fun q => absurd rfl q⟩, fun h => ⟨hc.1.1.1, fun h2 => ⟨fun _ => ⟨Or.inl rfl, ?_⟩, fun q => absurd rfl q⟩, fun h2 => ⟨fun q => absurd q (by decide), fun _ => ⟨hc.1.1.2 ?_, Or.inr rfl, ?_⟩⟩⟩⟩
  · rw [if_neg (fun q => h q.1), bI_n (fun q => h q.1)] at hK; exact hK
  · have h2 := bI_0.mp h2
    rw [if_neg (fun q => h2 q.2), bI_n (fun q => h2 q.2)] at hK; exact hK
  · have q : cWd σ (jW 1000010) := Decidable.not_not.mp (fun q => h2 (bI_0.mpr q))
    rw [q.1]
    decide
  · have q : cWd σ (jW 1000010) := Decidable.not_not.mp (fun q => h2 (bI_0.mpr q))
    rw [if_pos ⟨h, q⟩, bI_y ⟨h, q⟩] at hK; exact hK
noncomputable def f24 : gD := fun Lv σ => match Lv with
  | [some (.ref q0), some (.ref p), none] => cond ((Nat.beq p 1000001 || Nat.beq p 1000002 || Nat.beq p 1000003 || Nat.beq p 1000004 || Nat.beq p 1000005 || Nat.beq p 1000006 || Nat.beq p 1000007 || Nat.beq p 1000008 || Nat.beq p 1000009 || Nat.beq p 1000010) && (Nat.beq q0 1)) (some (some (RK σ), some (.int (bI (σ 1 5 = 0 ∧ cWd σ (jW p)))), if σ 1 5 = 0 ∧ cWd σ (jW p) then cTok σ else σ)) none
  | _ => none
theorem ok24 : gFok 24 f24 := by
  intro Lv σ q h hc K hK
  unfold f24 at h
  split at h
  · rename_i q0 p
    obtain ⟨hb, h⟩ := c_no h
    obtain ⟨hc1, hb1⟩ := s_and hb
    have hb0 := hc1
    have e0 := b_eq hb1
    subst e0
    rcases s_or hb0 with hb0 | hb0
    · rcases s_or hb0 with hb0 | hb0
      · rcases s_or hb0 with hb0 | hb0
        · rcases s_or hb0 with hb0 | hb0
          · rcases s_or hb0 with hb0 | hb0
            · rcases s_or hb0 with hb0 | hb0
              · rcases s_or hb0 with hb0 | hb0
                · rcases s_or hb0 with hb0 | hb0
                  · rcases s_or hb0 with hb0 | hb0
                    · have e := b_eq hb0
                      subst e
                      cases h
                      exact s24_1000001 (hc _ rfl) hK
                    · have e := b_eq hb0
                      subst e
                      cases h
                      exact s24_1000002 (hc _ rfl) hK
                  · have e := b_eq hb0
                    subst e
                    cases h
                    exact s24_1000003 (hc _ rfl) hK
                · have e := b_eq hb0
                  subst e
                  cases h
                  exact s24_1000004 (hc _ rfl) hK
              · have e := b_eq hb0
                subst e
                cases h
                exact s24_1000005 (hc _ rfl) hK
            · have e := b_eq hb0
              subst e
              cases h
              exact s24_1000006 (hc _ rfl) hK
          · have e := b_eq hb0
            subst e
            cases h
            exact s24_1000007 (hc _ rfl) hK
        · have e := b_eq hb0
          subst e
          cases h
          exact s24_1000008 (hc _ rfl) hK
      · have e := b_eq hb0
        subst e
        cases h
        exact s24_1000009 (hc _ rfl) hK
    · have e := b_eq hb0
      subst e
      cases h
      exact s24_1000010 (hc _ rfl) hK
  · cases h
noncomputable def gpdo_l : List (Nat × gD) := (23, f23) :: (24, f24) :: gpdn_l
noncomputable def gpdo : gP := gpl0 gpdo_l
theorem gpdo_ok : gPok gpdo := gpl0_cons ok23 (gpl0_cons ok24 (gpdn_ok))
