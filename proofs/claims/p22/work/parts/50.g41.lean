-- text 41
/-! THE CLASS: settling, the call -/
/-- settled a number of times -/
def cSt : Nat → gS → Nat × gS
  | 0, σ => (0, σ)
  | d + 1, σ => if (cBst (cR σ 32)).2.1 = -2 then (0, σ) else ((cSt d (cOnce σ)).1 + 1, (cSt d (cOnce σ)).2)
theorem cSt_no {d : Nat} {σ : gS} (h : (cBst (cR σ 32)).2.1 = -2) : cSt (d + 1) σ = (0, σ) := if_pos h
theorem cSt_ye {d : Nat} {σ : gS} (h : ¬ (cBst (cR σ 32)).2.1 = -2) : cSt (d + 1) σ = ((cSt d (cOnce σ)).1 + 1, (cSt d (cOnce σ)).2) := if_neg h
theorem TC_blk {σ τ : gS} {p : Nat} (h : TC σ p) (hq : ∀ q, p ≤ q → q < p + 26 → τ q = σ q) : TC τ p := by
  obtain ⟨t1, t2, t3⟩ := h
  have e := cR_blk hq
  refine ⟨by rw [e]; exact t1, by rw [e]; exact t2, ?_⟩
  intro a ha f hf
  rw [hq (p + 23) (by omega) (by omega), e]
  exact t3 a ha f hf
theorem cOnce_tc {σ : gS} (h : TC σ 32) : TC (cOnce σ) 32 ∧ ∀ q, q < 32 ∨ 56 ≤ q → cOnce σ q = σ q := by
  unfold cOnce
  split
  · exact ⟨h, fun q _ => rfl⟩
  · rename_i hb
    have hn := (nM_of h.1).2
    rcases cBst_c (cR σ 32) with e | ⟨a, b, hab, hb2, ea, eb⟩
    · exact absurd e hb
    · rw [ea, eb, iN_nat (by omega), iN_nat (by omega)]
      obtain ⟨r1, t1, f1⟩ := cExS_ok h (show a < nM (cR σ 32) from by omega) hb2
      refine ⟨t1, fun q hq => ?_⟩
      funext i
      exact f1 q i (Or.inl (by omega)) (by omega)
theorem cSt_tc : ∀ {d : Nat} {σ : gS}, TC σ 32 → TC (cSt d σ).2 32 ∧ (cSt d σ).1 ≤ d ∧ ∀ q, q < 32 ∨ 56 ≤ q → (cSt d σ).2 q = σ q
  | 0, σ, h => ⟨h, Nat.le_refl 0, fun q _ => rfl⟩
  | d + 1, σ, h => by
    by_cases hb : (cBst (cR σ 32)).2.1 = -2
    · rw [cSt_no hb]
      exact ⟨h, Nat.zero_le _, fun q _ => rfl⟩
    · rw [cSt_ye hb]
      obtain ⟨o1, o2⟩ := cOnce_tc h
      obtain ⟨i1, i2, i3⟩ := cSt_tc (d := d) o1
      exact ⟨i1, by show (cSt d (cOnce σ)).1 + 1 ≤ d + 1; omega, fun q hq => (i3 q hq).trans (o2 q hq)⟩
theorem cOnce_ok {σ : gS} {R : gW} (h : SV σ 32 R) (hF : bF R) (hW : bW R) : ((cBst (cR σ 32)).2.1 = -2 ∧ fBest R < 0) ∨ (¬ (cBst (cR σ 32)).2.1 = -2 ∧ ¬ fBest R < 0 ∧ SV (cOnce σ) 32 (fNx R) ∧ bF (fNx R) ∧ bW (fNx R)) := by
  have ag := h.1
  have eB := agr_Best ag
  have hn := (SV_3 h).2.1
  have gF : bF (cR σ 32) := fun t ht => by
    have hR : t < nM R := by rw [← agr_n ag]; exact ht
    rw [ag.2 t ht 3 (by decide), ag.2 t ht 4 (by decide), ag.2 t ht 5 (by decide), ag.2 t ht 6 (by decide)]
    exact hF t hR
  have gW' : bW (cR σ 32) := fun t ht => by
    rw [ag.2 t ht 7 (by decide)]
    exact hW t (by rw [← agr_n ag]; exact ht)
  rcases cBst_fBest h.2.1.1 h.2.1.2.1 gF gW' with ⟨q1, q2⟩ | ⟨a, b, hab, hb, ea, eb, q1, q2, q3⟩
  · exact Or.inl ⟨q1, by rw [← eB]; exact q2⟩
  · have hb2 : b < nM R := by rw [← agr_n ag]; exact hb
    have e : fNx R = rsw R a b := by
      have e1 : ∀ S : gW, fBest S = fBest (cR σ 32) → fNx S = rsw S (fBest (cR σ 32) / 100).toNatClampNeg (fBest (cR σ 32) - fBest (cR σ 32) / 100 * 100).toNatClampNeg := fun S hS => by unfold fNx; rw [hS]
      rcases fBest_of (cR σ 32) with q | ⟨c, d, hc, hd, q⟩
      · rw [q] at q2; exact absurd (by decide) q2
      · have hn2 := (nM_of h.2.1.1).2
        obtain ⟨d1, d2, -⟩ := dm100 c (by omega) d (by omega)
        have ab := (bRel_all h.2.1.1 h.2.1.2.1 gF gW').2.2
        rcases ab with ⟨z, -⟩ | ⟨a', b', hab', hb', ea', eb', e'⟩
        · exact absurd z q1
        · have ia : a' = a := (iN_inj (by omega) (by omega)).mp (ea'.symm.trans ea)
          have ib : b' = b := (iN_inj (by omega) (by omega)).mp (eb'.symm.trans eb)
          subst ia ib
          have e2 : fBest (cR σ 32) = 100 * iN a' + iN b' := e'
          obtain ⟨x1, x2, -⟩ := dm100 a' (by omega) b' (by omega)
          rw [e1 R eB.symm, e2, x2, x1, iN_nat (by omega), iN_nat (by omega)]
    refine Or.inr ⟨q1, by rw [← eB]; exact q2, ?_, by rw [e]; exact bF_rsw hF, by rw [e]; exact bW_rsw hW⟩
    unfold cOnce
    rw [if_neg q1, ea, eb, iN_nat (by omega), iN_nat (by omega), e]
    exact SV_ex h (by omega) hb2
theorem cSt_ok : ∀ {d : Nat} {σ : gS} {R : gW}, SV σ 32 R → bF R → bW R → (cSt d σ).1 = (fSt d R).1 ∧ SV (cSt d σ).2 32 (fSt d R).2 ∧ bF (fSt d R).2 ∧ bW (fSt d R).2
  | 0, σ, R, h, hF, hW => ⟨rfl, h, hF, hW⟩
  | d + 1, σ, R, h, hF, hW => by
    rcases cOnce_ok h hF hW with ⟨q1, q2⟩ | ⟨q1, q2, q3, q4, q5⟩
    · rw [cSt_no q1, fSt_lt q2]
      exact ⟨rfl, h, hF, hW⟩
    · rw [cSt_ye q1, fSt_ge q2]
      obtain ⟨i1, i2⟩ := cSt_ok (d := d) q3 q4 q5
      exact ⟨by show _ + 1 = _ + 1; rw [i1], i2⟩
/-- the settled draft is taken -/
def cStl (x : Nat × gS) : gS := cAdd (gup (cCo (cRem x.2) 6 32) 6 8 ((cCo (cRem x.2) 6 32) 6 8 + iN x.1)) 5 (iN x.1) (fJa (cR x.2 32) - fJa (cR x.2 6))
set_option maxRecDepth 20000 in
theorem w150 {σ : gS} {K : gK} (h : (0 ≤ σ 6 7 ∧ σ 6 7 ≤ 20) ∧ gE 150 13 [some (.ref 0), some (.int 0)] [] (cCo σ 32 6) K) : gE 150 0 [some (.ref 0), none] [] σ K :=
  gw_run (cy := 150) (cuts := [13]) (inl := []) (pf := gpcy) gpcy_ok 400 (by decide) h
set_option maxRecDepth 20000 in
theorem v150 {σ : gS} {K : gK} {k : Int32} (h : ((¬ k < 99 → K (some (.int 99)) σ) ∧ (k < 99 → (TC σ 32) ∧ ((¬ (bI (¬ (cBst (cR σ 32)).2.1 = -2)) = 0 → gE 150 13 [some (.ref 0), some (.int (k + 1))] [] (cOnce σ) K) ∧ ((bI (¬ (cBst (cR σ 32)).2.1 = -2)) = 0 → K (some (.int k)) (cOnce σ)))))) : gE 150 13 [some (.ref 0), some (.int k)] [] σ K :=
  gw_run (cy := 150) (cuts := [13]) (inl := []) (pf := gpcy) gpcy_ok 400 (by decide) h
theorem s150 {σ : gS} {K : gK} (hc : (0 ≤ σ 6 7 ∧ σ 6 7 ≤ 20) ∧ TC (cCo σ 32 6) 32) (hK : K (some (.int (iN (cSt 99 (cCo σ 32 6)).1))) ((cSt 99 (cCo σ 32 6)).2)) : gE 150 0 [some (.ref 0), none] [] σ K := by
  obtain ⟨h7, hc⟩ := hc
  refine w150 ⟨h7, ?_⟩
  have key : ∀ (d : Nat) (τ : gS), d ≤ 99 → TC τ 32 → K (some (.int (iN (99 - d + (cSt d τ).1)))) (cSt d τ).2 → gE 150 13 [some (.ref 0), some (.int (iN (99 - d)))] [] τ K := by
    intro d
    induction d with
    | zero =>
      intro τ _ _ hK
      refine v150 ⟨fun _ => hK, fun h => ?_⟩
      exact absurd h (by decide)
    | succ d ih =>
      intro τ hd hT hK
      have hl : iN (99 - (d + 1)) < 99 := (iN_lt (m := 99) (by omega) (by decide)).mpr (by omega)
      refine v150 ⟨fun h => absurd hl h, fun _ => ⟨hT, ?_⟩⟩
      simp only [bI_0]
      by_cases hb : (cBst (cR τ 32)).2.1 = -2
      · rw [cSt_no hb] at hK
        have e : cOnce τ = τ := if_pos hb
        rw [e]
        exact ⟨fun h => absurd hb (Decidable.not_not.mp h), fun _ => hK⟩
      · rw [cSt_ye hb] at hK
        refine ⟨fun _ => ?_, fun h => absurd hb h⟩
        rw [iN_one, show 99 - (d + 1) + 1 = 99 - d from by omega]
        refine ih _ (by omega) (cOnce_tc hT).1 ?_
        rw [show 99 - d + (cSt d (cOnce τ)).1 = 99 - (d + 1) + ((cSt d (cOnce τ)).1 + 1) from by omega]
        exact hK
  refine key 99 _ (by omega) hc ?_
  rw [show 99 - 99 + (cSt 99 (cCo σ 32 6)).1 = (cSt 99 (cCo σ 32 6)).1 from by omega]
  exact hK
noncomputable def f150 : gD := fun Lv σ => match Lv with
  | [some (.ref q0), none] => cond (Nat.beq q0 0) (some (some ((0 ≤ σ 6 7 ∧ σ 6 7 ≤ 20) ∧ TC (cCo σ 32 6) 32), some (.int (iN (cSt 99 (cCo σ 32 6)).1)), (cSt 99 (cCo σ 32 6)).2)) none
  | _ => none
theorem ok150 : gFok 150 f150 := by
  intro Lv σ q h hc K hK
  unfold f150 at h
  split at h
  · rename_i q0
    obtain ⟨hb, h⟩ := c_no h
    have hb0 := hb
    have e0 := b_eq hb0
    subst e0
    cases h
    exact s150 (hc _ rfl) hK
  · cases h
noncomputable def gpcz_l : List (Nat × gD) := (150, f150) :: gpcy_l
noncomputable def gpcz : gP := gpl0 gpcz_l
theorem gpcz_ok : gPok gpcz := gpl0_cons ok150 (gpcy_ok)
-- text 42
/-! THE CLASS: settling, the call -/
set_option maxRecDepth 20000 in
theorem w118 {σ : gS} {K : gK} (h : ((0 ≤ σ 6 7 ∧ σ 6 7 ≤ 20) ∧ TC (cCo σ 32 6) 32) ∧ ((¬ (iN (cSt 99 (cCo σ 32 6)).1) = 0 → (TC ((cSt 99 (cCo σ 32 6)).2) 32) ∧ (TC ((cSt 99 (cCo σ 32 6)).2) 6) ∧ gE 118 28 [some (.ref 0), some (.int (iN (cSt 99 (cCo σ 32 6)).1)), some (.int ((fJa (cR ((cSt 99 (cCo σ 32 6)).2) 32)) - (fJa (cR ((cSt 99 (cCo σ 32 6)).2) 6))))] [] ((cSt 99 (cCo σ 32 6)).2) K) ∧ ((iN (cSt 99 (cCo σ 32 6)).1) = 0 → K (some (.int (-2))) ((cSt 99 (cCo σ 32 6)).2)))) : gE 118 0 [some (.ref 0), none, none] [] σ K :=
  gw_run (cy := 118) (cuts := [28, 51]) (inl := []) (pf := gpcz) gpcz_ok 400 (by decide) h
set_option maxRecDepth 20000 in
theorem c118_28 {σ : gS} {K : gK} {l1 l2 : Int32} (h : (bPa σ ∧ (0 ≤ σ 6 7 ∧ σ 6 7 ≤ 20)) ∧ (0 ≤ (cRem σ) 32 7 ∧ (cRem σ) 32 7 ≤ 20) ∧ gE 118 51 [some (.ref 0), some (.int l1), some (.int l2)] [.ref 0] (cCo (cRem σ) 6 32) K) : gE 118 28 [some (.ref 0), some (.int l1), some (.int l2)] [] σ K :=
  gw_run (cy := 118) (cuts := [28, 51]) (inl := []) (pf := gpcz) gpcz_ok 400 (by decide) h
set_option maxRecDepth 20000 in
theorem c118_51 {σ : gS} {K : gK} {l1 l2 : Int32} (h : (bLg (gup σ 6 8 ((σ 6 8) + l1)) 30) ∧ K (some (.int l1)) (cAdd (gup σ 6 8 ((σ 6 8) + l1)) (5 : Int32) l1 l2)) : gE 118 51 [some (.ref 0), some (.int l1), some (.int l2)] [.ref 0] σ K :=
  gw_run (cy := 118) (cuts := [28, 51]) (inl := []) (pf := gpcz) gpcz_ok 400 (by decide) h
theorem s118 {σ : gS} {K : gK} (hc : SC σ ∧ TC (cCo σ 32 6) 32 ∧ bLg (cCo σ 32 6) 56) (hK : K (some (.int (if (cSt 99 (cCo σ 32 6)).1 = 0 then -2 else iN (cSt 99 (cCo σ 32 6)).1))) (if (cSt 99 (cCo σ 32 6)).1 = 0 then (cSt 99 (cCo σ 32 6)).2 else cStl (cSt 99 (cCo σ 32 6)))) : gE 118 0 [some (.ref 0), none, none] [] σ K := by
  obtain ⟨hs, ht, hl⟩ := hc
  have h7 := SC_7 hs
  have n7 := (c20 h7).2
  obtain ⟨t1, l1, f1⟩ := cSt_tc (d := 99) ht
  refine w118 ⟨⟨h7, ht⟩, ?_⟩
  have fC : ∀ q, q < 32 ∨ 58 ≤ q → cCo σ 32 6 q = σ q := fun q hq => by
    funext j
    exact cCo_far (by omega) n7
  generalize cSt 99 (cCo σ 32 6) = s at t1 l1 f1 hK ⊢
  have fs : ∀ q, q < 32 ∨ 58 ≤ q → s.2 q = σ q := fun q hq => (f1 q (by omega)).trans (fC q hq)
  refine ⟨fun h => ?_, fun h => ?_⟩
  · have h0 : ¬ s.1 = 0 := fun e => h (by rw [e]; rfl)
    rw [if_neg h0, if_neg h0] at hK
    have h7' : 0 ≤ s.2 6 7 ∧ s.2 6 7 ≤ 20 := by rw [fs 6 (by decide)]; exact h7
    have h32 : 0 ≤ s.2 32 7 ∧ s.2 32 7 ≤ 20 := by have := t1.1; rw [cR_3] at this; exact this
    have er : ∀ q, q < 113 → cRem s.2 q = s.2 q := fun q hq => cRem_far (Or.inl hq) h7'
    have r32 : 0 ≤ cRem s.2 32 7 ∧ cRem s.2 32 7 ≤ 20 := by rw [er 32 (by decide)]; exact h32
    refine ⟨t1, TC_blk hs.1 (fun q q1 q2 => fs q (by omega)), c118_28 ⟨⟨?_, h7'⟩, r32, c118_51 ⟨?_, hK⟩⟩⟩
    · have := hs.2.1
      unfold bPa at this ⊢
      rw [fs 113 (by decide)]
      exact this
    · obtain ⟨g1, g2, -⟩ := cCo_lg (σ := cRem s.2) (p := 6) (q := 32) (by omega) (c20 r32).2
      rw [show 6 + 24 = 30 from rfl, show 32 + 24 = 56 from rfl, er 56 (by decide), f1 56 (by decide)] at g1 g2
      unfold bLg
      rw [gup_ne (by omega), gup_ne (by omega), g1, g2]
      exact hl
  · have h0 : s.1 = 0 := (iN_inj (k := s.1) (m := 0) (by omega) (by decide)).mp h
    rw [if_pos h0, if_pos h0] at hK
    exact hK
noncomputable def f118 : gD := fun Lv σ => match Lv with
  | [some (.ref q0), none, none] => cond (Nat.beq q0 0) (some (some (SC σ ∧ TC (cCo σ 32 6) 32 ∧ bLg (cCo σ 32 6) 56), some (.int (if (cSt 99 (cCo σ 32 6)).1 = 0 then -2 else iN (cSt 99 (cCo σ 32 6)).1)), if (cSt 99 (cCo σ 32 6)).1 = 0 then (cSt 99 (cCo σ 32 6)).2 else cStl (cSt 99 (cCo σ 32 6)))) none
  | _ => none
theorem ok118 : gFok 118 f118 := by
  intro Lv σ q h hc K hK
  unfold f118 at h
  split at h
  · rename_i q0
    obtain ⟨hb, h⟩ := c_no h
    have hb0 := hb
    have e0 := b_eq hb0
    subst e0
    cases h
    exact s118 (hc _ rfl) hK
  · cases h
noncomputable def gpda_l : List (Nat × gD) := (118, f118) :: gpcz_l
noncomputable def gpda : gP := gpl0 gpda_l
theorem gpda_ok : gPok gpda := gpl0_cons ok118 (gpcz_ok)
