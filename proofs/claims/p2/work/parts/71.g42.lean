/-! THE CLASS: settling, the call -/
set_option maxRecDepth 20000 in
theorem w118 {σ : gS} {K : gK} (h : ((0 ≤ σ 6 7 ∧ σ 6 7 ≤ 20) ∧ TC (cCo σ 32 6) 32) ∧ ((¬ (iN (cSt 99 (cCo σ 32 6)).1) = 0 → (TC ((cSt 99 (cCo σ 32 6)).2) 32) ∧ (TC ((cSt 99 (cCo σ 32 6)).2) 6) ∧ gE 118 28 [some (.ref 0), some (.int (iN (cSt 99 (cCo σ 32 6)).1)), some (.int ((fJa (cR ((cSt 99 (cCo σ 32 6)).2) 32)) - (fJa (cR ((cSt 99 (cCo σ 32 6)).2) 6))))] [] ((cSt 99 (cCo σ 32 6)).2) K) ∧ ((iN (cSt 99 (cCo σ 32 6)).1) = 0 → K (some (.int (-2))) ((cSt 99 (cCo σ 32 6)).2)))) : gE 118 0 [some (.ref 0), none, none] [] σ K :=
  gw_run (cy := 118) (cuts := [28, 51]) (inl := []) (pf := gpcz) gpcz_ok 400 (by decide) h
set_option maxRecDepth 20000 in
theorem c118_28 {σ : gS} {K : gK} {l1 l2 : Int32} (h : (bPa σ ∧ (0 ≤ σ 6 7 ∧ σ 6 7 ≤ 20)) ∧ (0 ≤ (cRem σ) 32 7 ∧ (cRem σ) 32 7 ≤ 20) ∧ gE 118 51 [some (.ref 0), some (.int l1), some (.int l2)] [.ref 0] (cCo (cRem σ) 6 32) K) : gE 118 28 [some (.ref 0), some (.int l1), some (.int l2)] [] σ K :=
  gw_run (cy := 118) (cuts := [28, 51]) (inl := []) (pf := gpcz) gpcz_ok 400 (by decide) h
set_option maxRecDepth 20000 in
theorem c118_51 {σ : gS} {K : gK} {l1 l2 : Int32} (h : (bLg (gup σ 6 8 ((σ 6 8) + l1)) 30) ∧ K (some (.int l1)) (cAdd (gup σ 6 8 ((σ 6 8) + l1)) (5 : Int32) l1 l2)) : gE 118 51 [some (.ref 0), some (.int l1), some (.int l2)] [.ref 0] σ K :=
  gw_run (cy := 118) (cuts := [28, 51]) (inl := []) (pf := gpcz) gpcz_ok 400 (by decide) h
theorem s118 {σ : gS} {K : gK} (hc : SC σ ∧ TC (cCo σ 32 6) 32 ∧ bLg (cCo σ 32 6) 56) (hK : K (some (.int (if (cSt 99 (cCo σ 32 6)).1 = 0 then -2 else iN (cSt 99 (cCo σ 32 6)).1))) (if (cSt 99 (cCo σ 32 6)).1 = 0 then (cSt 99 (cCo σ 32 6)).2 else cStl (cSt 99 (cCo σ 32 6)))) : gE 118 0 [some (.ref 0), none, none] [] σ K := by
  obtain ⟨hs, ht, hl⟩ := hc
  have h7 := SC_7 hs
  have n7 := (c20 h7).2
  obtain ⟨t1, l1, f1⟩ := cSt_tc (d := 99) ht
  refine w118 ⟨⟨h7, ht⟩, ?_⟩
  have fC : ∀ q, q < 32 ∨ 58 ≤ q → cCo σ 32 6 q = σ q := fun q hq => by
    funext j
    exact cCo_far (by omega) n7
  generalize cSt 99 (cCo σ 32 6) = s at t1 l1 f1 hK ⊢
  have fs : ∀ q, q < 32 ∨ 58 ≤ q → s.2 q = σ q := fun q hq => (f1 q (by omega)).trans (fC q hq)
  refine ⟨fun h => ?_, fun h => ?_⟩
  · have h0 : ¬ s.1 = 0 := fun e => h (by rw [e]; rfl)
    rw [if_neg h0, if_neg h0] at hK
    have h7' : 0 ≤ s.2 6 7 ∧ s.2 6 7 ≤ 20 := by rw [fs 6 (by decide)]; exact h7
    have h32 : 0 ≤ s.2 32 7 ∧ s.2 32 7 ≤ 20 := by have := t1.1; rw [cR_3] at this; exact this
    have er : ∀ q, q < 113 → cRem s.2 q = s.2 q := fun q hq => cRem_far (Or.inl hq) h7'
    have r32 : 0 ≤ cRem s.2 32 7 ∧ cRem s.2 32 7 ≤ 20 := by rw [er 32 (by decide)]; exact h32
    refine ⟨t1, TC_blk hs.1 (fun q q1 q2 => fs q (by omega)), c118_28 ⟨⟨?_, h7'⟩, r32, c118_51 ⟨?_, hK⟩⟩⟩
    · have := hs.2.1
      unfold bPa at this ⊢
      rw [fs 113 (by decide)]
      exact this
    · obtain ⟨g1, g2, -⟩ := cCo_lg (σ := cRem s.2) (p := 6) (q := 32) (by omega) (c20 r32).2
      rw [show 6 + 24 = 30 from rfl, show 32 + 24 = 56 from rfl, er 56 (by decide), f1 56 (by decide)] at g1 g2
      unfold bLg
      rw [gup_ne (by omega), gup_ne (by omega), g1, g2]
      exact hl
  · have h0 : s.1 = 0 := (iN_inj (k := s.1) (m := 0) (by omega) (by decide)).mp h
    rw [if_pos h0, if_pos h0] at hK
    exact hK
noncomputable def f118 : gD := fun Lv σ => match Lv with
  | [some (.ref q0), none, none] => cond (Nat.beq q0 0) (some (some (SC σ ∧ TC (cCo σ 32 6) 32 ∧ bLg (cCo σ 32 6) 56), some (.int (if (cSt 99 (cCo σ 32 6)).1 = 0 then -2 else iN (cSt 99 (cCo σ 32 6)).1)), if (cSt 99 (cCo σ 32 6)).1 = 0 then (cSt 99 (cCo σ 32 6)).2 else cStl (cSt 99 (cCo σ 32 6)))) none
  | _ => none
theorem ok118 : gFok 118 f118 := by
  intro Lv σ q h hc K hK
  unfold f118 at h
  split at h
  · rename_i q0
    obtain ⟨hb, h⟩ := c_no h
    have hb0 := hb
    have e0 := b_eq hb0
    subst e0
    cases h
    exact s118 (hc _ rfl) hK
  · cases h
noncomputable def gpda_l : List (Nat × gD) := (118, f118) :: gpcz_l
noncomputable def gpda : gP := gpl0 gpda_l
theorem gpda_ok : gPok gpda := gpl0_cons ok118 (gpcz_ok)
