/-! THE CLASS: the past -/
noncomputable def gpcr_l : List (Nat × gD) := (48, f48) :: gpcq_l
noncomputable def gpcr : gP := gpl0 gpcr_l
theorem gpcr_ok : gPok gpcr := gpl0_cons ok48 (gpcq_ok)
theorem gpl_114 : ∀ j, j < 8 → gpl 114 j = 115 + 26 * j := by decide +kernel
theorem l8 {x : Int32} (h : 0 ≤ x ∧ x ≤ 8) : x = iN x.toNatClampNeg ∧ x.toNatClampNeg ≤ 8 := by
  obtain ⟨e, l⟩ := iN_of h.1
  refine ⟨e, ?_⟩
  have h2 := h.2
  rw [e] at h2
  exact (iN_le (m := 8) l (by decide)).mp h2
abbrev bPa (σ : gS) : Prop := (0 ≤ σ 113 1 ∧ σ 113 1 < 8) ∧ (0 ≤ σ 113 2 ∧ σ 113 2 ≤ 8)
/-- the place of the train at i in the past -/
def cPl (σ : gS) (i : Nat) : Nat := 115 + 26 * (((σ 113 1).toNatClampNeg + i) % 8)
theorem bPa_n {σ : gS} (h : bPa σ) : ∃ O C, σ 113 1 = iN O ∧ σ 113 2 = iN C ∧ O < 8 ∧ C ≤ 8 ∧ (σ 113 1).toNatClampNeg = O ∧ (σ 113 2).toNatClampNeg = C := by
  obtain ⟨ho, hc⟩ := h
  obtain ⟨eo, lo⟩ := l8 ⟨ho.1, by have := ho.2; grind⟩
  obtain ⟨ec, lc⟩ := l8 hc
  refine ⟨_, _, eo, ec, ?_, lc, rfl, rfl⟩
  have h2 := ho.2
  rw [eo] at h2
  exact (iN_lt (m := 8) (by omega) (by decide)).mp h2
set_option maxRecDepth 20000 in
theorem w9 {σ : gS} {K : gK} {i : Int32} (h : ((0 ≤ ((σ 113 1) + i) ∧ ((σ 113 1) + i) < 100) ∧ ((8 : Int32) = 40 ∨ (8 : Int32) = 8)) ∧ (0 ≤ (((σ 113 1) + i) - ((σ 113 1) + i) / (8 : Int32) * (8 : Int32)) ∧ (((σ 113 1) + i) - ((σ 113 1) + i) / (8 : Int32) * (8 : Int32)) < 8) ∧ K (some (.ref (gpl 114 (((σ 113 1) + i) - ((σ 113 1) + i) / (8 : Int32) * (8 : Int32)).toNatClampNeg))) σ) : gE 9 0 [some (.ref 113), some (.int i)] [] σ K :=
  gw_run (cy := 9) (cuts := []) (inl := []) (pf := gpcr) gpcr_ok 400 (by decide) h
theorem s9 {σ : gS} {K : gK} {i : Int32} (hc : (0 ≤ σ 113 1 + i ∧ σ 113 1 + i < 100) ∧ (0 ≤ (σ 113 1 + i) - (σ 113 1 + i) / 8 * 8 ∧ (σ 113 1 + i) - (σ 113 1 + i) / 8 * 8 < 8)) (hK : K (some (.ref (gpl 114 ((σ 113 1 + i) - (σ 113 1 + i) / 8 * 8).toNatClampNeg))) σ) : gE 9 0 [some (.ref 113), some (.int i)] [] σ K := by
  exact w9 ⟨⟨hc.1, Or.inr rfl⟩, hc.2, hK⟩
noncomputable def f9 : gD := fun Lv σ => match Lv with
  | [some (.ref q0), some (.int i)] => cond (Nat.beq q0 113) (some (some ((0 ≤ σ 113 1 + i ∧ σ 113 1 + i < 100) ∧ (0 ≤ (σ 113 1 + i) - (σ 113 1 + i) / 8 * 8 ∧ (σ 113 1 + i) - (σ 113 1 + i) / 8 * 8 < 8)), some (.ref (gpl 114 ((σ 113 1 + i) - (σ 113 1 + i) / 8 * 8).toNatClampNeg)), σ)) none
  | _ => none
theorem ok9 : gFok 9 f9 := by
  intro Lv σ q h hc K hK
  unfold f9 at h
  split at h
  · rename_i q0 i
    obtain ⟨hb, h⟩ := c_no h
    have hb0 := hb
    have e0 := b_eq hb0
    subst e0
    cases h
    exact s9 (hc _ rfl) hK
  · cases h
set_option maxRecDepth 20000 in
theorem w8 {σ : gS} {K : gK} (h : K none (gup σ 113 2 0)) : gE 8 0 [some (.ref 113)] [] σ K :=
  gw_run (cy := 8) (cuts := []) (inl := []) (pf := gpcr) gpcr_ok 400 (by decide) h
theorem s8 {σ : gS} {K : gK} (hK : K none (gup σ 113 2 0)) : gE 8 0 [some (.ref 113)] [] σ K := by
  exact w8 hK
noncomputable def f8 : gD := fun Lv σ => match Lv with
  | [some (.ref q0)] => cond (Nat.beq q0 113) (some (none, none, gup σ 113 2 0)) none
  | _ => none
theorem ok8 : gFok 8 f8 := by
  intro Lv σ q h hc K hK
  unfold f8 at h
  split at h
  · rename_i q0
    obtain ⟨hb, h⟩ := c_no h
    have hb0 := hb
    have e0 := b_eq hb0
    subst e0
    cases h
    exact s8 hK
  · cases h
noncomputable def gpcs_l : List (Nat × gD) := (9, f9) :: (8, f8) :: gpcr_l
noncomputable def gpcs : gP := gpl0 gpcs_l
theorem gpcs_ok : gPok gpcs := gpl0_cons ok9 (gpl0_cons ok8 (gpcr_ok))
set_option maxRecDepth 20000 in
theorem w10 {σ : gS} {K : gK} (h : ((0 ≤ σ 113 1 + (σ 113 2) ∧ σ 113 1 + (σ 113 2) < 100) ∧ (0 ≤ (σ 113 1 + (σ 113 2)) - (σ 113 1 + (σ 113 2)) / 8 * 8 ∧ (σ 113 1 + (σ 113 2)) - (σ 113 1 + (σ 113 2)) / 8 * 8 < 8)) ∧ gE 10 8 [some (.ref 113), some (.ref 6)] [.ref (gpl 114 ((σ 113 1 + (σ 113 2)) - (σ 113 1 + (σ 113 2)) / 8 * 8).toNatClampNeg)] σ K) : gE 10 0 [some (.ref 113), some (.ref 6)] [] σ K :=
  gw_run (cy := 10) (cuts := [8, 12]) (inl := []) (pf := gpcs) gpcs_ok 400 (by decide) h
set_option maxRecDepth 20000 in
theorem c10_115 {σ : gS} {K : gK} (h : (0 ≤ σ 6 7 ∧ σ 6 7 ≤ 20) ∧ gE 10 12 [some (.ref 113), some (.ref 6)] [] (cCo σ 115 6) K) : gE 10 8 [some (.ref 113), some (.ref 6)] [.ref 115] σ K :=
  gw_run (cy := 10) (cuts := [12]) (inl := []) (pf := gpcs) gpcs_ok 400 (by decide) h
set_option maxRecDepth 20000 in
theorem c10_141 {σ : gS} {K : gK} (h : (0 ≤ σ 6 7 ∧ σ 6 7 ≤ 20) ∧ gE 10 12 [some (.ref 113), some (.ref 6)] [] (cCo σ 141 6) K) : gE 10 8 [some (.ref 113), some (.ref 6)] [.ref 141] σ K :=
  gw_run (cy := 10) (cuts := [12]) (inl := []) (pf := gpcs) gpcs_ok 400 (by decide) h
set_option maxRecDepth 20000 in
theorem c10_167 {σ : gS} {K : gK} (h : (0 ≤ σ 6 7 ∧ σ 6 7 ≤ 20) ∧ gE 10 12 [some (.ref 113), some (.ref 6)] [] (cCo σ 167 6) K) : gE 10 8 [some (.ref 113), some (.ref 6)] [.ref 167] σ K :=
  gw_run (cy := 10) (cuts := [12]) (inl := []) (pf := gpcs) gpcs_ok 400 (by decide) h
set_option maxRecDepth 20000 in
theorem c10_193 {σ : gS} {K : gK} (h : (0 ≤ σ 6 7 ∧ σ 6 7 ≤ 20) ∧ gE 10 12 [some (.ref 113), some (.ref 6)] [] (cCo σ 193 6) K) : gE 10 8 [some (.ref 113), some (.ref 6)] [.ref 193] σ K :=
  gw_run (cy := 10) (cuts := [12]) (inl := []) (pf := gpcs) gpcs_ok 400 (by decide) h
set_option maxRecDepth 20000 in
theorem c10_219 {σ : gS} {K : gK} (h : (0 ≤ σ 6 7 ∧ σ 6 7 ≤ 20) ∧ gE 10 12 [some (.ref 113), some (.ref 6)] [] (cCo σ 219 6) K) : gE 10 8 [some (.ref 113), some (.ref 6)] [.ref 219] σ K :=
  gw_run (cy := 10) (cuts := [12]) (inl := []) (pf := gpcs) gpcs_ok 400 (by decide) h
set_option maxRecDepth 20000 in
theorem c10_245 {σ : gS} {K : gK} (h : (0 ≤ σ 6 7 ∧ σ 6 7 ≤ 20) ∧ gE 10 12 [some (.ref 113), some (.ref 6)] [] (cCo σ 245 6) K) : gE 10 8 [some (.ref 113), some (.ref 6)] [.ref 245] σ K :=
  gw_run (cy := 10) (cuts := [12]) (inl := []) (pf := gpcs) gpcs_ok 400 (by decide) h
set_option maxRecDepth 20000 in
theorem c10_271 {σ : gS} {K : gK} (h : (0 ≤ σ 6 7 ∧ σ 6 7 ≤ 20) ∧ gE 10 12 [some (.ref 113), some (.ref 6)] [] (cCo σ 271 6) K) : gE 10 8 [some (.ref 113), some (.ref 6)] [.ref 271] σ K :=
  gw_run (cy := 10) (cuts := [12]) (inl := []) (pf := gpcs) gpcs_ok 400 (by decide) h
set_option maxRecDepth 20000 in
theorem c10_297 {σ : gS} {K : gK} (h : (0 ≤ σ 6 7 ∧ σ 6 7 ≤ 20) ∧ gE 10 12 [some (.ref 113), some (.ref 6)] [] (cCo σ 297 6) K) : gE 10 8 [some (.ref 113), some (.ref 6)] [.ref 297] σ K :=
  gw_run (cy := 10) (cuts := [12]) (inl := []) (pf := gpcs) gpcs_ok 400 (by decide) h
set_option maxRecDepth 20000 in
theorem c10_b {σ : gS} {K : gK} (h : ((¬ (σ 113 2) < 8 → (8 : Int32) ≠ 0 ∧ K none (gup σ 113 1 (((σ 113 1) + 1) - ((σ 113 1) + 1) / 8 * 8))) ∧ ((σ 113 2) < 8 → K none (gup σ 113 2 ((σ 113 2) + 1))))) : gE 10 12 [some (.ref 113), some (.ref 6)] [] σ K :=
  gw_run (cy := 10) (cuts := []) (inl := []) (pf := gpcs) gpcs_ok 400 (by decide) h
def cRem (σ : gS) : gS := if σ 113 2 < 8 then gup (cCo σ (cPl σ (σ 113 2).toNatClampNeg) 6) 113 2 (σ 113 2 + 1) else gup (cCo σ (cPl σ (σ 113 2).toNatClampNeg) 6) 113 1 (iN (((σ 113 1).toNatClampNeg + 1) % 8))
theorem cCo_far {σ : gS} {p q b j : Nat} (h : b < p ∨ p + 26 ≤ b) (hn : (σ q 7).toNatClampNeg ≤ 20) : cCo σ p q b j = σ b j := by
  unfold cCo cHd
  rw [if_neg (by omega)]
  unfold cLc
  rw [gup_ne (by omega), gup_ne (by omega)]
  unfold cA1
  rw [if_neg (by omega), if_neg (by omega)]
  unfold cT1
  rw [if_neg (by omega)]
theorem c20 {x : Int32} (h : 0 ≤ x ∧ x ≤ 20) : x = iN x.toNatClampNeg ∧ x.toNatClampNeg ≤ 20 := by
  obtain ⟨e, l⟩ := iN_of h.1
  refine ⟨e, ?_⟩
  have h2 := h.2
  rw [e] at h2
  exact (iN_le (m := 20) l (by decide)).mp h2
theorem s10 {σ : gS} {K : gK} (hc : bPa σ ∧ (0 ≤ σ 6 7 ∧ σ 6 7 ≤ 20)) (hK : K none (cRem σ)) : gE 10 0 [some (.ref 113), some (.ref 6)] [] σ K := by
  obtain ⟨hp, h7⟩ := hc
  obtain ⟨O, C, eo, ec, lo, lc, no, nc⟩ := bPa_n hp
  have ho := hp.1
  unfold cRem at hK
  have eP : cPl σ (σ 113 2).toNatClampNeg = 115 + 26 * ((O + C) % 8) := by unfold cPl; rw [no, nc]
  rw [eP, no, ec] at hK
  have hm : (O + C) % 8 < 8 := Nat.mod_lt _ (by decide)
  have em : (iN O + iN C) - (iN O + iN C) / 8 * 8 = iN ((O + C) % 8) := by
    rw [iN_add]
    exact iN_mod (d := 8) (by omega) (by decide)
  have hx : ∀ x, x = 115 + 26 * ((O + C) % 8) → gE 10 12 [some (.ref 113), some (.ref 6)] [] (cCo σ x 6) K := by
    intro x hx
    rw [← hx] at hK
    have n7 := (c20 h7).2
    have r2 : cCo σ x 6 113 2 = iN C := by rw [cCo_far (by omega) n7]; exact ec
    have r1 : cCo σ x 6 113 1 = iN O := by rw [cCo_far (by omega) n7]; exact eo
    refine c10_b ?_
    rw [r1, r2]
    refine ⟨fun h => ⟨by decide, ?_⟩, fun h => ?_⟩
    · rw [if_neg h] at hK
      rw [iN_one, show (8 : Int32) = iN 8 from rfl, iN_mod (by omega) (by decide)]
      exact hK
    · rw [if_pos h] at hK
      exact hK
  refine w10 ?_
  rw [eo, ec, em]
  refine ⟨⟨?_, ?_⟩, ?_⟩
  · rw [iN_add]
    exact ⟨(iN_le (k := 0) (by decide) (by omega)).mpr (by omega), (iN_lt (m := 100) (by omega) (by decide)).mpr (by omega)⟩
  · exact ⟨(iN_le (k := 0) (by decide) (by omega)).mpr (by omega), (iN_lt (m := 8) (by omega) (by decide)).mpr hm⟩
  · rw [iN_nat (by omega), gpl_114 _ hm]
    have h8 : (O + C) % 8 = 0 ∨ (O + C) % 8 = 1 ∨ (O + C) % 8 = 2 ∨ (O + C) % 8 = 3 ∨ (O + C) % 8 = 4 ∨ (O + C) % 8 = 5 ∨ (O + C) % 8 = 6 ∨ (O + C) % 8 = 7 := by omega
    rcases h8 with h | h | h | h | h | h | h | h <;> rw [h] at hx ⊢
    · exact c10_115 ⟨h7, hx _ rfl⟩
    · exact c10_141 ⟨h7, hx _ rfl⟩
    · exact c10_167 ⟨h7, hx _ rfl⟩
    · exact c10_193 ⟨h7, hx _ rfl⟩
    · exact c10_219 ⟨h7, hx _ rfl⟩
    · exact c10_245 ⟨h7, hx _ rfl⟩
    · exact c10_271 ⟨h7, hx _ rfl⟩
    · exact c10_297 ⟨h7, hx _ rfl⟩
noncomputable def f10 : gD := fun Lv σ => match Lv with
  | [some (.ref q0), some (.ref q1)] => cond ((Nat.beq q0 113) && (Nat.beq q1 6)) (some (some (bPa σ ∧ (0 ≤ σ 6 7 ∧ σ 6 7 ≤ 20)), none, cRem σ)) none
  | _ => none
theorem ok10 : gFok 10 f10 := by
  intro Lv σ q h hc K hK
  unfold f10 at h
  split at h
  · rename_i q0 q1
    obtain ⟨hb, h⟩ := c_no h
    obtain ⟨hc1, hb1⟩ := s_and hb
    have hb0 := hc1
    have e0 := b_eq hb0
    subst e0
    have e1 := b_eq hb1
    subst e1
    cases h
    exact s10 (hc _ rfl) hK
  · cases h
