/-! THE CLASS: a train read as a row -/
theorem tv_6 : ∀ k, k < 20 → gTv (6 + 2 + k) := by unfold gTv; decide +kernel
theorem tv_32 : ∀ k, k < 20 → gTv (32 + 2 + k) := by unfold gTv; decide +kernel
/-- the train at place p as a row (names as the class writes them; no log) -/
def cR (σ : gS) (p : Nat) : gW := fun j => if j < 9 then σ p (j + 4) else if j < 209 then (if (j - 9) % 10 < 9 then σ (p + 2 + (j - 9) / 10) ((j - 9) % 10 + 1) else σ (p + 2 + (j - 9) / 10) 0) else 0
theorem cR_h {σ : gS} {p j : Nat} (h : j < 9) : cR σ p j = σ p (j + 4) := if_pos h
theorem cR_f {σ : gS} {p t f : Nat} (ht : t < 20) (hf : f < 9) : fld (cR σ p) t f = σ (p + 2 + t) (f + 1) := by
  unfold fld cR
  have e1 : (9 + 10 * t + f - 9) % 10 = f := by omega
  have e2 : (9 + 10 * t + f - 9) / 10 = t := by omega
  rw [if_neg (by omega), if_pos (by omega), e1, e2, if_pos hf]
theorem cR_3 (σ : gS) (p : Nat) : cR σ p 3 = σ p 7 := cR_h (by decide)
theorem cR_0 (σ : gS) (p : Nat) : cR σ p 0 = σ p 4 := cR_h (by decide)
theorem cR_1 (σ : gS) (p : Nat) : cR σ p 1 = σ p 5 := cR_h (by decide)
set_option maxRecDepth 20000 in
theorem w51_6 {σ : gS} {K : gK} (h : (2 : Int32) ≠ 0 ∧ K (some (.int (((σ 6 4) + 1) / 2))) σ) : gE 51 0 [some (.ref 6)] [] σ K :=
  gw_run (cy := 51) (cuts := []) (inl := []) (pf := gpfT) gpfT_ok 400 (by decide) h
theorem s51_6 {σ : gS} {K : gK} (hK : K (some (.int ((σ 6 4 + 1) / 2))) σ) : gE 51 0 [some (.ref 6)] [] σ K := by
  exact w51_6 ⟨by decide, hK⟩
set_option maxRecDepth 20000 in
theorem w51_32 {σ : gS} {K : gK} (h : (2 : Int32) ≠ 0 ∧ K (some (.int (((σ 32 4) + 1) / 2))) σ) : gE 51 0 [some (.ref 32)] [] σ K :=
  gw_run (cy := 51) (cuts := []) (inl := []) (pf := gpfT) gpfT_ok 400 (by decide) h
theorem s51_32 {σ : gS} {K : gK} (hK : K (some (.int ((σ 32 4 + 1) / 2))) σ) : gE 51 0 [some (.ref 32)] [] σ K := by
  exact w51_32 ⟨by decide, hK⟩
noncomputable def f51 : gD := fun Lv σ => match Lv with
  | [some (.ref p)] => cond (Nat.beq p 6 || Nat.beq p 32) (some (none, some (.int ((σ p 4 + 1) / 2)), σ)) none
  | _ => none
theorem ok51 : gFok 51 f51 := by
  intro Lv σ q h hc K hK
  unfold f51 at h
  split at h
  · rename_i p
    obtain ⟨hb, h⟩ := c_no h
    have hb0 := hb
    rcases s_or hb0 with hb0 | hb0
    · have e := b_eq hb0
      subst e
      cases h
      exact s51_6 hK
    · have e := b_eq hb0
      subst e
      cases h
      exact s51_32 hK
  · cases h
set_option maxRecDepth 20000 in
theorem w53_6 {σ : gS} {K : gK} {t : Int32} (h : ((bI ((0 : Int32) ≤ t ∧ t ≤ ((σ 6 7) - 1))) = 0 ∨ (bI ((0 : Int32) ≤ t ∧ t ≤ ((σ 6 7) - 1))) = 1) ∧ K (some (.int (bI ((0 : Int32) ≤ t ∧ t ≤ ((σ 6 7) - 1))))) σ) : gE 53 0 [some (.ref 6), some (.int t)] [] σ K :=
  gw_run (cy := 53) (cuts := []) (inl := []) (pf := gpfT) gpfT_ok 400 (by decide) h
theorem s53_6 {σ : gS} {K : gK} {t : Int32} (hK : K (some (.int (bI (isT (cR σ 6) t)))) σ) : gE 53 0 [some (.ref 6), some (.int t)] [] σ K := by
  unfold isT at hK
  rw [cR_3] at hK
  exact w53_6 ⟨bI_01, hK⟩
set_option maxRecDepth 20000 in
theorem w53_32 {σ : gS} {K : gK} {t : Int32} (h : ((bI ((0 : Int32) ≤ t ∧ t ≤ ((σ 32 7) - 1))) = 0 ∨ (bI ((0 : Int32) ≤ t ∧ t ≤ ((σ 32 7) - 1))) = 1) ∧ K (some (.int (bI ((0 : Int32) ≤ t ∧ t ≤ ((σ 32 7) - 1))))) σ) : gE 53 0 [some (.ref 32), some (.int t)] [] σ K :=
  gw_run (cy := 53) (cuts := []) (inl := []) (pf := gpfT) gpfT_ok 400 (by decide) h
theorem s53_32 {σ : gS} {K : gK} {t : Int32} (hK : K (some (.int (bI (isT (cR σ 32) t)))) σ) : gE 53 0 [some (.ref 32), some (.int t)] [] σ K := by
  unfold isT at hK
  rw [cR_3] at hK
  exact w53_32 ⟨bI_01, hK⟩
noncomputable def f53 : gD := fun Lv σ => match Lv with
  | [some (.ref p), some (.int t)] => cond (Nat.beq p 6 || Nat.beq p 32) (some (none, some (.int (bI (isT (cR σ p) t))), σ)) none
  | _ => none
theorem ok53 : gFok 53 f53 := by
  intro Lv σ q h hc K hK
  unfold f53 at h
  split at h
  · rename_i p t
    obtain ⟨hb, h⟩ := c_no h
    have hb0 := hb
    rcases s_or hb0 with hb0 | hb0
    · have e := b_eq hb0
      subst e
      cases h
      exact s53_6 hK
    · have e := b_eq hb0
      subst e
      cases h
      exact s53_32 hK
  · cases h
set_option maxRecDepth 20000 in
theorem w57_6 {σ : gS} {K : gK} {k x : Int32} (h : ((k = 1 → ((1 : Int32) = 0 ∨ (1 : Int32) = 1) ∧ K (some (.int 1)) σ) ∧ (¬ k = 1 → (4 : Int32) ≠ 0 ∧ (((x / 4) < (σ 6 5) → ((0 : Int32) = 0 ∨ (0 : Int32) = 1) ∧ K (some (.int 0)) σ) ∧ (¬ (x / 4) < (σ 6 5) → ((1 : Int32) = 0 ∨ (1 : Int32) = 1) ∧ K (some (.int 1)) σ))))) : gE 57 0 [some (.ref 6), some (.int k), some (.int x)] [] σ K :=
  gw_run (cy := 57) (cuts := []) (inl := []) (pf := gpfT) gpfT_ok 400 (by decide) h
theorem s57_6 {σ : gS} {K : gK} {k x : Int32} (hK : K (some (.int (bI (k = 1 ∨ cR σ 6 1 ≤ x / 4)))) σ) : gE 57 0 [some (.ref 6), some (.int k), some (.int x)] [] σ K := by
  rw [cR_1] at hK
  refine w57_6 ?_
  grind [bI]
set_option maxRecDepth 20000 in
theorem w57_32 {σ : gS} {K : gK} {k x : Int32} (h : ((k = 1 → ((1 : Int32) = 0 ∨ (1 : Int32) = 1) ∧ K (some (.int 1)) σ) ∧ (¬ k = 1 → (4 : Int32) ≠ 0 ∧ (((x / 4) < (σ 32 5) → ((0 : Int32) = 0 ∨ (0 : Int32) = 1) ∧ K (some (.int 0)) σ) ∧ (¬ (x / 4) < (σ 32 5) → ((1 : Int32) = 0 ∨ (1 : Int32) = 1) ∧ K (some (.int 1)) σ))))) : gE 57 0 [some (.ref 32), some (.int k), some (.int x)] [] σ K :=
  gw_run (cy := 57) (cuts := []) (inl := []) (pf := gpfT) gpfT_ok 400 (by decide) h
theorem s57_32 {σ : gS} {K : gK} {k x : Int32} (hK : K (some (.int (bI (k = 1 ∨ cR σ 32 1 ≤ x / 4)))) σ) : gE 57 0 [some (.ref 32), some (.int k), some (.int x)] [] σ K := by
  rw [cR_1] at hK
  refine w57_32 ?_
  grind [bI]
noncomputable def f57 : gD := fun Lv σ => match Lv with
  | [some (.ref p), some (.int k), some (.int x)] => cond (Nat.beq p 6 || Nat.beq p 32) (some (none, some (.int (bI (k = 1 ∨ cR σ p 1 ≤ x / 4))), σ)) none
  | _ => none
theorem ok57 : gFok 57 f57 := by
  intro Lv σ q h hc K hK
  unfold f57 at h
  split at h
  · rename_i p k x
    obtain ⟨hb, h⟩ := c_no h
    have hb0 := hb
    rcases s_or hb0 with hb0 | hb0
    · have e := b_eq hb0
      subst e
      cases h
      exact s57_6 hK
    · have e := b_eq hb0
      subst e
      cases h
      exact s57_32 hK
  · cases h
set_option maxRecDepth 20000 in
theorem w68 {σ : gS} {K : gK} {x : Int32} (h : (2 : Int32) ≠ 0 ∧ ((¬ (x - x / 2 * 2) = 1 → ((0 : Int32) = 0 ∨ (0 : Int32) = 1) ∧ K (some (.int 0)) σ) ∧ ((x - x / 2 * 2) = 1 → ((1 : Int32) = 0 ∨ (1 : Int32) = 1) ∧ K (some (.int 1)) σ))) : gE 68 0 [some (.int x)] [] σ K :=
  gw_run (cy := 68) (cuts := []) (inl := []) (pf := gpfT) gpfT_ok 400 (by decide) h
theorem s68 {σ : gS} {K : gK} {x : Int32} (hK : K (some (.int (bI (isFwd x)))) σ) : gE 68 0 [some (.int x)] [] σ K := by
  refine w68 ?_
  grind [bI]
noncomputable def f68 : gD := fun Lv σ => match Lv with
  | [some (.int x)] => some (none, some (.int (bI (isFwd x))), σ)
  | _ => none
theorem ok68 : gFok 68 f68 := by
  intro Lv σ q h hc K hK
  unfold f68 at h
  split at h
  · rename_i x
    cases h
    exact s68 hK
  · cases h
set_option maxRecDepth 20000 in
theorem w270 {σ : gS} {K : gK} {x : Int32} (h : ((¬ x < 0 → K (some (.int x)) σ) ∧ (x < 0 → K (some (.int (-x))) σ))) : gE 270 0 [some (.int x)] [] σ K :=
  gw_run (cy := 270) (cuts := []) (inl := []) (pf := gpfT) gpfT_ok 400 (by decide) h
theorem s270 {σ : gS} {K : gK} {x : Int32} (hK : K (some (.int (if x < 0 then -x else x))) σ) : gE 270 0 [some (.int x)] [] σ K := by
  refine w270 ?_
  grind
noncomputable def f270 : gD := fun Lv σ => match Lv with
  | [some (.int x)] => some (none, some (.int (if x < 0 then -x else x)), σ)
  | _ => none
theorem ok270 : gFok 270 f270 := by
  intro Lv σ q h hc K hK
  unfold f270 at h
  split at h
  · rename_i x
    cases h
    exact s270 hK
  · cases h
noncomputable def gpca_l : List (Nat × gD) := (51, f51) :: (53, f53) :: (57, f57) :: (68, f68) :: (270, f270) :: gpfT_l
noncomputable def gpca : gP := gpl0 gpca_l
theorem gpca_ok : gPok gpca := gpl0_cons ok51 (gpl0_cons ok53 (gpl0_cons ok57 (gpl0_cons ok68 (gpl0_cons ok270 (gpfT_ok)))))
set_option maxRecDepth 20000 in
theorem w52_6 {σ : gS} {K : gK} {x : Int32} (h : ((bI ((0 : Int32) ≤ x ∧ x ≤ ((σ 6 4 * 4) - 1))) = 0 ∨ (bI ((0 : Int32) ≤ x ∧ x ≤ ((σ 6 4 * 4) - 1))) = 1) ∧ K (some (.int (bI ((0 : Int32) ≤ x ∧ x ≤ ((σ 6 4 * 4) - 1))))) σ) : gE 52 0 [some (.ref 6), some (.int x)] [] σ K :=
  gw_run (cy := 52) (cuts := []) (inl := []) (pf := gpca) gpca_ok 400 (by decide) h
theorem s52_6 {σ : gS} {K : gK} {x : Int32} (hK : K (some (.int (bI (isS (cR σ 6) x)))) σ) : gE 52 0 [some (.ref 6), some (.int x)] [] σ K := by
  unfold isS at hK
  rw [cR_0, show (4 : Int32) * σ 6 4 = σ 6 4 * 4 from Int32.mul_comm ..] at hK
  exact w52_6 ⟨bI_01, hK⟩
set_option maxRecDepth 20000 in
theorem w52_32 {σ : gS} {K : gK} {x : Int32} (h : ((bI ((0 : Int32) ≤ x ∧ x ≤ ((σ 32 4 * 4) - 1))) = 0 ∨ (bI ((0 : Int32) ≤ x ∧ x ≤ ((σ 32 4 * 4) - 1))) = 1) ∧ K (some (.int (bI ((0 : Int32) ≤ x ∧ x ≤ ((σ 32 4 * 4) - 1))))) σ) : gE 52 0 [some (.ref 32), some (.int x)] [] σ K :=
  gw_run (cy := 52) (cuts := []) (inl := []) (pf := gpca) gpca_ok 400 (by decide) h
theorem s52_32 {σ : gS} {K : gK} {x : Int32} (hK : K (some (.int (bI (isS (cR σ 32) x)))) σ) : gE 52 0 [some (.ref 32), some (.int x)] [] σ K := by
  unfold isS at hK
  rw [cR_0, show (4 : Int32) * σ 32 4 = σ 32 4 * 4 from Int32.mul_comm ..] at hK
  exact w52_32 ⟨bI_01, hK⟩
noncomputable def f52 : gD := fun Lv σ => match Lv with
  | [some (.ref p), some (.int x)] => cond (Nat.beq p 6 || Nat.beq p 32) (some (none, some (.int (bI (isS (cR σ p) x))), σ)) none
  | _ => none
theorem ok52 : gFok 52 f52 := by
  intro Lv σ q h hc K hK
  unfold f52 at h
  split at h
  · rename_i p x
    obtain ⟨hb, h⟩ := c_no h
    have hb0 := hb
    rcases s_or hb0 with hb0 | hb0
    · have e := b_eq hb0
      subst e
      cases h
      exact s52_6 hK
    · have e := b_eq hb0
      subst e
      cases h
      exact s52_32 hK
  · cases h
set_option maxRecDepth 20000 in
theorem w55_6 {σ : gS} {K : gK} {x : Int32} (h : gE 55 2 [some (.ref 6), some (.int x), some (.int 0)] [] σ K) : gE 55 0 [some (.ref 6), some (.int x), none] [] σ K :=
  gw_run (cy := 55) (cuts := [2]) (inl := []) (pf := gpca) gpca_ok 400 (by decide) h
set_option maxRecDepth 20000 in
theorem v55_6 {σ : gS} {K : gK} {x t : Int32} (h : ((¬ t < (σ 6 7) → K (some (.int (-2))) σ) ∧ (t < (σ 6 7) → (0 ≤ t ∧ t < 20) ∧ gTv (6 + 2 + t.toNatClampNeg) ∧ ((¬ (σ (6 + 2 + t.toNatClampNeg) 1) = x → gE 55 2 [some (.ref 6), some (.int x), some (.int (t + 1))] [] σ K) ∧ ((σ (6 + 2 + t.toNatClampNeg) 1) = x → K (some (.int t)) σ))))) : gE 55 2 [some (.ref 6), some (.int x), some (.int t)] [] σ K :=
  gw_run (cy := 55) (cuts := [2]) (inl := []) (pf := gpca) gpca_ok 400 (by decide) h
theorem s55_6 {σ : gS} {K : gK} {x : Int32} (hc : 0 ≤ σ 6 7 ∧ σ 6 7 ≤ 20) (hK : K (some (.int (fWho (cR σ 6) x))) σ) : gE 55 0 [some (.ref 6), some (.int x), none] [] σ K := by
  rw [← cR_3 σ 6] at hc
  refine w55_6 ?_
  refine g_forI (nM (cR σ 6)) (fun k => [some (.ref 6), some (.int x), some (.int (iN k))]) (fun _ => σ) (fun k => ∀ j, j < k → fld (cR σ 6) j 0 ≠ x) (fun hi => ?_) (fun k hk hi ih => ?_) 0 (Nat.zero_le _) (fun j hj => absurd hj (Nat.not_lt_zero j))
  · have hn := (nM_of hc).2
    refine v55_6 ⟨fun _ => ?_, fun h => ?_⟩
    · have e : fWho (cR σ 6) x = -2 := fnd_none (fun j hj => decide_eq_false (hi j hj))
      rw [e] at hK; exact hK
    · rw [← cR_3 σ 6, nM_lt hc (by omega)] at h; omega
  · have hn := (nM_of hc).2
    have hk20 : k < 20 := by omega
    have ek : (iN k).toNatClampNeg = k := iN_nat (by omega)
    have ef := cR_f (σ := σ) (p := 6) (t := k) (f := 0) hk20 (by decide)
    refine v55_6 ⟨fun h => ?_, fun h => ⟨b20 hk20, ?_, fun h2 => ?_, fun h2 => ?_⟩⟩
    · rw [← cR_3 σ 6, nM_lt hc (by omega)] at h; omega
    · rw [ek]; exact tv_6 k hk20
    · rw [ek, ← ef] at h2
      rw [iN_one]
      refine ih (fun j hj => ?_)
      rcases Nat.lt_or_ge j k with q | q
      · exact hi j q
      · have : j = k := by omega
        subst this; exact h2
    · rw [ek, ← ef] at h2
      have e : fWho (cR σ 6) x = iN k := fnd_some (decide_eq_true h2) (fun j hj => decide_eq_false (hi j hj)) (by omega) hk
      rw [e] at hK; exact hK
set_option maxRecDepth 20000 in
theorem w55_32 {σ : gS} {K : gK} {x : Int32} (h : gE 55 2 [some (.ref 32), some (.int x), some (.int 0)] [] σ K) : gE 55 0 [some (.ref 32), some (.int x), none] [] σ K :=
  gw_run (cy := 55) (cuts := [2]) (inl := []) (pf := gpca) gpca_ok 400 (by decide) h
set_option maxRecDepth 20000 in
theorem v55_32 {σ : gS} {K : gK} {x t : Int32} (h : ((¬ t < (σ 32 7) → K (some (.int (-2))) σ) ∧ (t < (σ 32 7) → (0 ≤ t ∧ t < 20) ∧ gTv (32 + 2 + t.toNatClampNeg) ∧ ((¬ (σ (32 + 2 + t.toNatClampNeg) 1) = x → gE 55 2 [some (.ref 32), some (.int x), some (.int (t + 1))] [] σ K) ∧ ((σ (32 + 2 + t.toNatClampNeg) 1) = x → K (some (.int t)) σ))))) : gE 55 2 [some (.ref 32), some (.int x), some (.int t)] [] σ K :=
  gw_run (cy := 55) (cuts := [2]) (inl := []) (pf := gpca) gpca_ok 400 (by decide) h
theorem s55_32 {σ : gS} {K : gK} {x : Int32} (hc : 0 ≤ σ 32 7 ∧ σ 32 7 ≤ 20) (hK : K (some (.int (fWho (cR σ 32) x))) σ) : gE 55 0 [some (.ref 32), some (.int x), none] [] σ K := by
  rw [← cR_3 σ 32] at hc
  refine w55_32 ?_
  refine g_forI (nM (cR σ 32)) (fun k => [some (.ref 32), some (.int x), some (.int (iN k))]) (fun _ => σ) (fun k => ∀ j, j < k → fld (cR σ 32) j 0 ≠ x) (fun hi => ?_) (fun k hk hi ih => ?_) 0 (Nat.zero_le _) (fun j hj => absurd hj (Nat.not_lt_zero j))
  · have hn := (nM_of hc).2
    refine v55_32 ⟨fun _ => ?_, fun h => ?_⟩
    · have e : fWho (cR σ 32) x = -2 := fnd_none (fun j hj => decide_eq_false (hi j hj))
      rw [e] at hK; exact hK
    · rw [← cR_3 σ 32, nM_lt hc (by omega)] at h; omega
  · have hn := (nM_of hc).2
    have hk20 : k < 20 := by omega
    have ek : (iN k).toNatClampNeg = k := iN_nat (by omega)
    have ef := cR_f (σ := σ) (p := 32) (t := k) (f := 0) hk20 (by decide)
    refine v55_32 ⟨fun h => ?_, fun h => ⟨b20 hk20, ?_, fun h2 => ?_, fun h2 => ?_⟩⟩
    · rw [← cR_3 σ 32, nM_lt hc (by omega)] at h; omega
    · rw [ek]; exact tv_32 k hk20
    · rw [ek, ← ef] at h2
      rw [iN_one]
      refine ih (fun j hj => ?_)
      rcases Nat.lt_or_ge j k with q | q
      · exact hi j q
      · have : j = k := by omega
        subst this; exact h2
    · rw [ek, ← ef] at h2
      have e : fWho (cR σ 32) x = iN k := fnd_some (decide_eq_true h2) (fun j hj => decide_eq_false (hi j hj)) (by omega) hk
      rw [e] at hK; exact hK
noncomputable def f55 : gD := fun Lv σ => match Lv with
  | [some (.ref p), some (.int x), none] => cond (Nat.beq p 6 || Nat.beq p 32) (some (some (0 ≤ σ p 7 ∧ σ p 7 ≤ 20), some (.int (fWho (cR σ p) x)), σ)) none
  | _ => none
theorem ok55 : gFok 55 f55 := by
  intro Lv σ q h hc K hK
  unfold f55 at h
  split at h
  · rename_i p x
    obtain ⟨hb, h⟩ := c_no h
    have hb0 := hb
    rcases s_or hb0 with hb0 | hb0
    · have e := b_eq hb0
      subst e
      cases h
      exact s55_6 (hc _ rfl) hK
    · have e := b_eq hb0
      subst e
      cases h
      exact s55_32 (hc _ rfl) hK
  · cases h
noncomputable def gpcb_l : List (Nat × gD) := (52, f52) :: (55, f55) :: gpca_l
noncomputable def gpcb : gP := gpl0 gpcb_l
theorem gpcb_ok : gPok gpcb := gpl0_cons ok52 (gpl0_cons ok55 (gpca_ok))
set_option maxRecDepth 20000 in
theorem w56_6 {σ : gS} {K : gK} {x : Int32} (h : (0 ≤ σ 6 7 ∧ σ 6 7 ≤ 20) ∧ ((¬ (fWho (cR σ 6) x) = (-2) → ((0 : Int32) = 0 ∨ (0 : Int32) = 1) ∧ K (some (.int 0)) σ) ∧ ((fWho (cR σ 6) x) = (-2) → ((1 : Int32) = 0 ∨ (1 : Int32) = 1) ∧ K (some (.int 1)) σ))) : gE 56 0 [some (.ref 6), some (.int x)] [] σ K :=
  gw_run (cy := 56) (cuts := []) (inl := []) (pf := gpcb) gpcb_ok 400 (by decide) h
theorem s56_6 {σ : gS} {K : gK} {x : Int32} (hc : 0 ≤ σ 6 7 ∧ σ 6 7 ≤ 20) (hK : K (some (.int (bI (fWho (cR σ 6) x = -2)))) σ) : gE 56 0 [some (.ref 6), some (.int x)] [] σ K := by
  refine w56_6 ?_
  grind [bI]
set_option maxRecDepth 20000 in
theorem w56_32 {σ : gS} {K : gK} {x : Int32} (h : (0 ≤ σ 32 7 ∧ σ 32 7 ≤ 20) ∧ ((¬ (fWho (cR σ 32) x) = (-2) → ((0 : Int32) = 0 ∨ (0 : Int32) = 1) ∧ K (some (.int 0)) σ) ∧ ((fWho (cR σ 32) x) = (-2) → ((1 : Int32) = 0 ∨ (1 : Int32) = 1) ∧ K (some (.int 1)) σ))) : gE 56 0 [some (.ref 32), some (.int x)] [] σ K :=
  gw_run (cy := 56) (cuts := []) (inl := []) (pf := gpcb) gpcb_ok 400 (by decide) h
theorem s56_32 {σ : gS} {K : gK} {x : Int32} (hc : 0 ≤ σ 32 7 ∧ σ 32 7 ≤ 20) (hK : K (some (.int (bI (fWho (cR σ 32) x = -2)))) σ) : gE 56 0 [some (.ref 32), some (.int x)] [] σ K := by
  refine w56_32 ?_
  grind [bI]
noncomputable def f56 : gD := fun Lv σ => match Lv with
  | [some (.ref p), some (.int x)] => cond (Nat.beq p 6 || Nat.beq p 32) (some (some (0 ≤ σ p 7 ∧ σ p 7 ≤ 20), some (.int (bI (fWho (cR σ p) x = -2))), σ)) none
  | _ => none
theorem ok56 : gFok 56 f56 := by
  intro Lv σ q h hc K hK
  unfold f56 at h
  split at h
  · rename_i p x
    obtain ⟨hb, h⟩ := c_no h
    have hb0 := hb
    rcases s_or hb0 with hb0 | hb0
    · have e := b_eq hb0
      subst e
      cases h
      exact s56_6 (hc _ rfl) hK
    · have e := b_eq hb0
      subst e
      cases h
      exact s56_32 (hc _ rfl) hK
  · cases h
set_option maxRecDepth 20000 in
theorem w58_6 {σ : gS} {K : gK} {t x : Int32} (h : (0 ≤ t ∧ t < 20) ∧ gTv (6 + 2 + t.toNatClampNeg) ∧ ((bI ((σ (6 + 2 + t.toNatClampNeg) 2) = 1 ∨ cR σ 6 1 ≤ x / 4)) = 0 ∨ (bI ((σ (6 + 2 + t.toNatClampNeg) 2) = 1 ∨ cR σ 6 1 ≤ x / 4)) = 1) ∧ K (some (.int (bI ((σ (6 + 2 + t.toNatClampNeg) 2) = 1 ∨ cR σ 6 1 ≤ x / 4)))) σ) : gE 58 0 [some (.ref 6), some (.int t), some (.int x)] [] σ K :=
  gw_run (cy := 58) (cuts := []) (inl := []) (pf := gpcb) gpcb_ok 400 (by decide) h
theorem s58_6 {σ : gS} {K : gK} {t x : Int32} (hc : 0 ≤ t ∧ t < 20) (hK : K (some (.int (bI (fMay (cR σ 6) t.toNatClampNeg x)))) σ) : gE 58 0 [some (.ref 6), some (.int t), some (.int x)] [] σ K := by
  have lt := n20 hc
  refine w58_6 ⟨hc, tv_6 _ lt, bI_01, ?_⟩
  unfold fMay at hK
  rw [cR_f lt (by decide)] at hK
  exact hK
set_option maxRecDepth 20000 in
theorem w58_32 {σ : gS} {K : gK} {t x : Int32} (h : (0 ≤ t ∧ t < 20) ∧ gTv (32 + 2 + t.toNatClampNeg) ∧ ((bI ((σ (32 + 2 + t.toNatClampNeg) 2) = 1 ∨ cR σ 32 1 ≤ x / 4)) = 0 ∨ (bI ((σ (32 + 2 + t.toNatClampNeg) 2) = 1 ∨ cR σ 32 1 ≤ x / 4)) = 1) ∧ K (some (.int (bI ((σ (32 + 2 + t.toNatClampNeg) 2) = 1 ∨ cR σ 32 1 ≤ x / 4)))) σ) : gE 58 0 [some (.ref 32), some (.int t), some (.int x)] [] σ K :=
  gw_run (cy := 58) (cuts := []) (inl := []) (pf := gpcb) gpcb_ok 400 (by decide) h
theorem s58_32 {σ : gS} {K : gK} {t x : Int32} (hc : 0 ≤ t ∧ t < 20) (hK : K (some (.int (bI (fMay (cR σ 32) t.toNatClampNeg x)))) σ) : gE 58 0 [some (.ref 32), some (.int t), some (.int x)] [] σ K := by
  have lt := n20 hc
  refine w58_32 ⟨hc, tv_32 _ lt, bI_01, ?_⟩
  unfold fMay at hK
  rw [cR_f lt (by decide)] at hK
  exact hK
noncomputable def f58 : gD := fun Lv σ => match Lv with
  | [some (.ref p), some (.int t), some (.int x)] => cond (Nat.beq p 6 || Nat.beq p 32) (some (some (0 ≤ t ∧ t < 20), some (.int (bI (fMay (cR σ p) t.toNatClampNeg x))), σ)) none
  | _ => none
theorem ok58 : gFok 58 f58 := by
  intro Lv σ q h hc K hK
  unfold f58 at h
  split at h
  · rename_i p t x
    obtain ⟨hb, h⟩ := c_no h
    have hb0 := hb
    rcases s_or hb0 with hb0 | hb0
    · have e := b_eq hb0
      subst e
      cases h
      exact s58_6 (hc _ rfl) hK
    · have e := b_eq hb0
      subst e
      cases h
      exact s58_32 (hc _ rfl) hK
  · cases h
/-- bounds of a train's travellers -/
abbrev bT (R : gW) : Prop := ∀ t, t < nM R → ((fld R t 1 = 0 ∨ fld R t 1 = 1) ∧ (0 ≤ fld R t 0 ∧ fld R t 0 < 40) ∧ (0 ≤ fld R t 2 ∧ fld R t 2 ≤ 9))
set_option maxRecDepth 20000 in
theorem w59_6 {σ : gS} {K : gK} {f : Int32} (h : gE 59 4 [some (.ref 6), some (.int f), some (.int 0), some (.int 0), none] [] σ K) : gE 59 0 [some (.ref 6), some (.int f), none, none, none] [] σ K :=
  gw_run (cy := 59) (cuts := [4]) (inl := []) (pf := gpcb) gpcb_ok 400 (by decide) h
set_option maxRecDepth 20000 in
theorem v59_6 {σ : gS} {K : gK} {f s t : Int32} {u : Option Value} (h : ((¬ t < (σ 6 7) → K (some (.int s)) σ) ∧ (t < (σ 6 7) → (0 ≤ t ∧ t < 20) ∧ gTv (6 + 2 + t.toNatClampNeg) ∧ ((¬ (σ (6 + 2 + t.toNatClampNeg) 2) = 0 → gE 59 4 [some (.ref 6), some (.int f), some (.int s), some (.int (t + 1)), some (.ref (6 + 2 + t.toNatClampNeg))] [] σ K) ∧ ((σ (6 + 2 + t.toNatClampNeg) 2) = 0 → gTv (6 + 2 + t.toNatClampNeg) ∧ (4 : Int32) ≠ 0 ∧ ((¬ ((σ (6 + 2 + t.toNatClampNeg) 1) / 4) < f → gE 59 4 [some (.ref 6), some (.int f), some (.int s), some (.int (t + 1)), some (.ref (6 + 2 + t.toNatClampNeg))] [] σ K) ∧ (((σ (6 + 2 + t.toNatClampNeg) 1) / 4) < f → gE 59 4 [some (.ref 6), some (.int f), some (.int (s + 1)), some (.int (t + 1)), some (.ref (6 + 2 + t.toNatClampNeg))] [] σ K))))))) : gE 59 4 [some (.ref 6), some (.int f), some (.int s), some (.int t), u] [] σ K :=
  gw_run (cy := 59) (cuts := [4]) (inl := []) (pf := gpcb) gpcb_ok 400 (by decide) h
theorem s59_6 {σ : gS} {K : gK} {f : Int32} (hc : 0 ≤ σ 6 7 ∧ σ 6 7 ≤ 20 ∧ bT (cR σ 6)) (hK : K (some (.int (fBar (cR σ 6) f))) σ) : gE 59 0 [some (.ref 6), some (.int f), none, none, none] [] σ K := by
  obtain ⟨h1, h2, hb⟩ := hc
  have hc : 0 ≤ cR σ 6 3 ∧ cR σ 6 3 ≤ 20 := by rw [cR_3]; exact ⟨h1, h2⟩
  refine w59_6 ?_
  refine g_forJ (nM (cR σ 6)) (fun k u => [some (.ref 6), some (.int f), some (.int (iN (cnt (fun t => decide (¬ (fld (cR σ 6) t 1 = 1 ∨ f ≤ fld (cR σ 6) t 0 / 4))) k))), some (.int (iN k)), u]) (fun _ => σ) (fun _ => True) (fun _ u => ?_) (fun k hk _ ih u => ?_) 0 (Nat.zero_le _) trivial none
  · have hn := (nM_of hc).2
    refine v59_6 ⟨fun _ => hK, fun h => ?_⟩
    rw [← cR_3 σ 6, nM_lt hc (by omega)] at h; omega
  · have hn := (nM_of hc).2
    have hk20 : k < 20 := by omega
    have ek : (iN k).toNatClampNeg = k := iN_nat (by omega)
    have e0 := cR_f (σ := σ) (p := 6) (t := k) (f := 0) hk20 (by decide)
    have e1 := cR_f (σ := σ) (p := 6) (t := k) (f := 1) hk20 (by decide)
    have ht := (hb k hk).1
    have ih := ih trivial
    have tv := tv_6 k hk20
    refine v59_6 ⟨fun h => ?_, fun h => ⟨b20 hk20, ?_⟩⟩
    · rw [← cR_3 σ 6, nM_lt hc (by omega)] at h; omega
    · rw [ek, ← e0, ← e1, iN_one, iN_one]
      refine ⟨tv, fun h => ?_, fun h => ⟨tv, by decide, fun h2 => ?_, fun h2 => ?_⟩⟩
      · rw [cnt_f (fun e => (of_decide_eq_true e) (Or.inl (ht.resolve_left h)))] at ih
        exact ih _
      · rw [cnt_f (fun e => (of_decide_eq_true e) (Or.inr (Int32.not_lt.mp h2)))] at ih
        exact ih _
      · have hP : decide (¬ (fld (cR σ 6) k 1 = 1 ∨ f ≤ fld (cR σ 6) k 0 / 4)) = true := decide_eq_true (fun q => by
          rcases q with q | q
          · rw [h] at q; exact absurd q (by decide)
          · exact absurd h2 (Int32.not_lt.mpr q))
        rw [cnt_t hP] at ih
        exact ih _
set_option maxRecDepth 20000 in
theorem w59_32 {σ : gS} {K : gK} {f : Int32} (h : gE 59 4 [some (.ref 32), some (.int f), some (.int 0), some (.int 0), none] [] σ K) : gE 59 0 [some (.ref 32), some (.int f), none, none, none] [] σ K :=
  gw_run (cy := 59) (cuts := [4]) (inl := []) (pf := gpcb) gpcb_ok 400 (by decide) h
set_option maxRecDepth 20000 in
theorem v59_32 {σ : gS} {K : gK} {f s t : Int32} {u : Option Value} (h : ((¬ t < (σ 32 7) → K (some (.int s)) σ) ∧ (t < (σ 32 7) → (0 ≤ t ∧ t < 20) ∧ gTv (32 + 2 + t.toNatClampNeg) ∧ ((¬ (σ (32 + 2 + t.toNatClampNeg) 2) = 0 → gE 59 4 [some (.ref 32), some (.int f), some (.int s), some (.int (t + 1)), some (.ref (32 + 2 + t.toNatClampNeg))] [] σ K) ∧ ((σ (32 + 2 + t.toNatClampNeg) 2) = 0 → gTv (32 + 2 + t.toNatClampNeg) ∧ (4 : Int32) ≠ 0 ∧ ((¬ ((σ (32 + 2 + t.toNatClampNeg) 1) / 4) < f → gE 59 4 [some (.ref 32), some (.int f), some (.int s), some (.int (t + 1)), some (.ref (32 + 2 + t.toNatClampNeg))] [] σ K) ∧ (((σ (32 + 2 + t.toNatClampNeg) 1) / 4) < f → gE 59 4 [some (.ref 32), some (.int f), some (.int (s + 1)), some (.int (t + 1)), some (.ref (32 + 2 + t.toNatClampNeg))] [] σ K))))))) : gE 59 4 [some (.ref 32), some (.int f), some (.int s), some (.int t), u] [] σ K :=
  gw_run (cy := 59) (cuts := [4]) (inl := []) (pf := gpcb) gpcb_ok 400 (by decide) h
theorem s59_32 {σ : gS} {K : gK} {f : Int32} (hc : 0 ≤ σ 32 7 ∧ σ 32 7 ≤ 20 ∧ bT (cR σ 32)) (hK : K (some (.int (fBar (cR σ 32) f))) σ) : gE 59 0 [some (.ref 32), some (.int f), none, none, none] [] σ K := by
  obtain ⟨h1, h2, hb⟩ := hc
  have hc : 0 ≤ cR σ 32 3 ∧ cR σ 32 3 ≤ 20 := by rw [cR_3]; exact ⟨h1, h2⟩
  refine w59_32 ?_
  refine g_forJ (nM (cR σ 32)) (fun k u => [some (.ref 32), some (.int f), some (.int (iN (cnt (fun t => decide (¬ (fld (cR σ 32) t 1 = 1 ∨ f ≤ fld (cR σ 32) t 0 / 4))) k))), some (.int (iN k)), u]) (fun _ => σ) (fun _ => True) (fun _ u => ?_) (fun k hk _ ih u => ?_) 0 (Nat.zero_le _) trivial none
  · have hn := (nM_of hc).2
    refine v59_32 ⟨fun _ => hK, fun h => ?_⟩
    rw [← cR_3 σ 32, nM_lt hc (by omega)] at h; omega
  · have hn := (nM_of hc).2
    have hk20 : k < 20 := by omega
    have ek : (iN k).toNatClampNeg = k := iN_nat (by omega)
    have e0 := cR_f (σ := σ) (p := 32) (t := k) (f := 0) hk20 (by decide)
    have e1 := cR_f (σ := σ) (p := 32) (t := k) (f := 1) hk20 (by decide)
    have ht := (hb k hk).1
    have ih := ih trivial
    have tv := tv_32 k hk20
    refine v59_32 ⟨fun h => ?_, fun h => ⟨b20 hk20, ?_⟩⟩
    · rw [← cR_3 σ 32, nM_lt hc (by omega)] at h; omega
    · rw [ek, ← e0, ← e1, iN_one, iN_one]
      refine ⟨tv, fun h => ?_, fun h => ⟨tv, by decide, fun h2 => ?_, fun h2 => ?_⟩⟩
      · rw [cnt_f (fun e => (of_decide_eq_true e) (Or.inl (ht.resolve_left h)))] at ih
        exact ih _
      · rw [cnt_f (fun e => (of_decide_eq_true e) (Or.inr (Int32.not_lt.mp h2)))] at ih
        exact ih _
      · have hP : decide (¬ (fld (cR σ 32) k 1 = 1 ∨ f ≤ fld (cR σ 32) k 0 / 4)) = true := decide_eq_true (fun q => by
          rcases q with q | q
          · rw [h] at q; exact absurd q (by decide)
          · exact absurd h2 (Int32.not_lt.mpr q))
        rw [cnt_t hP] at ih
        exact ih _
noncomputable def f59 : gD := fun Lv σ => match Lv with
  | [some (.ref p), some (.int f), none, none, none] => cond (Nat.beq p 6 || Nat.beq p 32) (some (some (0 ≤ σ p 7 ∧ σ p 7 ≤ 20 ∧ bT (cR σ p)), some (.int (fBar (cR σ p) f)), σ)) none
  | _ => none
theorem ok59 : gFok 59 f59 := by
  intro Lv σ q h hc K hK
  unfold f59 at h
  split at h
  · rename_i p f
    obtain ⟨hb, h⟩ := c_no h
    have hb0 := hb
    rcases s_or hb0 with hb0 | hb0
    · have e := b_eq hb0
      subst e
      cases h
      exact s59_6 (hc _ rfl) hK
    · have e := b_eq hb0
      subst e
      cases h
      exact s59_32 (hc _ rfl) hK
  · cases h
