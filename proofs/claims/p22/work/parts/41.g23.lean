-- text 23
/-! THE CLASS: a train read as a row -/
theorem tv_6 : ∀ k, k < 20 → gTv (6 + 2 + k) := by unfold gTv; decide +kernel
theorem tv_32 : ∀ k, k < 20 → gTv (32 + 2 + k) := by unfold gTv; decide +kernel
/-- the train at place p as a row (names as the class writes them; no log) -/
def cR (σ : gS) (p : Nat) : gW := fun j => if j < 9 then σ p (j + 4) else if j < 209 then (if (j - 9) % 10 < 9 then σ (p + 2 + (j - 9) / 10) ((j - 9) % 10 + 1) else σ (p + 2 + (j - 9) / 10) 0) else 0
theorem cR_h {σ : gS} {p j : Nat} (h : j < 9) : cR σ p j = σ p (j + 4) := if_pos h
theorem cR_f {σ : gS} {p t f : Nat} (ht : t < 20) (hf : f < 9) : fld (cR σ p) t f = σ (p + 2 + t) (f + 1) := by
  unfold fld cR
  have e1 : (9 + 10 * t + f - 9) % 10 = f := by omega
  have e2 : (9 + 10 * t + f - 9) / 10 = t := by omega
  rw [if_neg (by omega), if_pos (by omega), e1, e2, if_pos hf]
theorem cR_3 (σ : gS) (p : Nat) : cR σ p 3 = σ p 7 := cR_h (by decide)
theorem cR_0 (σ : gS) (p : Nat) : cR σ p 0 = σ p 4 := cR_h (by decide)
theorem cR_1 (σ : gS) (p : Nat) : cR σ p 1 = σ p 5 := cR_h (by decide)
set_option maxRecDepth 20000 in
theorem w51_6 {σ : gS} {K : gK} (h : (2 : Int32) ≠ 0 ∧ K (some (.int (((σ 6 4) + 1) / 2))) σ) : gE 51 0 [some (.ref 6)] [] σ K :=
  gw_run (cy := 51) (cuts := []) (inl := []) (pf := gpfT) gpfT_ok 400 (by decide) h
theorem s51_6 {σ : gS} {K : gK} (hK : K (some (.int ((σ 6 4 + 1) / 2))) σ) : gE 51 0 [some (.ref 6)] [] σ K := by
  exact w51_6 ⟨by decide, hK⟩
set_option maxRecDepth 20000 in
theorem w51_32 {σ : gS} {K : gK} (h : (2 : Int32) ≠ 0 ∧ K (some (.int (((σ 32 4) + 1) / 2))) σ) : gE 51 0 [some (.ref 32)] [] σ K :=
  gw_run (cy := 51) (cuts := []) (inl := []) (pf := gpfT) gpfT_ok 400 (by decide) h
theorem s51_32 {σ : gS} {K : gK} (hK : K (some (.int ((σ 32 4 + 1) / 2))) σ) : gE 51 0 [some (.ref 32)] [] σ K := by
  exact w51_32 ⟨by decide, hK⟩
noncomputable def f51 : gD := fun Lv σ => match Lv with
  | [some (.ref p)] => cond (Nat.beq p 6 || Nat.beq p 32) (some (none, some (.int ((σ p 4 + 1) / 2)), σ)) none
  | _ => none
theorem ok51 : gFok 51 f51 := by
  intro Lv σ q h hc K hK
  unfold f51 at h
  split at h
  · rename_i p
    obtain ⟨hb, h⟩ := c_no h
    have hb0 := hb
    rcases s_or hb0 with hb0 | hb0
    · have e := b_eq hb0
      subst e
      cases h
      exact s51_6 hK
    · have e := b_eq hb0
      subst e
      cases h
      exact s51_32 hK
  · cases h
set_option maxRecDepth 20000 in
theorem w53_6 {σ : gS} {K : gK} {t : Int32} (h : ((bI ((0 : Int32) ≤ t ∧ t ≤ ((σ 6 7) - 1))) = 0 ∨ (bI ((0 : Int32) ≤ t ∧ t ≤ ((σ 6 7) - 1))) = 1) ∧ K (some (.int (bI ((0 : Int32) ≤ t ∧ t ≤ ((σ 6 7) - 1))))) σ) : gE 53 0 [some (.ref 6), some (.int t)] [] σ K :=
  gw_run (cy := 53) (cuts := []) (inl := []) (pf := gpfT) gpfT_ok 400 (by decide) h
theorem s53_6 {σ : gS} {K : gK} {t : Int32} (hK : K (some (.int (bI (isT (cR σ 6) t)))) σ) : gE 53 0 [some (.ref 6), some (.int t)] [] σ K := by
  unfold isT at hK
  rw [cR_3] at hK
  exact w53_6 ⟨bI_01, hK⟩
set_option maxRecDepth 20000 in
theorem w53_32 {σ : gS} {K : gK} {t : Int32} (h : ((bI ((0 : Int32) ≤ t ∧ t ≤ ((σ 32 7) - 1))) = 0 ∨ (bI ((0 : Int32) ≤ t ∧ t ≤ ((σ 32 7) - 1))) = 1) ∧ K (some (.int (bI ((0 : Int32) ≤ t ∧ t ≤ ((σ 32 7) - 1))))) σ) : gE 53 0 [some (.ref 32), some (.int t)] [] σ K :=
  gw_run (cy := 53) (cuts := []) (inl := []) (pf := gpfT) gpfT_ok 400 (by decide) h
theorem s53_32 {σ : gS} {K : gK} {t : Int32} (hK : K (some (.int (bI (isT (cR σ 32) t)))) σ) : gE 53 0 [some (.ref 32), some (.int t)] [] σ K := by
  unfold isT at hK
  rw [cR_3] at hK
  exact w53_32 ⟨bI_01, hK⟩
noncomputable def f53 : gD := fun Lv σ => match Lv with
  | [some (.ref p), some (.int t)] => cond (Nat.beq p 6 || Nat.beq p 32) (some (none, some (.int (bI (isT (cR σ p) t))), σ)) none
  | _ => none
theorem ok53 : gFok 53 f53 := by
  intro Lv σ q h hc K hK
  unfold f53 at h
  split at h
  · rename_i p t
    obtain ⟨hb, h⟩ := c_no h
    have hb0 := hb
    rcases s_or hb0 with hb0 | hb0
    · have e := b_eq hb0
      subst e
      cases h
      exact s53_6 hK
    · have e := b_eq hb0
      subst e
      cases h
      exact s53_32 hK
  · cases h
set_option maxRecDepth 20000 in
theorem w57_6 {σ : gS} {K : gK} {k x : Int32} (h : ((k = 1 → ((1 : Int32) = 0 ∨ (1 : Int32) = 1) ∧ K (some (.int 1)) σ) ∧ (¬ k = 1 → (4 : Int32) ≠ 0 ∧ (((x / 4) < (σ 6 5) → ((0 : Int32) = 0 ∨ (0 : Int32) = 1) ∧ K (some (.int 0)) σ) ∧ (¬ (x / 4) < (σ 6 5) → ((1 : Int32) = 0 ∨ (1 : Int32) = 1) ∧ K (some (.int 1)) σ))))) : gE 57 0 [some (.ref 6), some (.int k), some (.int x)] [] σ K :=
  gw_run (cy := 57) (cuts := []) (inl := []) (pf := gpfT) gpfT_ok 400 (by decide) h
theorem s57_6 {σ : gS} {K : gK} {k x : Int32} (hK : K (some (.int (bI (k = 1 ∨ cR σ 6 1 ≤ x / 4)))) σ) : gE 57 0 [some (.ref 6), some (.int k), some (.int x)] [] σ K := by
  rw [cR_1] at hK
  refine w57_6 ?_
  grind [bI]
set_option maxRecDepth 20000 in
theorem w57_32 {σ : gS} {K : gK} {k x : Int32} (h : ((k = 1 → ((1 : Int32) = 0 ∨ (1 : Int32) = 1) ∧ K (some (.int 1)) σ) ∧ (¬ k = 1 → (4 : Int32) ≠ 0 ∧ (((x / 4) < (σ 32 5) → ((0 : Int32) = 0 ∨ (0 : Int32) = 1) ∧ K (some (.int 0)) σ) ∧ (¬ (x / 4) < (σ 32 5) → ((1 : Int32) = 0 ∨ (1 : Int32) = 1) ∧ K (some (.int 1)) σ))))) : gE 57 0 [some (.ref 32), some (.int k), some (.int x)] [] σ K :=
  gw_run (cy := 57) (cuts := []) (inl := []) (pf := gpfT) gpfT_ok 400 (by decide) h
theorem s57_32 {σ : gS} {K : gK} {k x : Int32} (hK : K (some (.int (bI (k = 1 ∨ cR σ 32 1 ≤ x / 4)))) σ) : gE 57 0 [some (.ref 32), some (.int k), some (.int x)] [] σ K := by
  rw [cR_1] at hK
  refine w57_32 ?_
  grind [bI]
noncomputable def f57 : gD := fun Lv σ => match Lv with
  | [some (.ref p), some (.int k), some (.int x)] => cond (Nat.beq p 6 || Nat.beq p 32) (some (none, some (.int (bI (k = 1 ∨ cR σ p 1 ≤ x / 4))), σ)) none
  | _ => none
theorem ok57 : gFok 57 f57 := by
  intro Lv σ q h hc K hK
  unfold f57 at h
  split at h
  · rename_i p k x
    obtain ⟨hb, h⟩ := c_no h
    have hb0 := hb
    rcases s_or hb0 with hb0 | hb0
    · have e := b_eq hb0
      subst e
      cases h
      exact s57_6 hK
    · have e := b_eq hb0
      subst e
      cases h
      exact s57_32 hK
  · cases h
set_option maxRecDepth 20000 in
theorem w68 {σ : gS} {K : gK} {x : Int32} (h : (2 : Int32) ≠ 0 ∧ ((¬ (x - x / 2 * 2) = 1 → ((0 : Int32) = 0 ∨ (0 : Int32) = 1) ∧ K (some (.int 0)) σ) ∧ ((x - x / 2 * 2) = 1 → ((1 : Int32) = 0 ∨ (1 : Int32) = 1) ∧ K (some (.int 1)) σ))) : gE 68 0 [some (.int x)] [] σ K :=
  gw_run (cy := 68) (cuts := []) (inl := []) (pf := gpfT) gpfT_ok 400 (by decide) h
theorem s68 {σ : gS} {K : gK} {x : Int32} (hK : K (some (.int (bI (isFwd x)))) σ) : gE 68 0 [some (.int x)] [] σ K := by
  refine w68 ?_
  grind [bI]
noncomputable def f68 : gD := fun Lv σ => match Lv with
  | [some (.int x)] => some (none, some (.int (bI (isFwd x))), σ)
  | _ => none
theorem ok68 : gFok 68 f68 := by
  intro Lv σ q h hc K hK
  unfold f68 at h
  split at h
  · rename_i x
    cases h
    exact s68 hK
  · cases h
set_option maxRecDepth 20000 in
theorem w270 {σ : gS} {K : gK} {x : Int32} (h : ((¬ x < 0 → K (some (.int x)) σ) ∧ (x < 0 → K (some (.int (-x))) σ))) : gE 270 0 [some (.int x)] [] σ K :=
  gw_run (cy := 270) (cuts := []) (inl := []) (pf := gpfT) gpfT_ok 400 (by decide) h
theorem s270 {σ : gS} {K : gK} {x : Int32} (hK : K (some (.int (if x < 0 then -x else x))) σ) : gE 270 0 [some (.int x)] [] σ K := by
  refine w270 ?_
  grind
noncomputable def f270 : gD := fun Lv σ => match Lv with
  | [some (.int x)] => some (none, some (.int (if x < 0 then -x else x)), σ)
  | _ => none
theorem ok270 : gFok 270 f270 := by
  intro Lv σ q h hc K hK
  unfold f270 at h
  split at h
  · rename_i x
    cases h
    exact s270 hK
  · cases h
noncomputable def gpca_l : List (Nat × gD) := (51, f51) :: (53, f53) :: (57, f57) :: (68, f68) :: (270, f270) :: gpfT_l
noncomputable def gpca : gP := gpl0 gpca_l
theorem gpca_ok : gPok gpca := gpl0_cons ok51 (gpl0_cons ok53 (gpl0_cons ok57 (gpl0_cons ok68 (gpl0_cons ok270 (gpfT_ok)))))
set_option maxRecDepth 20000 in
theorem w52_6 {σ : gS} {K : gK} {x : Int32} (h : ((bI ((0 : Int32) ≤ x ∧ x ≤ ((σ 6 4 * 4) - 1))) = 0 ∨ (bI ((0 : Int32) ≤ x ∧ x ≤ ((σ 6 4 * 4) - 1))) = 1) ∧ K (some (.int (bI ((0 : Int32) ≤ x ∧ x ≤ ((σ 6 4 * 4) - 1))))) σ) : gE 52 0 [some (.ref 6), some (.int x)] [] σ K :=
  gw_run (cy := 52) (cuts := []) (inl := []) (pf := gpca) gpca_ok 400 (by decide) h
theorem s52_6 {σ : gS} {K : gK} {x : Int32} (hK : K (some (.int (bI (isS (cR σ 6) x)))) σ) : gE 52 0 [some (.ref 6), some (.int x)] [] σ K := by
  unfold isS at hK
  rw [cR_0, show (4 : Int32) * σ 6 4 = σ 6 4 * 4 from Int32.mul_comm ..] at hK
  exact w52_6 ⟨bI_01, hK⟩
set_option maxRecDepth 20000 in
theorem w52_32 {σ : gS} {K : gK} {x : Int32} (h : ((bI ((0 : Int32) ≤ x ∧ x ≤ ((σ 32 4 * 4) - 1))) = 0 ∨ (bI ((0 : Int32) ≤ x ∧ x ≤ ((σ 32 4 * 4) - 1))) = 1) ∧ K (some (.int (bI ((0 : Int32) ≤ x ∧ x ≤ ((σ 32 4 * 4) - 1))))) σ) : gE 52 0 [some (.ref 32), some (.int x)] [] σ K :=
  gw_run (cy := 52) (cuts := []) (inl := []) (pf := gpca) gpca_ok 400 (by decide) h
theorem s52_32 {σ : gS} {K : gK} {x : Int32} (hK : K (some (.int (bI (isS (cR σ 32) x)))) σ) : gE 52 0 [some (.ref 32), some (.int x)] [] σ K := by
  unfold isS at hK
  rw [cR_0, show (4 : Int32) * σ 32 4 = σ 32 4 * 4 from Int32.mul_comm ..] at hK
  exact w52_32 ⟨bI_01, hK⟩
noncomputable def f52 : gD := fun Lv σ => match Lv with
  | [some (.ref p), some (.int x)] => cond (Nat.beq p 6 || Nat.beq p 32) (some (none, some (.int (bI (isS (cR σ p) x))), σ)) none
  | _ => none
theorem ok52 : gFok 52 f52 := by
  intro Lv σ q h hc K hK
  unfold f52 at h
  split at h
  · rename_i p x
    obtain ⟨hb, h⟩ := c_no h
    have hb0 := hb
    rcases s_or hb0 with hb0 | hb0
    · have e := b_eq hb0
      subst e
      cases h
      exact s52_6 hK
    · have e := b_eq hb0
      subst e
      cases h
      exact s52_32 hK
  · cases h
set_option maxRecDepth 20000 in
theorem w55_6 {σ : gS} {K : gK} {x : Int32} (h : gE 55 2 [some (.ref 6), some (.int x), some (.int 0)] [] σ K) : gE 55 0 [some (.ref 6), some (.int x), none] [] σ K :=
  gw_run (cy := 55) (cuts := [2]) (inl := []) (pf := gpca) gpca_ok 400 (by decide) h
set_option maxRecDepth 20000 in
theorem v55_6 {σ : gS} {K : gK} {x t : Int32} (h : ((¬ t < (σ 6 7) → K (some (.int (-2))) σ) ∧ (t < (σ 6 7) → (0 ≤ t ∧ t < 20) ∧ gTv (6 + 2 + t.toNatClampNeg) ∧ ((¬ (σ (6 + 2 + t.toNatClampNeg) 1) = x → gE 55 2 [some (.ref 6), some (.int x), some (.int (t + 1))] [] σ K) ∧ ((σ (6 + 2 + t.toNatClampNeg) 1) = x → K (some (.int t)) σ))))) : gE 55 2 [some (.ref 6), some (.int x), some (.int t)] [] σ K :=
  gw_run (cy := 55) (cuts := [2]) (inl := []) (pf := gpca) gpca_ok 400 (by decide) h
theorem s55_6 {σ : gS} {K : gK} {x : Int32} (hc : 0 ≤ σ 6 7 ∧ σ 6 7 ≤ 20) (hK : K (some (.int (fWho (cR σ 6) x))) σ) : gE 55 0 [some (.ref 6), some (.int x), none] [] σ K := by
  rw [← cR_3 σ 6] at hc
  refine w55_6 ?_
  refine g_forI (nM (cR σ 6)) (fun k => [some (.ref 6), some (.int x), some (.int (iN k))]) (fun _ => σ) (fun k => ∀ j, j < k → fld (cR σ 6) j 0 ≠ x) (fun hi => ?_) (fun k hk hi ih => ?_) 0 (Nat.zero_le _) (fun j hj => absurd hj (Nat.not_lt_zero j))
  · have hn := (nM_of hc).2
    refine v55_6 ⟨fun _ => ?_, fun h => ?_⟩
    · have e : fWho (cR σ 6) x = -2 := fnd_none (fun j hj => decide_eq_false (hi j hj))
      rw [e] at hK; exact hK
    · rw [← cR_3 σ 6, nM_lt hc (by omega)] at h; omega
  · have hn := (nM_of hc).2
    have hk20 : k < 20 := by omega
    have ek : (iN k).toNatClampNeg = k := iN_nat (by omega)
    have ef := cR_f (σ := σ) (p := 6) (t := k) (f := 0) hk20 (by decide)
    refine v55_6 ⟨fun h => ?_, fun h => ⟨b20 hk20, ?_, fun h2 => ?_, fun h2 => ?_⟩⟩
    · rw [← cR_3 σ 6, nM_lt hc (by omega)] at h; omega
    · rw [ek]; exact tv_6 k hk20
    · rw [ek, ← ef] at h2
      rw [iN_one]
      refine ih (fun j hj => ?_)
      rcases Nat.lt_or_ge j k with q | q
      · exact hi j q
      · have : j = k := by omega
        subst this; exact h2
    · rw [ek, ← ef] at h2
      have e : fWho (cR σ 6) x = iN k := fnd_some (decide_eq_true h2) (fun j hj => decide_eq_false (hi j hj)) (by omega) hk
      rw [e] at hK; exact hK
set_option maxRecDepth 20000 in
theorem w55_32 {σ : gS} {K : gK} {x : Int32} (h : gE 55 2 [some (.ref 32), some (.int x), some (.int 0)] [] σ K) : gE 55 0 [some (.ref 32), some (.int x), none] [] σ K :=
  gw_run (cy := 55) (cuts := [2]) (inl := []) (pf := gpca) gpca_ok 400 (by decide) h
set_option maxRecDepth 20000 in
theorem v55_32 {σ : gS} {K : gK} {x t : Int32} (h : ((¬ t < (σ 32 7) → K (some (.int (-2))) σ) ∧ (t < (σ 32 7) → (0 ≤ t ∧ t < 20) ∧ gTv (32 + 2 + t.toNatClampNeg) ∧ ((¬ (σ (32 + 2 + t.toNatClampNeg) 1) = x → gE 55 2 [some (.ref 32), some (.int x), some (.int (t + 1))] [] σ K) ∧ ((σ (32 + 2 + t.toNatClampNeg) 1) = x → K (some (.int t)) σ))))) : gE 55 2 [some (.ref 32), some (.int x), some (.int t)] [] σ K :=
  gw_run (cy := 55) (cuts := [2]) (inl := []) (pf := gpca) gpca_ok 400 (by decide) h
theorem s55_32 {σ : gS} {K : gK} {x : Int32} (hc : 0 ≤ σ 32 7 ∧ σ 32 7 ≤ 20) (hK : K (some (.int (fWho (cR σ 32) x))) σ) : gE 55 0 [some (.ref 32), some (.int x), none] [] σ K := by
  rw [← cR_3 σ 32] at hc
  refine w55_32 ?_
  refine g_forI (nM (cR σ 32)) (fun k => [some (.ref 32), some (.int x), some (.int (iN k))]) (fun _ => σ) (fun k => ∀ j, j < k → fld (cR σ 32) j 0 ≠ x) (fun hi => ?_) (fun k hk hi ih => ?_) 0 (Nat.zero_le _) (fun j hj => absurd hj (Nat.not_lt_zero j))
  · have hn := (nM_of hc).2
    refine v55_32 ⟨fun _ => ?_, fun h => ?_⟩
    · have e : fWho (cR σ 32) x = -2 := fnd_none (fun j hj => decide_eq_false (hi j hj))
      rw [e] at hK; exact hK
    · rw [← cR_3 σ 32, nM_lt hc (by omega)] at h; omega
  · have hn := (nM_of hc).2
    have hk20 : k < 20 := by omega
    have ek : (iN k).toNatClampNeg = k := iN_nat (by omega)
    have ef := cR_f (σ := σ) (p := 32) (t := k) (f := 0) hk20 (by decide)
    refine v55_32 ⟨fun h => ?_, fun h => ⟨b20 hk20, ?_, fun h2 => ?_, fun h2 => ?_⟩⟩
    · rw [← cR_3 σ 32, nM_lt hc (by omega)] at h; omega
    · rw [ek]; exact tv_32 k hk20
    · rw [ek, ← ef] at h2
      rw [iN_one]
      refine ih (fun j hj => ?_)
      rcases Nat.lt_or_ge j k with q | q
      · exact hi j q
      · have : j = k := by omega
        subst this; exact h2
    · rw [ek, ← ef] at h2
      have e : fWho (cR σ 32) x = iN k := fnd_some (decide_eq_true h2) (fun j hj => decide_eq_false (hi j hj)) (by omega) hk
      rw [e] at hK; exact hK
noncomputable def f55 : gD := fun Lv σ => match Lv with
  | [some (.ref p), some (.int x), none] => cond (Nat.beq p 6 || Nat.beq p 32) (some (some (0 ≤ σ p 7 ∧ σ p 7 ≤ 20), some (.int (fWho (cR σ p) x)), σ)) none
  | _ => none
theorem ok55 : gFok 55 f55 := by
  intro Lv σ q h hc K hK
  unfold f55 at h
  split at h
  · rename_i p x
    obtain ⟨hb, h⟩ := c_no h
    have hb0 := hb
    rcases s_or hb0 with hb0 | hb0
    · have e := b_eq hb0
      subst e
      cases h
      exact s55_6 (hc _ rfl) hK
    · have e := b_eq hb0
      subst e
      cases h
      exact s55_32 (hc _ rfl) hK
  · cases h
noncomputable def gpcb_l : List (Nat × gD) := (52, f52) :: (55, f55) :: gpca_l
noncomputable def gpcb : gP := gpl0 gpcb_l
theorem gpcb_ok : gPok gpcb := gpl0_cons ok52 (gpl0_cons ok55 (gpca_ok))
set_option maxRecDepth 20000 in
theorem w56_6 {σ : gS} {K : gK} {x : Int32} (h : (0 ≤ σ 6 7 ∧ σ 6 7 ≤ 20) ∧ ((¬ (fWho (cR σ 6) x) = (-2) → ((0 : Int32) = 0 ∨ (0 : Int32) = 1) ∧ K (some (.int 0)) σ) ∧ ((fWho (cR σ 6) x) = (-2) → ((1 : Int32) = 0 ∨ (1 : Int32) = 1) ∧ K (some (.int 1)) σ))) : gE 56 0 [some (.ref 6), some (.int x)] [] σ K :=
  gw_run (cy := 56) (cuts := []) (inl := []) (pf := gpcb) gpcb_ok 400 (by decide) h
theorem s56_6 {σ : gS} {K : gK} {x : Int32} (hc : 0 ≤ σ 6 7 ∧ σ 6 7 ≤ 20) (hK : K (some (.int (bI (fWho (cR σ 6) x = -2)))) σ) : gE 56 0 [some (.ref 6), some (.int x)] [] σ K := by
  refine w56_6 ?_
  grind [bI]
set_option maxRecDepth 20000 in
theorem w56_32 {σ : gS} {K : gK} {x : Int32} (h : (0 ≤ σ 32 7 ∧ σ 32 7 ≤ 20) ∧ ((¬ (fWho (cR σ 32) x) = (-2) → ((0 : Int32) = 0 ∨ (0 : Int32) = 1) ∧ K (some (.int 0)) σ) ∧ ((fWho (cR σ 32) x) = (-2) → ((1 : Int32) = 0 ∨ (1 : Int32) = 1) ∧ K (some (.int 1)) σ))) : gE 56 0 [some (.ref 32), some (.int x)] [] σ K :=
  gw_run (cy := 56) (cuts := []) (inl := []) (pf := gpcb) gpcb_ok 400 (by decide) h
theorem s56_32 {σ : gS} {K : gK} {x : Int32} (hc : 0 ≤ σ 32 7 ∧ σ 32 7 ≤ 20) (hK : K (some (.int (bI (fWho (cR σ 32) x = -2)))) σ) : gE 56 0 [some (.ref 32), some (.int x)] [] σ K := by
  refine w56_32 ?_
  grind [bI]
noncomputable def f56 : gD := fun Lv σ => match Lv with
  | [some (.ref p), some (.int x)] => cond (Nat.beq p 6 || Nat.beq p 32) (some (some (0 ≤ σ p 7 ∧ σ p 7 ≤ 20), some (.int (bI (fWho (cR σ p) x = -2))), σ)) none
  | _ => none
theorem ok56 : gFok 56 f56 := by
  intro Lv σ q h hc K hK
  unfold f56 at h
  split at h
  · rename_i p x
    obtain ⟨hb, h⟩ := c_no h
    have hb0 := hb
    rcases s_or hb0 with hb0 | hb0
    · have e := b_eq hb0
      subst e
      cases h
      exact s56_6 (hc _ rfl) hK
    · have e := b_eq hb0
      subst e
      cases h
      exact s56_32 (hc _ rfl) hK
  · cases h
set_option maxRecDepth 20000 in
theorem w58_6 {σ : gS} {K : gK} {t x : Int32} (h : (0 ≤ t ∧ t < 20) ∧ gTv (6 + 2 + t.toNatClampNeg) ∧ ((bI ((σ (6 + 2 + t.toNatClampNeg) 2) = 1 ∨ cR σ 6 1 ≤ x / 4)) = 0 ∨ (bI ((σ (6 + 2 + t.toNatClampNeg) 2) = 1 ∨ cR σ 6 1 ≤ x / 4)) = 1) ∧ K (some (.int (bI ((σ (6 + 2 + t.toNatClampNeg) 2) = 1 ∨ cR σ 6 1 ≤ x / 4)))) σ) : gE 58 0 [some (.ref 6), some (.int t), some (.int x)] [] σ K :=
  gw_run (cy := 58) (cuts := []) (inl := []) (pf := gpcb) gpcb_ok 400 (by decide) h
theorem s58_6 {σ : gS} {K : gK} {t x : Int32} (hc : 0 ≤ t ∧ t < 20) (hK : K (some (.int (bI (fMay (cR σ 6) t.toNatClampNeg x)))) σ) : gE 58 0 [some (.ref 6), some (.int t), some (.int x)] [] σ K := by
  have lt := n20 hc
  refine w58_6 ⟨hc, tv_6 _ lt, bI_01, ?_⟩
  unfold fMay at hK
  rw [cR_f lt (by decide)] at hK
  exact hK
set_option maxRecDepth 20000 in
theorem w58_32 {σ : gS} {K : gK} {t x : Int32} (h : (0 ≤ t ∧ t < 20) ∧ gTv (32 + 2 + t.toNatClampNeg) ∧ ((bI ((σ (32 + 2 + t.toNatClampNeg) 2) = 1 ∨ cR σ 32 1 ≤ x / 4)) = 0 ∨ (bI ((σ (32 + 2 + t.toNatClampNeg) 2) = 1 ∨ cR σ 32 1 ≤ x / 4)) = 1) ∧ K (some (.int (bI ((σ (32 + 2 + t.toNatClampNeg) 2) = 1 ∨ cR σ 32 1 ≤ x / 4)))) σ) : gE 58 0 [some (.ref 32), some (.int t), some (.int x)] [] σ K :=
  gw_run (cy := 58) (cuts := []) (inl := []) (pf := gpcb) gpcb_ok 400 (by decide) h
theorem s58_32 {σ : gS} {K : gK} {t x : Int32} (hc : 0 ≤ t ∧ t < 20) (hK : K (some (.int (bI (fMay (cR σ 32) t.toNatClampNeg x)))) σ) : gE 58 0 [some (.ref 32), some (.int t), some (.int x)] [] σ K := by
  have lt := n20 hc
  refine w58_32 ⟨hc, tv_32 _ lt, bI_01, ?_⟩
  unfold fMay at hK
  rw [cR_f lt (by decide)] at hK
  exact hK
noncomputable def f58 : gD := fun Lv σ => match Lv with
  | [some (.ref p), some (.int t), some (.int x)] => cond (Nat.beq p 6 || Nat.beq p 32) (some (some (0 ≤ t ∧ t < 20), some (.int (bI (fMay (cR σ p) t.toNatClampNeg x))), σ)) none
  | _ => none
theorem ok58 : gFok 58 f58 := by
  intro Lv σ q h hc K hK
  unfold f58 at h
  split at h
  · rename_i p t x
    obtain ⟨hb, h⟩ := c_no h
    have hb0 := hb
    rcases s_or hb0 with hb0 | hb0
    · have e := b_eq hb0
      subst e
      cases h
      exact s58_6 (hc _ rfl) hK
    · have e := b_eq hb0
      subst e
      cases h
      exact s58_32 (hc _ rfl) hK
  · cases h
/-- bounds of a train's travellers -/
abbrev bT (R : gW) : Prop := ∀ t, t < nM R → ((fld R t 1 = 0 ∨ fld R t 1 = 1) ∧ (0 ≤ fld R t 0 ∧ fld R t 0 < 40) ∧ (0 ≤ fld R t 2 ∧ fld R t 2 ≤ 9))
set_option maxRecDepth 20000 in
theorem w59_6 {σ : gS} {K : gK} {f : Int32} (h : gE 59 4 [some (.ref 6), some (.int f), some (.int 0), some (.int 0), none] [] σ K) : gE 59 0 [some (.ref 6), some (.int f), none, none, none] [] σ K :=
  gw_run (cy := 59) (cuts := [4]) (inl := []) (pf := gpcb) gpcb_ok 400 (by decide) h
set_option maxRecDepth 20000 in
theorem v59_6 {σ : gS} {K : gK} {f s t : Int32} {u : Option Value} (h : ((¬ t < (σ 6 7) → K (some (.int s)) σ) ∧ (t < (σ 6 7) → (0 ≤ t ∧ t < 20) ∧ gTv (6 + 2 + t.toNatClampNeg) ∧ ((¬ (σ (6 + 2 + t.toNatClampNeg) 2) = 0 → gE 59 4 [some (.ref 6), some (.int f), some (.int s), some (.int (t + 1)), some (.ref (6 + 2 + t.toNatClampNeg))] [] σ K) ∧ ((σ (6 + 2 + t.toNatClampNeg) 2) = 0 → gTv (6 + 2 + t.toNatClampNeg) ∧ (4 : Int32) ≠ 0 ∧ ((¬ ((σ (6 + 2 + t.toNatClampNeg) 1) / 4) < f → gE 59 4 [some (.ref 6), some (.int f), some (.int s), some (.int (t + 1)), some (.ref (6 + 2 + t.toNatClampNeg))] [] σ K) ∧ (((σ (6 + 2 + t.toNatClampNeg) 1) / 4) < f → gE 59 4 [some (.ref 6), some (.int f), some (.int (s + 1)), some (.int (t + 1)), some (.ref (6 + 2 + t.toNatClampNeg))] [] σ K))))))) : gE 59 4 [some (.ref 6), some (.int f), some (.int s), some (.int t), u] [] σ K :=
  gw_run (cy := 59) (cuts := [4]) (inl := []) (pf := gpcb) gpcb_ok 400 (by decide) h
theorem s59_6 {σ : gS} {K : gK} {f : Int32} (hc : 0 ≤ σ 6 7 ∧ σ 6 7 ≤ 20 ∧ bT (cR σ 6)) (hK : K (some (.int (fBar (cR σ 6) f))) σ) : gE 59 0 [some (.ref 6), some (.int f), none, none, none] [] σ K := by
  obtain ⟨h1, h2, hb⟩ := hc
  have hc : 0 ≤ cR σ 6 3 ∧ cR σ 6 3 ≤ 20 := by rw [cR_3]; exact ⟨h1, h2⟩
  refine w59_6 ?_
  refine g_forJ (nM (cR σ 6)) (fun k u => [some (.ref 6), some (.int f), some (.int (iN (cnt (fun t => decide (¬ (fld (cR σ 6) t 1 = 1 ∨ f ≤ fld (cR σ 6) t 0 / 4))) k))), some (.int (iN k)), u]) (fun _ => σ) (fun _ => True) (fun _ u => ?_) (fun k hk _ ih u => ?_) 0 (Nat.zero_le _) trivial none
  · have hn := (nM_of hc).2
    refine v59_6 ⟨fun _ => hK, fun h => ?_⟩
    rw [← cR_3 σ 6, nM_lt hc (by omega)] at h; omega
  · have hn := (nM_of hc).2
    have hk20 : k < 20 := by omega
    have ek : (iN k).toNatClampNeg = k := iN_nat (by omega)
    have e0 := cR_f (σ := σ) (p := 6) (t := k) (f := 0) hk20 (by decide)
    have e1 := cR_f (σ := σ) (p := 6) (t := k) (f := 1) hk20 (by decide)
    have ht := (hb k hk).1
    have ih := ih trivial
    have tv := tv_6 k hk20
    refine v59_6 ⟨fun h => ?_, fun h => ⟨b20 hk20, ?_⟩⟩
    · rw [← cR_3 σ 6, nM_lt hc (by omega)] at h; omega
    · rw [ek, ← e0, ← e1, iN_one, iN_one]
      refine ⟨tv, fun h => ?_, fun h => ⟨tv, by decide, fun h2 => ?_, fun h2 => ?_⟩⟩
      · rw [cnt_f (fun e => (of_decide_eq_true e) (Or.inl (ht.resolve_left h)))] at ih
        exact ih _
      · rw [cnt_f (fun e => (of_decide_eq_true e) (Or.inr (Int32.not_lt.mp h2)))] at ih
        exact ih _
      · have hP : decide (¬ (fld (cR σ 6) k 1 = 1 ∨ f ≤ fld (cR σ 6) k 0 / 4)) = true := decide_eq_true (fun q => by
          rcases q with q | q
          · rw [h] at q; exact absurd q (by decide)
          · exact absurd h2 (Int32.not_lt.mpr q))
        rw [cnt_t hP] at ih
        exact ih _
set_option maxRecDepth 20000 in
theorem w59_32 {σ : gS} {K : gK} {f : Int32} (h : gE 59 4 [some (.ref 32), some (.int f), some (.int 0), some (.int 0), none] [] σ K) : gE 59 0 [some (.ref 32), some (.int f), none, none, none] [] σ K :=
  gw_run (cy := 59) (cuts := [4]) (inl := []) (pf := gpcb) gpcb_ok 400 (by decide) h
set_option maxRecDepth 20000 in
theorem v59_32 {σ : gS} {K : gK} {f s t : Int32} {u : Option Value} (h : ((¬ t < (σ 32 7) → K (some (.int s)) σ) ∧ (t < (σ 32 7) → (0 ≤ t ∧ t < 20) ∧ gTv (32 + 2 + t.toNatClampNeg) ∧ ((¬ (σ (32 + 2 + t.toNatClampNeg) 2) = 0 → gE 59 4 [some (.ref 32), some (.int f), some (.int s), some (.int (t + 1)), some (.ref (32 + 2 + t.toNatClampNeg))] [] σ K) ∧ ((σ (32 + 2 + t.toNatClampNeg) 2) = 0 → gTv (32 + 2 + t.toNatClampNeg) ∧ (4 : Int32) ≠ 0 ∧ ((¬ ((σ (32 + 2 + t.toNatClampNeg) 1) / 4) < f → gE 59 4 [some (.ref 32), some (.int f), some (.int s), some (.int (t + 1)), some (.ref (32 + 2 + t.toNatClampNeg))] [] σ K) ∧ (((σ (32 + 2 + t.toNatClampNeg) 1) / 4) < f → gE 59 4 [some (.ref 32), some (.int f), some (.int (s + 1)), some (.int (t + 1)), some (.ref (32 + 2 + t.toNatClampNeg))] [] σ K))))))) : gE 59 4 [some (.ref 32), some (.int f), some (.int s), some (.int t), u] [] σ K :=
  gw_run (cy := 59) (cuts := [4]) (inl := []) (pf := gpcb) gpcb_ok 400 (by decide) h
theorem s59_32 {σ : gS} {K : gK} {f : Int32} (hc : 0 ≤ σ 32 7 ∧ σ 32 7 ≤ 20 ∧ bT (cR σ 32)) (hK : K (some (.int (fBar (cR σ 32) f))) σ) : gE 59 0 [some (.ref 32), some (.int f), none, none, none] [] σ K := by
  obtain ⟨h1, h2, hb⟩ := hc
  have hc : 0 ≤ cR σ 32 3 ∧ cR σ 32 3 ≤ 20 := by rw [cR_3]; exact ⟨h1, h2⟩
  refine w59_32 ?_
  refine g_forJ (nM (cR σ 32)) (fun k u => [some (.ref 32), some (.int f), some (.int (iN (cnt (fun t => decide (¬ (fld (cR σ 32) t 1 = 1 ∨ f ≤ fld (cR σ 32) t 0 / 4))) k))), some (.int (iN k)), u]) (fun _ => σ) (fun _ => True) (fun _ u => ?_) (fun k hk _ ih u => ?_) 0 (Nat.zero_le _) trivial none
  · have hn := (nM_of hc).2
    refine v59_32 ⟨fun _ => hK, fun h => ?_⟩
    rw [← cR_3 σ 32, nM_lt hc (by omega)] at h; omega
  · have hn := (nM_of hc).2
    have hk20 : k < 20 := by omega
    have ek : (iN k).toNatClampNeg = k := iN_nat (by omega)
    have e0 := cR_f (σ := σ) (p := 32) (t := k) (f := 0) hk20 (by decide)
    have e1 := cR_f (σ := σ) (p := 32) (t := k) (f := 1) hk20 (by decide)
    have ht := (hb k hk).1
    have ih := ih trivial
    have tv := tv_32 k hk20
    refine v59_32 ⟨fun h => ?_, fun h => ⟨b20 hk20, ?_⟩⟩
    · rw [← cR_3 σ 32, nM_lt hc (by omega)] at h; omega
    · rw [ek, ← e0, ← e1, iN_one, iN_one]
      refine ⟨tv, fun h => ?_, fun h => ⟨tv, by decide, fun h2 => ?_, fun h2 => ?_⟩⟩
      · rw [cnt_f (fun e => (of_decide_eq_true e) (Or.inl (ht.resolve_left h)))] at ih
        exact ih _
      · rw [cnt_f (fun e => (of_decide_eq_true e) (Or.inr (Int32.not_lt.mp h2)))] at ih
        exact ih _
      · have hP : decide (¬ (fld (cR σ 32) k 1 = 1 ∨ f ≤ fld (cR σ 32) k 0 / 4)) = true := decide_eq_true (fun q => by
          rcases q with q | q
          · rw [h] at q; exact absurd q (by decide)
          · exact absurd h2 (Int32.not_lt.mpr q))
        rw [cnt_t hP] at ih
        exact ih _
noncomputable def f59 : gD := fun Lv σ => match Lv with
  | [some (.ref p), some (.int f), none, none, none] => cond (Nat.beq p 6 || Nat.beq p 32) (some (some (0 ≤ σ p 7 ∧ σ p 7 ≤ 20 ∧ bT (cR σ p)), some (.int (fBar (cR σ p) f)), σ)) none
  | _ => none
theorem ok59 : gFok 59 f59 := by
  intro Lv σ q h hc K hK
  unfold f59 at h
  split at h
  · rename_i p f
    obtain ⟨hb, h⟩ := c_no h
    have hb0 := hb
    rcases s_or hb0 with hb0 | hb0
    · have e := b_eq hb0
      subst e
      cases h
      exact s59_6 (hc _ rfl) hK
    · have e := b_eq hb0
      subst e
      cases h
      exact s59_32 (hc _ rfl) hK
  · cases h
-- text 24
/-! THE CLASS: members counted, joys -/
noncomputable def gpcc_l : List (Nat × gD) := (56, f56) :: (58, f58) :: (59, f59) :: gpcb_l
noncomputable def gpcc : gP := gpl0 gpcc_l
theorem gpcc_ok : gPok gpcc := gpl0_cons ok56 (gpl0_cons ok58 (gpl0_cons ok59 (gpcb_ok)))
/-- how many of a family sit at a table -/
def memP (R : gW) (b f : Int32) (t : Nat) : Bool := decide (fld R t 0 / 8 = b ∧ fld R t 2 = f)
def mem (R : gW) (b f : Int32) : Nat := cnt (memP R b f) (nM R)
abbrev cM (σ : gS) (p : Nat) : Prop := ∀ a, a < 5 → ∀ f, f < 10 → σ (p + 23) (a * 10 + f) = iN (mem (cR σ p) (iN a) (iN f))
/-- the train at place p is sound -/
abbrev TC (σ : gS) (p : Nat) : Prop := (0 ≤ cR σ p 3 ∧ cR σ p 3 ≤ 20) ∧ bT (cR σ p) ∧ cM σ p
def cMa (σ : gS) (p : Nat) (b f : Int32) : Int32 := if 0 ≤ b * 10 + f ∧ b * 10 + f < 50 then σ (p + 23) (b * 10 + f).toNatClampNeg else 0
def cRel (σ : gS) (p w : Nat) (b : Int32) : Int32 := if σ w 3 = 0 then 0 else if σ w 1 / 8 = b then cMa σ p b (σ w 3) - 1 else cMa σ p b (σ w 3)
theorem cMa_of {σ : gS} {p a f : Nat} (ha : a < 5) (hf : f < 10) : cMa σ p (iN a) (iN f) = σ (p + 23) (a * 10 + f) := by
  unfold cMa
  have e : (iN a * 10 + iN f : Int32) = iN (a * 10 + f) := by
    show iN a * iN 10 + iN f = _
    rw [iN_mul, iN_add]
  rw [e, iN_nat (by omega), if_pos ⟨(iN_le (k := 0) (by decide) (by omega)).mpr (by omega), (iN_lt (m := 50) (by omega) (by decide)).mpr (by omega)⟩]
theorem cnt_ex {Q : Nat → Bool} {t : Nat} : ∀ {n : Nat}, t < n → cnt (fun j => Q j && decide (j ≠ t)) n + (if Q t = true then 1 else 0) = cnt Q n
  | 0, h => absurd h (Nat.not_lt_zero t)
  | n + 1, h => by
    by_cases e : t = n
    · subst e
      have e1 : cnt (fun j => Q j && decide (j ≠ t)) t = cnt Q t := cnt_congr (fun j hj => by
        have : decide (j ≠ t) = true := decide_eq_true (by omega)
        simp only [this, Bool.and_true])
      show cnt (fun j => Q j && decide (j ≠ t)) t + (if (Q t && decide (t ≠ t)) = true then 1 else 0) + _ = cnt Q t + (if Q t = true then 1 else 0)
      rw [e1]
      simp
    · have ih := cnt_ex (Q := Q) (show t < n by omega)
      have e2 : decide (n ≠ t) = true := decide_eq_true (fun q => e q.symm)
      show cnt (fun j => Q j && decide (j ≠ t)) n + (if (Q n && decide (n ≠ t)) = true then 1 else 0) + _ = cnt Q n + (if Q n = true then 1 else 0)
      rw [e2, Bool.and_true]
      omega
theorem kin_mem {R : gW} {t : Nat} {b : Int32} (hR : 0 ≤ R 3 ∧ R 3 ≤ 20) (ht : t < nM R) (hf : 0 ≤ fld R t 2) : kin R t b = if fld R t 2 = 0 then 0 else if fld R t 0 / 8 = b then iN (mem R b (fld R t 2)) - 1 else iN (mem R b (fld R t 2)) := by
  have hn := (nM_of hR).2
  unfold kin mem
  by_cases h0 : fld R t 2 = 0
  · rw [if_pos h0]
    have : cnt (kinP R t b) (nM R) = 0 := by
      have h : ∀ n, cnt (kinP R t b) n = 0 := by
        intro n
        induction n with
        | zero => rfl
        | succ n ih =>
          rw [cnt_f, ih]
          intro q
          have q := (of_decide_eq_true q).2.1
          rw [h0] at q
          exact absurd q (by decide)
      exact h _
    rw [this]
    rfl
  · rw [if_neg h0]
    have hp : 0 < fld R t 2 := by grind
    have e1 : cnt (kinP R t b) (nM R) = cnt (fun j => memP R b (fld R t 2) j && decide (j ≠ t)) (nM R) := cnt_congr (fun j hj => by
      unfold kinP memP
      rw [← Bool.decide_and]
      congr 1
      apply propext
      constructor
      · intro q; exact ⟨⟨q.2.2.2, q.2.2.1⟩, q.1⟩
      · intro q; exact ⟨q.2, hp, q.1.2, q.1.1⟩)
    have e2 := cnt_ex (Q := memP R b (fld R t 2)) ht
    rw [e1]
    by_cases hb : fld R t 0 / 8 = b
    · rw [if_pos hb]
      have : memP R b (fld R t 2) t = true := decide_eq_true ⟨hb, rfl⟩
      rw [if_pos this] at e2
      have hle := cnt_le (memP R b (fld R t 2)) (nM R)
      rw [← e2]
      have e3 := iN_sub (m := cnt (fun j => memP R b (fld R t 2) j && decide (j ≠ t)) (nM R) + 1) (d := 1) (by omega) (by omega)
      rw [Nat.add_sub_cancel] at e3
      exact e3.symm
    · rw [if_neg hb]
      have : ¬ memP R b (fld R t 2) t = true := fun q => hb (of_decide_eq_true q).1
      rw [if_neg this, Nat.add_zero] at e2
      rw [e2]
theorem i8 {x : Int32} (h : 0 ≤ x ∧ x < 40) : ∃ a, a < 5 ∧ x / 8 = iN a := by
  obtain ⟨e, l⟩ := iN_of h.1
  have l2 : x.toNatClampNeg < 40 := by
    have h2 := h.2
    rw [e] at h2
    exact (iN_lt (m := 40) l (by decide)).mp h2
  refine ⟨x.toNatClampNeg / 8, by omega, ?_⟩
  rw [e, show (8 : Int32) = iN 8 from rfl, iN_div (by omega) (by decide), iN_nat l]
theorem i10 {x : Int32} (h : 0 ≤ x ∧ x ≤ 9) : ∃ a, a < 10 ∧ x = iN a := by
  obtain ⟨e, l⟩ := iN_of h.1
  refine ⟨x.toNatClampNeg, ?_, e⟩
  have h2 := h.2
  rw [e] at h2
  have := (iN_le (m := 9) l (by decide)).mp h2
  omega
theorem cRel_kin {σ : gS} {p t : Nat} {x : Int32} (h : TC σ p) (ht : t < nM (cR σ p)) (hx : 0 ≤ x ∧ x < 40) : cRel σ p (p + 2 + t) (x / 8) = kin (cR σ p) t (x / 8) := by
  obtain ⟨h3, hb, hm⟩ := h
  have hn := (nM_of h3).2
  obtain ⟨-, -, hf⟩ := hb t ht
  have e0 := cR_f (σ := σ) (p := p) (t := t) (f := 0) (by omega) (by decide)
  have e2 := cR_f (σ := σ) (p := p) (t := t) (f := 2) (by omega) (by decide)
  obtain ⟨a, ha, ea⟩ := i8 hx
  obtain ⟨f, hf2, ef⟩ := i10 hf
  rw [kin_mem h3 ht hf.1]
  unfold cRel
  rw [← e0, ← e2, ea, ef, cMa_of ha hf2, hm a ha f hf2]
set_option maxRecDepth 20000 in
theorem w60_6 {σ : gS} {K : gK} {b f : Int32} (h : ((((b * 10) + f) < 0 → K (some (.int 0)) σ) ∧ (¬ ((b * 10) + f) < 0 → ((¬ ((b * 10) + f) < 50 → K (some (.int 0)) σ) ∧ (((b * 10) + f) < 50 → (0 ≤ ((b * 10) + f) ∧ ((b * 10) + f) < 50) ∧ K (some (.int (σ 29 ((b * 10) + f).toNatClampNeg))) σ))))) : gE 60 0 [some (.ref 6), some (.int b), some (.int f), none] [] σ K :=
  gw_run (cy := 60) (cuts := []) (inl := []) (pf := gpcc) gpcc_ok 400 (by decide) h
theorem s60_6 {σ : gS} {K : gK} {b f : Int32} (hK : K (some (.int (cMa σ 6 b f))) σ) : gE 60 0 [some (.ref 6), some (.int b), some (.int f), none] [] σ K := by
  unfold cMa at hK
  refine w60_6 ?_
  grind
set_option maxRecDepth 20000 in
theorem w60_32 {σ : gS} {K : gK} {b f : Int32} (h : ((((b * 10) + f) < 0 → K (some (.int 0)) σ) ∧ (¬ ((b * 10) + f) < 0 → ((¬ ((b * 10) + f) < 50 → K (some (.int 0)) σ) ∧ (((b * 10) + f) < 50 → (0 ≤ ((b * 10) + f) ∧ ((b * 10) + f) < 50) ∧ K (some (.int (σ 55 ((b * 10) + f).toNatClampNeg))) σ))))) : gE 60 0 [some (.ref 32), some (.int b), some (.int f), none] [] σ K :=
  gw_run (cy := 60) (cuts := []) (inl := []) (pf := gpcc) gpcc_ok 400 (by decide) h
theorem s60_32 {σ : gS} {K : gK} {b f : Int32} (hK : K (some (.int (cMa σ 32 b f))) σ) : gE 60 0 [some (.ref 32), some (.int b), some (.int f), none] [] σ K := by
  unfold cMa at hK
  refine w60_32 ?_
  grind
noncomputable def f60 : gD := fun Lv σ => match Lv with
  | [some (.ref p), some (.int b), some (.int f), none] => cond (Nat.beq p 6 || Nat.beq p 32) (some (none, some (.int (cMa σ p b f)), σ)) none
  | _ => none
theorem ok60 : gFok 60 f60 := by
  intro Lv σ q h hc K hK
  unfold f60 at h
  split at h
  · rename_i p b f
    obtain ⟨hb, h⟩ := c_no h
    have hb0 := hb
    rcases s_or hb0 with hb0 | hb0
    · have e := b_eq hb0
      subst e
      cases h
      exact s60_6 hK
    · have e := b_eq hb0
      subst e
      cases h
      exact s60_32 hK
  · cases h
noncomputable def gpcd_l : List (Nat × gD) := (60, f60) :: gpcc_l
noncomputable def gpcd : gP := gpl0 gpcd_l
theorem gpcd_ok : gPok gpcd := gpl0_cons ok60 (gpcc_ok)
set_option maxRecDepth 20000 in
theorem w67_6 {σ : gS} {K : gK} {b : Int32} {w : Nat} (h : gTv w ∧ ((¬ (σ w 3) = 0 → gTv w ∧ gTv w ∧ (8 : Int32) ≠ 0 ∧ ((¬ ((σ w 1) / 8) = b → K (some (.int (cMa σ 6 b (σ w 3)))) σ) ∧ (((σ w 1) / 8) = b → K (some (.int ((cMa σ 6 b (σ w 3)) - 1))) σ))) ∧ ((σ w 3) = 0 → K (some (.int 0)) σ))) : gE 67 0 [some (.ref 6), some (.ref w), some (.int b), none] [] σ K :=
  gw_run (cy := 67) (cuts := []) (inl := []) (pf := gpcd) gpcd_ok 400 (by decide) h
theorem s67_6 {σ : gS} {K : gK} {w : Nat} {b : Int32} (hc : gTv w) (hK : K (some (.int (cRel σ 6 w b))) σ) : gE 67 0 [some (.ref 6), some (.ref w), some (.int b), none] [] σ K := by
  unfold cRel at hK
  refine w67_6 ?_
  have h8 : (8 : Int32) ≠ 0 := by decide
  grind
set_option maxRecDepth 20000 in
theorem w67_32 {σ : gS} {K : gK} {b : Int32} {w : Nat} (h : gTv w ∧ ((¬ (σ w 3) = 0 → gTv w ∧ gTv w ∧ (8 : Int32) ≠ 0 ∧ ((¬ ((σ w 1) / 8) = b → K (some (.int (cMa σ 32 b (σ w 3)))) σ) ∧ (((σ w 1) / 8) = b → K (some (.int ((cMa σ 32 b (σ w 3)) - 1))) σ))) ∧ ((σ w 3) = 0 → K (some (.int 0)) σ))) : gE 67 0 [some (.ref 32), some (.ref w), some (.int b), none] [] σ K :=
  gw_run (cy := 67) (cuts := []) (inl := []) (pf := gpcd) gpcd_ok 400 (by decide) h
theorem s67_32 {σ : gS} {K : gK} {w : Nat} {b : Int32} (hc : gTv w) (hK : K (some (.int (cRel σ 32 w b))) σ) : gE 67 0 [some (.ref 32), some (.ref w), some (.int b), none] [] σ K := by
  unfold cRel at hK
  refine w67_32 ?_
  have h8 : (8 : Int32) ≠ 0 := by decide
  grind
noncomputable def f67 : gD := fun Lv σ => match Lv with
  | [some (.ref p), some (.ref w), some (.int b), none] => cond (Nat.beq p 6 || Nat.beq p 32) (some (some (gTv w), some (.int (cRel σ p w b)), σ)) none
  | _ => none
theorem ok67 : gFok 67 f67 := by
  intro Lv σ q h hc K hK
  unfold f67 at h
  split at h
  · rename_i p w b
    obtain ⟨hb, h⟩ := c_no h
    have hb0 := hb
    rcases s_or hb0 with hb0 | hb0
    · have e := b_eq hb0
      subst e
      cases h
      exact s67_6 (hc _ rfl) hK
    · have e := b_eq hb0
      subst e
      cases h
      exact s67_32 (hc _ rfl) hK
  · cases h
noncomputable def gpce_l : List (Nat × gD) := (67, f67) :: gpcd_l
noncomputable def gpce : gP := gpl0 gpce_l
theorem gpce_ok : gPok gpce := gpl0_cons ok67 (gpcd_ok)
set_option maxRecDepth 20000 in
theorem w65_6 {σ : gS} {K : gK} {t x : Int32} (h : (0 ≤ t ∧ t < 20) ∧ (4 : Int32) ≠ 0 ∧ (4 : Int32) ≠ 0 ∧ (8 : Int32) ≠ 0 ∧ (gTv (6 + 2 + t.toNatClampNeg)) ∧ gTv (6 + 2 + t.toNatClampNeg) ∧ gTv (6 + 2 + t.toNatClampNeg) ∧ (((x - x / 4 * 4) = 0 → gTv (6 + 2 + t.toNatClampNeg) ∧ (((bI (isFwd (x / 4))) = 0 → K (some (.int (((4 * (cRel σ 6 (6 + 2 + t.toNatClampNeg) (x / 8))) - ((σ (6 + 2 + t.toNatClampNeg) 7) * (if ((x / 4) - (σ (6 + 2 + t.toNatClampNeg) 6)) < 0 then -((x / 4) - (σ (6 + 2 + t.toNatClampNeg) 6)) else ((x / 4) - (σ (6 + 2 + t.toNatClampNeg) 6))))) + (σ (6 + 2 + t.toNatClampNeg) 4)))) σ) ∧ (¬ (bI (isFwd (x / 4))) = 0 → gTv (6 + 2 + t.toNatClampNeg) ∧ K (some (.int ((((4 * (cRel σ 6 (6 + 2 + t.toNatClampNeg) (x / 8))) - ((σ (6 + 2 + t.toNatClampNeg) 7) * (if ((x / 4) - (σ (6 + 2 + t.toNatClampNeg) 6)) < 0 then -((x / 4) - (σ (6 + 2 + t.toNatClampNeg) 6)) else ((x / 4) - (σ (6 + 2 + t.toNatClampNeg) 6))))) + (σ (6 + 2 + t.toNatClampNeg) 4)) + (σ (6 + 2 + t.toNatClampNeg) 5)))) σ))) ∧ (¬ (x - x / 4 * 4) = 0 → ((¬ (x - x / 4 * 4) = 3 → (((bI (isFwd (x / 4))) = 0 → K (some (.int ((4 * (cRel σ 6 (6 + 2 + t.toNatClampNeg) (x / 8))) - ((σ (6 + 2 + t.toNatClampNeg) 7) * (if ((x / 4) - (σ (6 + 2 + t.toNatClampNeg) 6)) < 0 then -((x / 4) - (σ (6 + 2 + t.toNatClampNeg) 6)) else ((x / 4) - (σ (6 + 2 + t.toNatClampNeg) 6))))))) σ) ∧ (¬ (bI (isFwd (x / 4))) = 0 → gTv (6 + 2 + t.toNatClampNeg) ∧ K (some (.int (((4 * (cRel σ 6 (6 + 2 + t.toNatClampNeg) (x / 8))) - ((σ (6 + 2 + t.toNatClampNeg) 7) * (if ((x / 4) - (σ (6 + 2 + t.toNatClampNeg) 6)) < 0 then -((x / 4) - (σ (6 + 2 + t.toNatClampNeg) 6)) else ((x / 4) - (σ (6 + 2 + t.toNatClampNeg) 6))))) + (σ (6 + 2 + t.toNatClampNeg) 5)))) σ))) ∧ ((x - x / 4 * 4) = 3 → gTv (6 + 2 + t.toNatClampNeg) ∧ (((bI (isFwd (x / 4))) = 0 → K (some (.int (((4 * (cRel σ 6 (6 + 2 + t.toNatClampNeg) (x / 8))) - ((σ (6 + 2 + t.toNatClampNeg) 7) * (if ((x / 4) - (σ (6 + 2 + t.toNatClampNeg) 6)) < 0 then -((x / 4) - (σ (6 + 2 + t.toNatClampNeg) 6)) else ((x / 4) - (σ (6 + 2 + t.toNatClampNeg) 6))))) + (σ (6 + 2 + t.toNatClampNeg) 4)))) σ) ∧ (¬ (bI (isFwd (x / 4))) = 0 → gTv (6 + 2 + t.toNatClampNeg) ∧ K (some (.int ((((4 * (cRel σ 6 (6 + 2 + t.toNatClampNeg) (x / 8))) - ((σ (6 + 2 + t.toNatClampNeg) 7) * (if ((x / 4) - (σ (6 + 2 + t.toNatClampNeg) 6)) < 0 then -((x / 4) - (σ (6 + 2 + t.toNatClampNeg) 6)) else ((x / 4) - (σ (6 + 2 + t.toNatClampNeg) 6))))) + (σ (6 + 2 + t.toNatClampNeg) 4)) + (σ (6 + 2 + t.toNatClampNeg) 5)))) σ))))))) : gE 65 0 [some (.ref 6), some (.int t), some (.int x), none, none, none, none] [] σ K :=
  gw_run (cy := 65) (cuts := []) (inl := []) (pf := gpce) gpce_ok 400 (by decide) h
theorem s65_6 {σ : gS} {K : gK} {t x : Int32} (hc : ((0 ≤ t ∧ t < 20) ∧ t.toNatClampNeg < nM (cR σ 6)) ∧ (0 ≤ x ∧ x < 40) ∧ TC σ 6) (hK : K (some (.int (fJoy (cR σ 6) t.toNatClampNeg x))) σ) : gE 65 0 [some (.ref 6), some (.int t), some (.int x), none, none, none, none] [] σ K := by
  obtain ⟨⟨ht, htn⟩, hx, hT⟩ := hc
  have lt := n20 ht
  have ek := cRel_kin hT htn hx
  have tv := tv_6 _ lt
  have e3 := cR_f (σ := σ) (p := 6) (t := t.toNatClampNeg) (f := 3) lt (by decide)
  have e4 := cR_f (σ := σ) (p := 6) (t := t.toNatClampNeg) (f := 4) lt (by decide)
  have e5 := cR_f (σ := σ) (p := 6) (t := t.toNatClampNeg) (f := 5) lt (by decide)
  have e6 := cR_f (σ := σ) (p := 6) (t := t.toNatClampNeg) (f := 6) lt (by decide)
  unfold fJoy at hK
  rw [← ek, e3, e4, e5, e6] at hK
  have h8 : (8 : Int32) ≠ 0 := by decide
  have h4 : (4 : Int32) ≠ 0 := by decide
  refine w65_6 ?_
  simp only [bI_0]
  grind
set_option maxRecDepth 20000 in
theorem w65_32 {σ : gS} {K : gK} {t x : Int32} (h : (0 ≤ t ∧ t < 20) ∧ (4 : Int32) ≠ 0 ∧ (4 : Int32) ≠ 0 ∧ (8 : Int32) ≠ 0 ∧ (gTv (32 + 2 + t.toNatClampNeg)) ∧ gTv (32 + 2 + t.toNatClampNeg) ∧ gTv (32 + 2 + t.toNatClampNeg) ∧ (((x - x / 4 * 4) = 0 → gTv (32 + 2 + t.toNatClampNeg) ∧ (((bI (isFwd (x / 4))) = 0 → K (some (.int (((4 * (cRel σ 32 (32 + 2 + t.toNatClampNeg) (x / 8))) - ((σ (32 + 2 + t.toNatClampNeg) 7) * (if ((x / 4) - (σ (32 + 2 + t.toNatClampNeg) 6)) < 0 then -((x / 4) - (σ (32 + 2 + t.toNatClampNeg) 6)) else ((x / 4) - (σ (32 + 2 + t.toNatClampNeg) 6))))) + (σ (32 + 2 + t.toNatClampNeg) 4)))) σ) ∧ (¬ (bI (isFwd (x / 4))) = 0 → gTv (32 + 2 + t.toNatClampNeg) ∧ K (some (.int ((((4 * (cRel σ 32 (32 + 2 + t.toNatClampNeg) (x / 8))) - ((σ (32 + 2 + t.toNatClampNeg) 7) * (if ((x / 4) - (σ (32 + 2 + t.toNatClampNeg) 6)) < 0 then -((x / 4) - (σ (32 + 2 + t.toNatClampNeg) 6)) else ((x / 4) - (σ (32 + 2 + t.toNatClampNeg) 6))))) + (σ (32 + 2 + t.toNatClampNeg) 4)) + (σ (32 + 2 + t.toNatClampNeg) 5)))) σ))) ∧ (¬ (x - x / 4 * 4) = 0 → ((¬ (x - x / 4 * 4) = 3 → (((bI (isFwd (x / 4))) = 0 → K (some (.int ((4 * (cRel σ 32 (32 + 2 + t.toNatClampNeg) (x / 8))) - ((σ (32 + 2 + t.toNatClampNeg) 7) * (if ((x / 4) - (σ (32 + 2 + t.toNatClampNeg) 6)) < 0 then -((x / 4) - (σ (32 + 2 + t.toNatClampNeg) 6)) else ((x / 4) - (σ (32 + 2 + t.toNatClampNeg) 6))))))) σ) ∧ (¬ (bI (isFwd (x / 4))) = 0 → gTv (32 + 2 + t.toNatClampNeg) ∧ K (some (.int (((4 * (cRel σ 32 (32 + 2 + t.toNatClampNeg) (x / 8))) - ((σ (32 + 2 + t.toNatClampNeg) 7) * (if ((x / 4) - (σ (32 + 2 + t.toNatClampNeg) 6)) < 0 then -((x / 4) - (σ (32 + 2 + t.toNatClampNeg) 6)) else ((x / 4) - (σ (32 + 2 + t.toNatClampNeg) 6))))) + (σ (32 + 2 + t.toNatClampNeg) 5)))) σ))) ∧ ((x - x / 4 * 4) = 3 → gTv (32 + 2 + t.toNatClampNeg) ∧ (((bI (isFwd (x / 4))) = 0 → K (some (.int (((4 * (cRel σ 32 (32 + 2 + t.toNatClampNeg) (x / 8))) - ((σ (32 + 2 + t.toNatClampNeg) 7) * (if ((x / 4) - (σ (32 + 2 + t.toNatClampNeg) 6)) < 0 then -((x / 4) - (σ (32 + 2 + t.toNatClampNeg) 6)) else ((x / 4) - (σ (32 + 2 + t.toNatClampNeg) 6))))) + (σ (32 + 2 + t.toNatClampNeg) 4)))) σ) ∧ (¬ (bI (isFwd (x / 4))) = 0 → gTv (32 + 2 + t.toNatClampNeg) ∧ K (some (.int ((((4 * (cRel σ 32 (32 + 2 + t.toNatClampNeg) (x / 8))) - ((σ (32 + 2 + t.toNatClampNeg) 7) * (if ((x / 4) - (σ (32 + 2 + t.toNatClampNeg) 6)) < 0 then -((x / 4) - (σ (32 + 2 + t.toNatClampNeg) 6)) else ((x / 4) - (σ (32 + 2 + t.toNatClampNeg) 6))))) + (σ (32 + 2 + t.toNatClampNeg) 4)) + (σ (32 + 2 + t.toNatClampNeg) 5)))) σ))))))) : gE 65 0 [some (.ref 32), some (.int t), some (.int x), none, none, none, none] [] σ K :=
  gw_run (cy := 65) (cuts := []) (inl := []) (pf := gpce) gpce_ok 400 (by decide) h
theorem s65_32 {σ : gS} {K : gK} {t x : Int32} (hc : ((0 ≤ t ∧ t < 20) ∧ t.toNatClampNeg < nM (cR σ 32)) ∧ (0 ≤ x ∧ x < 40) ∧ TC σ 32) (hK : K (some (.int (fJoy (cR σ 32) t.toNatClampNeg x))) σ) : gE 65 0 [some (.ref 32), some (.int t), some (.int x), none, none, none, none] [] σ K := by
  obtain ⟨⟨ht, htn⟩, hx, hT⟩ := hc
  have lt := n20 ht
  have ek := cRel_kin hT htn hx
  have tv := tv_32 _ lt
  have e3 := cR_f (σ := σ) (p := 32) (t := t.toNatClampNeg) (f := 3) lt (by decide)
  have e4 := cR_f (σ := σ) (p := 32) (t := t.toNatClampNeg) (f := 4) lt (by decide)
  have e5 := cR_f (σ := σ) (p := 32) (t := t.toNatClampNeg) (f := 5) lt (by decide)
  have e6 := cR_f (σ := σ) (p := 32) (t := t.toNatClampNeg) (f := 6) lt (by decide)
  unfold fJoy at hK
  rw [← ek, e3, e4, e5, e6] at hK
  have h8 : (8 : Int32) ≠ 0 := by decide
  have h4 : (4 : Int32) ≠ 0 := by decide
  refine w65_32 ?_
  simp only [bI_0]
  grind
noncomputable def f65 : gD := fun Lv σ => match Lv with
  | [some (.ref p), some (.int t), some (.int x), none, none, none, none] => cond (Nat.beq p 6 || Nat.beq p 32) (some (some (((0 ≤ t ∧ t < 20) ∧ t.toNatClampNeg < nM (cR σ p)) ∧ (0 ≤ x ∧ x < 40) ∧ TC σ p), some (.int (fJoy (cR σ p) t.toNatClampNeg x)), σ)) none
  | _ => none
theorem ok65 : gFok 65 f65 := by
  intro Lv σ q h hc K hK
  unfold f65 at h
  split at h
  · rename_i p t x
    obtain ⟨hb, h⟩ := c_no h
    have hb0 := hb
    rcases s_or hb0 with hb0 | hb0
    · have e := b_eq hb0
      subst e
      cases h
      exact s65_6 (hc _ rfl) hK
    · have e := b_eq hb0
      subst e
      cases h
      exact s65_32 (hc _ rfl) hK
  · cases h
noncomputable def gpcf_l : List (Nat × gD) := (65, f65) :: gpce_l
noncomputable def gpcf : gP := gpl0 gpcf_l
theorem gpcf_ok : gPok gpcf := gpl0_cons ok65 (gpce_ok)
set_option maxRecDepth 20000 in
theorem w66_6 {σ : gS} {K : gK} {t : Int32} (h : (0 ≤ t ∧ t < 20) ∧ gTv (6 + 2 + t.toNatClampNeg) ∧ (((0 ≤ t ∧ t < 20) ∧ t.toNatClampNeg < nM (cR σ 6)) ∧ (0 ≤ (σ (6 + 2 + t.toNatClampNeg) 1) ∧ (σ (6 + 2 + t.toNatClampNeg) 1) < 40) ∧ TC σ 6) ∧ K (some (.int (fJoy (cR σ 6) t.toNatClampNeg (σ (6 + 2 + t.toNatClampNeg) 1)))) σ) : gE 66 0 [some (.ref 6), some (.int t)] [] σ K :=
  gw_run (cy := 66) (cuts := []) (inl := []) (pf := gpcf) gpcf_ok 400 (by decide) h
theorem s66_6 {σ : gS} {K : gK} {t : Int32} (hc : ((0 ≤ t ∧ t < 20) ∧ t.toNatClampNeg < nM (cR σ 6)) ∧ TC σ 6) (hK : K (some (.int (fJo (cR σ 6) t.toNatClampNeg))) σ) : gE 66 0 [some (.ref 6), some (.int t)] [] σ K := by
  obtain ⟨⟨ht, htn⟩, hT⟩ := hc
  have lt := n20 ht
  have e0 := cR_f (σ := σ) (p := 6) (t := t.toNatClampNeg) (f := 0) lt (by decide)
  have hs := (hT.2.1 _ htn).2.1
  refine w66_6 ⟨ht, tv_6 _ lt, ?_⟩
  unfold fJo at hK
  rw [e0] at hs hK
  exact ⟨⟨⟨ht, htn⟩, hs, hT⟩, hK⟩
set_option maxRecDepth 20000 in
theorem w66_32 {σ : gS} {K : gK} {t : Int32} (h : (0 ≤ t ∧ t < 20) ∧ gTv (32 + 2 + t.toNatClampNeg) ∧ (((0 ≤ t ∧ t < 20) ∧ t.toNatClampNeg < nM (cR σ 32)) ∧ (0 ≤ (σ (32 + 2 + t.toNatClampNeg) 1) ∧ (σ (32 + 2 + t.toNatClampNeg) 1) < 40) ∧ TC σ 32) ∧ K (some (.int (fJoy (cR σ 32) t.toNatClampNeg (σ (32 + 2 + t.toNatClampNeg) 1)))) σ) : gE 66 0 [some (.ref 32), some (.int t)] [] σ K :=
  gw_run (cy := 66) (cuts := []) (inl := []) (pf := gpcf) gpcf_ok 400 (by decide) h
theorem s66_32 {σ : gS} {K : gK} {t : Int32} (hc : ((0 ≤ t ∧ t < 20) ∧ t.toNatClampNeg < nM (cR σ 32)) ∧ TC σ 32) (hK : K (some (.int (fJo (cR σ 32) t.toNatClampNeg))) σ) : gE 66 0 [some (.ref 32), some (.int t)] [] σ K := by
  obtain ⟨⟨ht, htn⟩, hT⟩ := hc
  have lt := n20 ht
  have e0 := cR_f (σ := σ) (p := 32) (t := t.toNatClampNeg) (f := 0) lt (by decide)
  have hs := (hT.2.1 _ htn).2.1
  refine w66_32 ⟨ht, tv_32 _ lt, ?_⟩
  unfold fJo at hK
  rw [e0] at hs hK
  exact ⟨⟨⟨ht, htn⟩, hs, hT⟩, hK⟩
noncomputable def f66 : gD := fun Lv σ => match Lv with
  | [some (.ref p), some (.int t)] => cond (Nat.beq p 6 || Nat.beq p 32) (some (some (((0 ≤ t ∧ t < 20) ∧ t.toNatClampNeg < nM (cR σ p)) ∧ TC σ p), some (.int (fJo (cR σ p) t.toNatClampNeg)), σ)) none
  | _ => none
theorem ok66 : gFok 66 f66 := by
  intro Lv σ q h hc K hK
  unfold f66 at h
  split at h
  · rename_i p t
    obtain ⟨hb, h⟩ := c_no h
    have hb0 := hb
    rcases s_or hb0 with hb0 | hb0
    · have e := b_eq hb0
      subst e
      cases h
      exact s66_6 (hc _ rfl) hK
    · have e := b_eq hb0
      subst e
      cases h
      exact s66_32 (hc _ rfl) hK
  · cases h
noncomputable def gpcg_l : List (Nat × gD) := (66, f66) :: gpcf_l
noncomputable def gpcg : gP := gpl0 gpcg_l
theorem gpcg_ok : gPok gpcg := gpl0_cons ok66 (gpcf_ok)
set_option maxRecDepth 20000 in
theorem w69_6 {σ : gS} {K : gK} (h : gE 69 4 [some (.ref 6), some (.int 0), some (.int 0)] [] σ K) : gE 69 0 [some (.ref 6), none, none] [] σ K :=
  gw_run (cy := 69) (cuts := [4]) (inl := []) (pf := gpcg) gpcg_ok 400 (by decide) h
set_option maxRecDepth 20000 in
theorem v69_6 {σ : gS} {K : gK} {s t : Int32} (h : ((¬ t < (σ 6 7) → K (some (.int s)) σ) ∧ (t < (σ 6 7) → (((0 ≤ t ∧ t < 20) ∧ t.toNatClampNeg < nM (cR σ 6)) ∧ TC σ 6) ∧ gE 69 4 [some (.ref 6), some (.int (s + (fJo (cR σ 6) t.toNatClampNeg))), some (.int (t + 1))] [] σ K))) : gE 69 4 [some (.ref 6), some (.int s), some (.int t)] [] σ K :=
  gw_run (cy := 69) (cuts := [4]) (inl := []) (pf := gpcg) gpcg_ok 400 (by decide) h
theorem s69_6 {σ : gS} {K : gK} (hc : TC σ 6) (hK : K (some (.int (fJa (cR σ 6)))) σ) : gE 69 0 [some (.ref 6), none, none] [] σ K := by
  have h3 := hc.1
  refine w69_6 ?_
  refine g_forI (nM (cR σ 6)) (fun k => [some (.ref 6), some (.int (sm (fJo (cR σ 6)) k)), some (.int (iN k))]) (fun _ => σ) (fun _ => True) (fun _ => ?_) (fun k hk _ ih => ?_) 0 (Nat.zero_le _) trivial
  · have hn := (nM_of h3).2
    refine v69_6 ⟨fun _ => hK, fun h => ?_⟩
    rw [← cR_3 σ 6, nM_lt h3 (by omega)] at h; omega
  · have hn := (nM_of h3).2
    have hk20 : k < 20 := by omega
    have ek : (iN k).toNatClampNeg = k := iN_nat (by omega)
    refine v69_6 ⟨fun h => ?_, fun h => ?_⟩
    · rw [← cR_3 σ 6, nM_lt h3 (by omega)] at h; omega
    · rw [ek, iN_one]
      exact ⟨⟨⟨b20 hk20, hk⟩, hc⟩, ih trivial⟩
set_option maxRecDepth 20000 in
theorem w69_32 {σ : gS} {K : gK} (h : gE 69 4 [some (.ref 32), some (.int 0), some (.int 0)] [] σ K) : gE 69 0 [some (.ref 32), none, none] [] σ K :=
  gw_run (cy := 69) (cuts := [4]) (inl := []) (pf := gpcg) gpcg_ok 400 (by decide) h
set_option maxRecDepth 20000 in
theorem v69_32 {σ : gS} {K : gK} {s t : Int32} (h : ((¬ t < (σ 32 7) → K (some (.int s)) σ) ∧ (t < (σ 32 7) → (((0 ≤ t ∧ t < 20) ∧ t.toNatClampNeg < nM (cR σ 32)) ∧ TC σ 32) ∧ gE 69 4 [some (.ref 32), some (.int (s + (fJo (cR σ 32) t.toNatClampNeg))), some (.int (t + 1))] [] σ K))) : gE 69 4 [some (.ref 32), some (.int s), some (.int t)] [] σ K :=
  gw_run (cy := 69) (cuts := [4]) (inl := []) (pf := gpcg) gpcg_ok 400 (by decide) h
theorem s69_32 {σ : gS} {K : gK} (hc : TC σ 32) (hK : K (some (.int (fJa (cR σ 32)))) σ) : gE 69 0 [some (.ref 32), none, none] [] σ K := by
  have h3 := hc.1
  refine w69_32 ?_
  refine g_forI (nM (cR σ 32)) (fun k => [some (.ref 32), some (.int (sm (fJo (cR σ 32)) k)), some (.int (iN k))]) (fun _ => σ) (fun _ => True) (fun _ => ?_) (fun k hk _ ih => ?_) 0 (Nat.zero_le _) trivial
  · have hn := (nM_of h3).2
    refine v69_32 ⟨fun _ => hK, fun h => ?_⟩
    rw [← cR_3 σ 32, nM_lt h3 (by omega)] at h; omega
  · have hn := (nM_of h3).2
    have hk20 : k < 20 := by omega
    have ek : (iN k).toNatClampNeg = k := iN_nat (by omega)
    refine v69_32 ⟨fun h => ?_, fun h => ?_⟩
    · rw [← cR_3 σ 32, nM_lt h3 (by omega)] at h; omega
    · rw [ek, iN_one]
      exact ⟨⟨⟨b20 hk20, hk⟩, hc⟩, ih trivial⟩
noncomputable def f69 : gD := fun Lv σ => match Lv with
  | [some (.ref p), none, none] => cond (Nat.beq p 6 || Nat.beq p 32) (some (some (TC σ p), some (.int (fJa (cR σ p))), σ)) none
  | _ => none
theorem ok69 : gFok 69 f69 := by
  intro Lv σ q h hc K hK
  unfold f69 at h
  split at h
  · rename_i p
    obtain ⟨hb, h⟩ := c_no h
    have hb0 := hb
    rcases s_or hb0 with hb0 | hb0
    · have e := b_eq hb0
      subst e
      cases h
      exact s69_6 (hc _ rfl) hK
    · have e := b_eq hb0
      subst e
      cases h
      exact s69_32 (hc _ rfl) hK
  · cases h
set_option maxRecDepth 20000 in
theorem w70_6 {σ : gS} {K : gK} (h : gE 70 4 [some (.ref 6), some (.int 0), some (.int 0)] [] σ K) : gE 70 0 [some (.ref 6), none, none] [] σ K :=
  gw_run (cy := 70) (cuts := [4]) (inl := []) (pf := gpcg) gpcg_ok 400 (by decide) h
set_option maxRecDepth 20000 in
theorem v70_6 {σ : gS} {K : gK} {s t : Int32} (h : ((¬ t < (σ 6 7) → K (some (.int s)) σ) ∧ (t < (σ 6 7) → (((0 ≤ t ∧ t < 20) ∧ t.toNatClampNeg < nM (cR σ 6)) ∧ TC σ 6) ∧ ((¬ (fJo (cR σ 6) t.toNatClampNeg) < 0 → gE 70 4 [some (.ref 6), some (.int s), some (.int (t + 1))] [] σ K) ∧ ((fJo (cR σ 6) t.toNatClampNeg) < 0 → gE 70 4 [some (.ref 6), some (.int (s + 1)), some (.int (t + 1))] [] σ K))))) : gE 70 4 [some (.ref 6), some (.int s), some (.int t)] [] σ K :=
  gw_run (cy := 70) (cuts := [4]) (inl := []) (pf := gpcg) gpcg_ok 400 (by decide) h
theorem s70_6 {σ : gS} {K : gK} (hc : TC σ 6) (hK : K (some (.int (fGr (cR σ 6)))) σ) : gE 70 0 [some (.ref 6), none, none] [] σ K := by
  have h3 := hc.1
  refine w70_6 ?_
  refine g_forI (nM (cR σ 6)) (fun k => [some (.ref 6), some (.int (iN (cnt (fun t => decide (fJo (cR σ 6) t < 0)) k))), some (.int (iN k))]) (fun _ => σ) (fun _ => True) (fun _ => ?_) (fun k hk _ ih => ?_) 0 (Nat.zero_le _) trivial
  · have hn := (nM_of h3).2
    refine v70_6 ⟨fun _ => hK, fun h => ?_⟩
    rw [← cR_3 σ 6, nM_lt h3 (by omega)] at h; omega
  · have hn := (nM_of h3).2
    have hk20 : k < 20 := by omega
    have ek : (iN k).toNatClampNeg = k := iN_nat (by omega)
    refine v70_6 ⟨fun h => ?_, fun h => ?_⟩
    · rw [← cR_3 σ 6, nM_lt h3 (by omega)] at h; omega
    · rw [ek, iN_one, iN_one]
      have ih := ih trivial
      refine ⟨⟨⟨b20 hk20, hk⟩, hc⟩, fun h => ?_, fun h => ?_⟩
      · rw [cnt_f (fun e => h (of_decide_eq_true e))] at ih
        exact ih
      · rw [cnt_t (decide_eq_true h)] at ih
        exact ih
set_option maxRecDepth 20000 in
theorem w70_32 {σ : gS} {K : gK} (h : gE 70 4 [some (.ref 32), some (.int 0), some (.int 0)] [] σ K) : gE 70 0 [some (.ref 32), none, none] [] σ K :=
  gw_run (cy := 70) (cuts := [4]) (inl := []) (pf := gpcg) gpcg_ok 400 (by decide) h
set_option maxRecDepth 20000 in
theorem v70_32 {σ : gS} {K : gK} {s t : Int32} (h : ((¬ t < (σ 32 7) → K (some (.int s)) σ) ∧ (t < (σ 32 7) → (((0 ≤ t ∧ t < 20) ∧ t.toNatClampNeg < nM (cR σ 32)) ∧ TC σ 32) ∧ ((¬ (fJo (cR σ 32) t.toNatClampNeg) < 0 → gE 70 4 [some (.ref 32), some (.int s), some (.int (t + 1))] [] σ K) ∧ ((fJo (cR σ 32) t.toNatClampNeg) < 0 → gE 70 4 [some (.ref 32), some (.int (s + 1)), some (.int (t + 1))] [] σ K))))) : gE 70 4 [some (.ref 32), some (.int s), some (.int t)] [] σ K :=
  gw_run (cy := 70) (cuts := [4]) (inl := []) (pf := gpcg) gpcg_ok 400 (by decide) h
theorem s70_32 {σ : gS} {K : gK} (hc : TC σ 32) (hK : K (some (.int (fGr (cR σ 32)))) σ) : gE 70 0 [some (.ref 32), none, none] [] σ K := by
  have h3 := hc.1
  refine w70_32 ?_
  refine g_forI (nM (cR σ 32)) (fun k => [some (.ref 32), some (.int (iN (cnt (fun t => decide (fJo (cR σ 32) t < 0)) k))), some (.int (iN k))]) (fun _ => σ) (fun _ => True) (fun _ => ?_) (fun k hk _ ih => ?_) 0 (Nat.zero_le _) trivial
  · have hn := (nM_of h3).2
    refine v70_32 ⟨fun _ => hK, fun h => ?_⟩
    rw [← cR_3 σ 32, nM_lt h3 (by omega)] at h; omega
  · have hn := (nM_of h3).2
    have hk20 : k < 20 := by omega
    have ek : (iN k).toNatClampNeg = k := iN_nat (by omega)
    refine v70_32 ⟨fun h => ?_, fun h => ?_⟩
    · rw [← cR_3 σ 32, nM_lt h3 (by omega)] at h; omega
    · rw [ek, iN_one, iN_one]
      have ih := ih trivial
      refine ⟨⟨⟨b20 hk20, hk⟩, hc⟩, fun h => ?_, fun h => ?_⟩
      · rw [cnt_f (fun e => h (of_decide_eq_true e))] at ih
        exact ih
      · rw [cnt_t (decide_eq_true h)] at ih
        exact ih
noncomputable def f70 : gD := fun Lv σ => match Lv with
  | [some (.ref p), none, none] => cond (Nat.beq p 6 || Nat.beq p 32) (some (some (TC σ p), some (.int (fGr (cR σ p))), σ)) none
  | _ => none
theorem ok70 : gFok 70 f70 := by
  intro Lv σ q h hc K hK
  unfold f70 at h
  split at h
  · rename_i p
    obtain ⟨hb, h⟩ := c_no h
    have hb0 := hb
    rcases s_or hb0 with hb0 | hb0
    · have e := b_eq hb0
      subst e
      cases h
      exact s70_6 (hc _ rfl) hK
    · have e := b_eq hb0
      subst e
      cases h
      exact s70_32 (hc _ rfl) hK
  · cases h
