-- text 103
/-! QUERIES: sums and counts over the travellers -/
noncomputable def fSw (R : gW) : Int32 := sm (fun t => fld R t 7) (nM R)
noncomputable def plP (R : gW) (t o : Nat) : Bool := decide (fJo R t < fJo R o ∨ (fJo R o = fJo R t ∧ o < t))
noncomputable def fPl (R : gW) (t : Nat) : Int32 := iN (cnt (plP R t) (nM R))
noncomputable def fRk (R : gW) (x : Int32) : Int32 := fnd (fun t => decide (fPl R t = x)) (nM R)
noncomputable def fAc (R : gW) (b : Int32) : Int32 := iN (cnt (fun t => decide (fld R t 0 / 8 = b)) (nM R))
noncomputable def fAg (R : gW) (b : Int32) : Int32 := iN (cnt (fun t => decide (fld R t 0 / 8 = b ∧ fJo R t < 0)) (nM R))
noncomputable def fAj (R : gW) (b : Int32) : Int32 := sm (fun t => if fld R t 0 / 8 = b then fJo R t else 0) (nM R)
noncomputable def fMF (R : gW) (f : Int32) : Int32 := iN (cnt (fun t => decide (fld R t 2 = f)) (nM R))
noncomputable def fJF (R : gW) (f : Int32) : Int32 := sm (fun t => if fld R t 2 = f then fJo R t else 0) (nM R)
theorem plP_t {R : gW} {t o : Nat} (h : fJo R t < fJo R o) : plP R t o = true := decide_eq_true (Or.inl h)
theorem plP_t2 {R : gW} {t o : Nat} (h : fJo R o = fJo R t) (h2 : o < t) : plP R t o = true := decide_eq_true (Or.inr ⟨h, h2⟩)
theorem plP_f {R : gW} {t o : Nat} (h : ¬ fJo R t < fJo R o) (h2 : ¬ (fJo R o = fJo R t ∧ o < t)) : ¬ plP R t o = true := fun z => (of_decide_eq_true z).elim h h2
theorem sm_z {g : Nat → Int32} {k : Nat} (h : g k = 0) : sm g (k + 1) = sm g k := by
  show sm g k + g k = sm g k
  rw [h]
  grind
set_option maxRecDepth 20000 in
theorem w82 {σ : gS} {K : gK} (h : gE 82 4 [some (.ref 6), some (.int 0), some (.int 0)] [] σ K) : gE 82 0 [some (.ref 6), none, none] [] σ K :=
  gw_run (cy := 82) (cuts := [4]) (inl := []) (pf := gped) gped_ok 400 (by decide) h
set_option maxRecDepth 20000 in
theorem c82_4 {σ : gS} {K : gK} {l1 l2 : Int32} (h : ((¬ l2 < (σ 6 7) → K (some (.int l1)) σ) ∧ (l2 < (σ 6 7) → (0 ≤ l2 ∧ l2 < 20) ∧ gTv (6 + 2 + l2.toNatClampNeg) ∧ gE 82 4 [some (.ref 6), some (.int (l1 + (σ (6 + 2 + l2.toNatClampNeg) 8))), some (.int (l2 + 1))] [] σ K))) : gE 82 4 [some (.ref 6), some (.int l1), some (.int l2)] [] σ K :=
  gw_run (cy := 82) (cuts := [4]) (inl := []) (pf := gped) gped_ok 400 (by decide) h
theorem s82 {σ : gS} {K : gK} (hc : SC σ) (hK : K (some (.int (fSw (cR σ 6)))) σ) : gE 82 0 [some (.ref 6), none, none] [] σ K := by
  obtain ⟨hT, hP, hL, h0⟩ := hc
  have h7 : 0 ≤ σ 6 7 ∧ σ 6 7 ≤ 20 := SC_7 ⟨hT, hP, hL, h0⟩
  have hc3 := hT.1
  refine w82 ?_
  refine g_forI (nM (cR σ 6)) (fun k => [some (.ref 6), some (.int (sm (fun t => fld (cR σ 6) t 7) k)), some (.int (iN k))]) (fun _ => σ) (fun _ => True) (fun _ => ?_) (fun k hk _ ih => ?_) 0 (Nat.zero_le _) trivial
  · have hn := (nM_of hc3).2
    refine c82_4 ⟨fun _ => hK, fun h => ?_⟩
    rw [← cR_3 σ 6, nM_lt hc3 (by omega)] at h; omega
  · have hn := (nM_of hc3).2
    have hk20 : k < 20 := by omega
    have ek : (iN k).toNatClampNeg = k := iN_nat (by omega)
    have ih := ih trivial
    refine c82_4 ⟨fun h => ?_, fun h => ⟨b20 hk20, by rw [ek]; exact tv_6 k hk20, ?_⟩⟩
    · rw [← cR_3 σ 6, nM_lt hc3 (by omega)] at h; omega
    · rw [ek, ← cR_f (σ := σ) (p := 6) (t := k) (f := 7) hk20 (by decide), iN_one]
      exact ih
noncomputable def f82 : gD := fun Lv σ => match Lv with
  | [some (.ref q0), none, none] => cond (Nat.beq q0 6) (some (some (SC σ), some (.int (fSw (cR σ 6))), σ)) none
  | _ => none
theorem ok82 : gFok 82 f82 := by
  intro Lv σ q h hc K hK
  unfold f82 at h
  split at h
  · rename_i q0
    obtain ⟨hb, h⟩ := c_no h
    have hb0 := hb
    have e0 := b_eq hb0
    subst e0
    cases h
    exact s82 (hc _ rfl) hK
  · cases h
set_option maxRecDepth 20000 in
theorem w224 {σ : gS} {K : gK} (h : gE 224 4 [some (.ref 323), some (.int 0), some (.int 0)] [] σ K) : gE 224 0 [some (.ref 323), none, none] [] σ K :=
  gw_run (cy := 224) (cuts := [4]) (inl := []) (pf := gped) gped_ok 400 (by decide) h
set_option maxRecDepth 20000 in
theorem c224_4 {σ : gS} {K : gK} {l1 l2 : Int32} (h : (0 ≤ (3 : Int32) ∧ (3 : Int32) < 330) ∧ ((¬ l2 < (σ 324 3) → K (some (.int l1)) σ) ∧ (l2 < (σ 324 3) → (0 ≤ (9 + 10 * l2 + (7 : Int32)) ∧ (9 + 10 * l2 + (7 : Int32)) < 330) ∧ gE 224 4 [some (.ref 323), some (.int (l1 + (σ 324 (9 + 10 * l2 + (7 : Int32)).toNatClampNeg))), some (.int (l2 + 1))] [] σ K))) : gE 224 4 [some (.ref 323), some (.int l1), some (.int l2)] [] σ K :=
  gw_run (cy := 224) (cuts := [4]) (inl := []) (pf := gped) gped_ok 400 (by decide) h
theorem s224 {σ : gS} {K : gK} (hc : RS σ) (hK : K (some (.int (fSw (σ 324)))) σ) : gE 224 0 [some (.ref 323), none, none] [] σ K := by
  obtain ⟨⟨h3, h9⟩, hu⟩ := hc
  have hc3 := h3
  refine w224 ?_
  refine g_forI (nM (σ 324)) (fun k => [some (.ref 323), some (.int (sm (fun t => fld (σ 324) t 7) k)), some (.int (iN k))]) (fun _ => σ) (fun _ => True) (fun _ => ?_) (fun k hk _ ih => ?_) 0 (Nat.zero_le _) trivial
  · have hn := (nM_of hc3).2
    refine c224_4 ⟨by decide, fun _ => hK, fun h => ?_⟩
    rw [nM_lt hc3 (by omega)] at h; omega
  · have hn := (nM_of hc3).2
    have hk20 : k < 20 := by omega
    have ek : (iN k).toNatClampNeg = k := iN_nat (by omega)
    have ih := ih trivial
    refine c224_4 ⟨by decide, fun h => ?_, fun h => ⟨ixb7 hk20, ?_⟩⟩
    · rw [nM_lt hc3 (by omega)] at h; omega
    · rw [ix7 hk20, iN_one]
      exact ih
noncomputable def f224 : gD := fun Lv σ => match Lv with
  | [some (.ref q0), none, none] => cond (Nat.beq q0 323) (some (some (RS σ), some (.int (fSw (σ 324))), σ)) none
  | _ => none
theorem ok224 : gFok 224 f224 := by
  intro Lv σ q h hc K hK
  unfold f224 at h
  split at h
  · rename_i q0
    obtain ⟨hb, h⟩ := c_no h
    have hb0 := hb
    have e0 := b_eq hb0
    subst e0
    cases h
    exact s224 (hc _ rfl) hK
  · cases h
set_option maxRecDepth 20000 in
theorem w71 {σ : gS} {K : gK} {t : Int32} (h : (((0 ≤ t ∧ t < 20) ∧ t.toNatClampNeg < nM (cR σ 6)) ∧ TC σ 6) ∧ gE 71 11 [some (.ref 6), some (.int t), some (.int (fJo (cR σ 6) t.toNatClampNeg)), some (.int 0), some (.int 0), none] [] σ K) : gE 71 0 [some (.ref 6), some (.int t), none, none, none, none] [] σ K :=
  gw_run (cy := 71) (cuts := [11]) (inl := []) (pf := gped) gped_ok 400 (by decide) h
set_option maxRecDepth 20000 in
theorem c71_11 {σ : gS} {K : gK} {l1 l2 l3 l4 : Int32} {l5 : Option Value} (h : ((¬ l4 < (σ 6 7) → K (some (.int l3)) σ) ∧ (l4 < (σ 6 7) → (((0 ≤ l4 ∧ l4 < 20) ∧ l4.toNatClampNeg < nM (cR σ 6)) ∧ TC σ 6) ∧ ((l2 < (fJo (cR σ 6) l4.toNatClampNeg) → gE 71 11 [some (.ref 6), some (.int l1), some (.int l2), some (.int (l3 + 1)), some (.int (l4 + 1)), some (.int (fJo (cR σ 6) l4.toNatClampNeg))] [] σ K) ∧ (¬ l2 < (fJo (cR σ 6) l4.toNatClampNeg) → ((¬ (fJo (cR σ 6) l4.toNatClampNeg) = l2 → gE 71 11 [some (.ref 6), some (.int l1), some (.int l2), some (.int l3), some (.int (l4 + 1)), some (.int (fJo (cR σ 6) l4.toNatClampNeg))] [] σ K) ∧ ((fJo (cR σ 6) l4.toNatClampNeg) = l2 → ((¬ l4 < l1 → gE 71 11 [some (.ref 6), some (.int l1), some (.int l2), some (.int l3), some (.int (l4 + 1)), some (.int (fJo (cR σ 6) l4.toNatClampNeg))] [] σ K) ∧ (l4 < l1 → gE 71 11 [some (.ref 6), some (.int l1), some (.int l2), some (.int (l3 + 1)), some (.int (l4 + 1)), some (.int (fJo (cR σ 6) l4.toNatClampNeg))] [] σ K))))))))) : gE 71 11 [some (.ref 6), some (.int l1), some (.int l2), some (.int l3), some (.int l4), l5] [] σ K :=
  gw_run (cy := 71) (cuts := [11]) (inl := []) (pf := gped) gped_ok 400 (by decide) h
theorem s71 {σ : gS} {K : gK} {t : Int32} (hc : SC σ ∧ isN σ 6 t) (hK : K (some (.int (fPl (cR σ 6) t.toNatClampNeg))) σ) : gE 71 0 [some (.ref 6), some (.int t), none, none, none, none] [] σ K := by
  obtain ⟨hc, ht⟩ := hc
  obtain ⟨hT, hP, hL, h0⟩ := hc
  have h7 : 0 ≤ σ 6 7 ∧ σ 6 7 ≤ 20 := SC_7 ⟨hT, hP, hL, h0⟩
  have hc3 := hT.1
  obtain ⟨et, lt⟩ := t20 ht.1
  have ht2 := ht.2
  have ht1 := ht.1
  obtain ⟨m, hm⟩ : ∃ m, t.toNatClampNeg = m := ⟨_, rfl⟩
  rw [hm] at et lt hK ht2
  subst et
  have em : (iN m).toNatClampNeg = m := iN_nat (by omega)
  refine w71 ⟨⟨⟨ht1, by rw [em]; exact ht2⟩, hT⟩, ?_⟩
  rw [em]
  refine g_forJ (nM (cR σ 6)) (fun k u => [some (.ref 6), some (.int (iN m)), some (.int (fJo (cR σ 6) m)), some (.int (iN (cnt (plP (cR σ 6) m) k))), some (.int (iN k)), u]) (fun _ => σ) (fun _ => True) (fun _ u => ?_) (fun k hk _ ih u => ?_) 0 (Nat.zero_le _) trivial none
  · have hn := (nM_of hc3).2
    refine c71_11 ⟨fun _ => hK, fun h => ?_⟩
    rw [← cR_3 σ 6, nM_lt hc3 (by omega)] at h; omega
  · have hn := (nM_of hc3).2
    have hk20 : k < 20 := by omega
    have ek : (iN k).toNatClampNeg = k := iN_nat (by omega)
    have ih := ih trivial
    refine c71_11 ⟨fun h => ?_, fun h => ⟨⟨⟨b20 hk20, by rw [ek]; exact hk⟩, hT⟩, ?_⟩⟩
    · rw [← cR_3 σ 6, nM_lt hc3 (by omega)] at h; omega
    · rw [ek, iN_one, iN_one]
      refine ⟨fun q => ?_, fun q => ⟨fun q2 => ?_, fun q2 => ⟨fun q3 => ?_, fun q3 => ?_⟩⟩⟩
      · rw [cnt_t (plP_t q)] at ih
        exact ih _
      · rw [cnt_f (plP_f q (fun z => q2 z.1))] at ih
        exact ih _
      · rw [cnt_f (plP_f q (fun z => q3 ((iN_lt (by omega) (by omega)).mpr z.2)))] at ih
        exact ih _
      · rw [cnt_t (plP_t2 q2 ((iN_lt (by omega) (by omega)).mp q3))] at ih
        exact ih _
noncomputable def f71 : gD := fun Lv σ => match Lv with
  | [some (.ref q0), some (.int t), none, none, none, none] => cond (Nat.beq q0 6) (some (some (SC σ ∧ isN σ 6 t), some (.int (fPl (cR σ 6) t.toNatClampNeg)), σ)) none
  | _ => none
theorem ok71 : gFok 71 f71 := by
  intro Lv σ q h hc K hK
  unfold f71 at h
  split at h
  · rename_i q0 t
    obtain ⟨hb, h⟩ := c_no h
    have hb0 := hb
    have e0 := b_eq hb0
    subst e0
    cases h
    exact s71 (hc _ rfl) hK
  · cases h
set_option maxRecDepth 20000 in
theorem w228 {σ : gS} {K : gK} {t : Int32} (h : ((0 ≤ t ∧ t < 20) ∧ 0 ≤ σ 324 3 ∧ σ 324 3 ≤ 20) ∧ gE 228 14 [some (.ref 323), some (.int t), some (.int 0), some (.int (fJo (σ 324) t.toNatClampNeg)), some (.int 0), none] [] σ K) : gE 228 0 [some (.ref 323), some (.int t), none, none, none, none] [] σ K :=
  gw_run (cy := 228) (cuts := [14]) (inl := []) (pf := gped) gped_ok 400 (by decide) h
set_option maxRecDepth 20000 in
theorem c228_14 {σ : gS} {K : gK} {l1 l2 l3 l4 : Int32} {l5 : Option Value} (h : (0 ≤ (3 : Int32) ∧ (3 : Int32) < 330) ∧ ((¬ l4 < (σ 324 3) → K (some (.int l2)) σ) ∧ (l4 < (σ 324 3) → ((0 ≤ l4 ∧ l4 < 20) ∧ 0 ≤ σ 324 3 ∧ σ 324 3 ≤ 20) ∧ ((l3 < (fJo (σ 324) l4.toNatClampNeg) → gE 228 14 [some (.ref 323), some (.int l1), some (.int (l2 + 1)), some (.int l3), some (.int (l4 + 1)), some (.int (fJo (σ 324) l4.toNatClampNeg))] [] σ K) ∧ (¬ l3 < (fJo (σ 324) l4.toNatClampNeg) → ((¬ (fJo (σ 324) l4.toNatClampNeg) = l3 → gE 228 14 [some (.ref 323), some (.int l1), some (.int l2), some (.int l3), some (.int (l4 + 1)), some (.int (fJo (σ 324) l4.toNatClampNeg))] [] σ K) ∧ ((fJo (σ 324) l4.toNatClampNeg) = l3 → ((¬ l4 < l1 → gE 228 14 [some (.ref 323), some (.int l1), some (.int l2), some (.int l3), some (.int (l4 + 1)), some (.int (fJo (σ 324) l4.toNatClampNeg))] [] σ K) ∧ (l4 < l1 → gE 228 14 [some (.ref 323), some (.int l1), some (.int (l2 + 1)), some (.int l3), some (.int (l4 + 1)), some (.int (fJo (σ 324) l4.toNatClampNeg))] [] σ K))))))))) : gE 228 14 [some (.ref 323), some (.int l1), some (.int l2), some (.int l3), some (.int l4), l5] [] σ K :=
  gw_run (cy := 228) (cuts := [14]) (inl := []) (pf := gped) gped_ok 400 (by decide) h
theorem s228 {σ : gS} {K : gK} {t : Int32} (hc : RS σ ∧ (0 ≤ t ∧ t < 20)) (hK : K (some (.int (fPl (σ 324) t.toNatClampNeg))) σ) : gE 228 0 [some (.ref 323), some (.int t), none, none, none, none] [] σ K := by
  obtain ⟨hc, ht1⟩ := hc
  obtain ⟨⟨h3, h9⟩, hu⟩ := hc
  have hc3 := h3
  obtain ⟨et, lt⟩ := t20 ht1
  obtain ⟨m, hm⟩ : ∃ m, t.toNatClampNeg = m := ⟨_, rfl⟩
  rw [hm] at et lt hK
  subst et
  have em : (iN m).toNatClampNeg = m := iN_nat (by omega)
  refine w228 ⟨⟨ht1, h3⟩, ?_⟩
  rw [em]
  refine g_forJ (nM (σ 324)) (fun k u => [some (.ref 323), some (.int (iN m)), some (.int (iN (cnt (plP (σ 324) m) k))), some (.int (fJo (σ 324) m)), some (.int (iN k)), u]) (fun _ => σ) (fun _ => True) (fun _ u => ?_) (fun k hk _ ih u => ?_) 0 (Nat.zero_le _) trivial none
  · have hn := (nM_of hc3).2
    refine c228_14 ⟨by decide, fun _ => hK, fun h => ?_⟩
    rw [nM_lt hc3 (by omega)] at h; omega
  · have hn := (nM_of hc3).2
    have hk20 : k < 20 := by omega
    have ek : (iN k).toNatClampNeg = k := iN_nat (by omega)
    have ih := ih trivial
    refine c228_14 ⟨by decide, fun h => ?_, fun h => ⟨⟨b20 hk20, h3⟩, ?_⟩⟩
    · rw [nM_lt hc3 (by omega)] at h; omega
    · rw [ek, iN_one, iN_one]
      refine ⟨fun q => ?_, fun q => ⟨fun q2 => ?_, fun q2 => ⟨fun q3 => ?_, fun q3 => ?_⟩⟩⟩
      · rw [cnt_t (plP_t q)] at ih
        exact ih _
      · rw [cnt_f (plP_f q (fun z => q2 z.1))] at ih
        exact ih _
      · rw [cnt_f (plP_f q (fun z => q3 ((iN_lt (by omega) (by omega)).mpr z.2)))] at ih
        exact ih _
      · rw [cnt_t (plP_t2 q2 ((iN_lt (by omega) (by omega)).mp q3))] at ih
        exact ih _
noncomputable def f228 : gD := fun Lv σ => match Lv with
  | [some (.ref q0), some (.int t), none, none, none, none] => cond (Nat.beq q0 323) (some (some (RS σ ∧ (0 ≤ t ∧ t < 20)), some (.int (fPl (σ 324) t.toNatClampNeg)), σ)) none
  | _ => none
theorem ok228 : gFok 228 f228 := by
  intro Lv σ q h hc K hK
  unfold f228 at h
  split at h
  · rename_i q0 t
    obtain ⟨hb, h⟩ := c_no h
    have hb0 := hb
    have e0 := b_eq hb0
    subst e0
    cases h
    exact s228 (hc _ rfl) hK
  · cases h
set_option maxRecDepth 20000 in
theorem w73 {σ : gS} {K : gK} {t b : Int32} (h : (0 ≤ t ∧ t < 20) ∧ gTv (6 + 2 + t.toNatClampNeg) ∧ (8 : Int32) ≠ 0 ∧ ((¬ ((σ (6 + 2 + t.toNatClampNeg) 1) / 8) = b → ((0 : Int32) = 0 ∨ (0 : Int32) = 1) ∧ K (some (.int 0)) σ) ∧ (((σ (6 + 2 + t.toNatClampNeg) 1) / 8) = b → ((1 : Int32) = 0 ∨ (1 : Int32) = 1) ∧ K (some (.int 1)) σ))) : gE 73 0 [some (.ref 6), some (.int t), some (.int b)] [] σ K :=
  gw_run (cy := 73) (cuts := []) (inl := []) (pf := gped) gped_ok 400 (by decide) h
theorem s73 {σ : gS} {K : gK} {t b : Int32} (hc : 0 ≤ t ∧ t < 20) (hK : K (some (.int (bI (fld (cR σ 6) t.toNatClampNeg 0 / 8 = b)))) σ) : gE 73 0 [some (.ref 6), some (.int t), some (.int b)] [] σ K := by
  have lt := n20 hc
  rw [cR_f lt (by decide)] at hK
  refine w73 ⟨hc, tv_6 _ lt, by decide, fun h => ⟨Or.inl rfl, ?_⟩, fun h => ⟨Or.inr rfl, ?_⟩⟩
  · rw [bI_n h] at hK; exact hK
  · rw [bI_y h] at hK; exact hK
noncomputable def f73 : gD := fun Lv σ => match Lv with
  | [some (.ref q0), some (.int t), some (.int b)] => cond (Nat.beq q0 6) (some (some (0 ≤ t ∧ t < 20), some (.int (bI (fld (cR σ 6) t.toNatClampNeg 0 / 8 = b))), σ)) none
  | _ => none
theorem ok73 : gFok 73 f73 := by
  intro Lv σ q h hc K hK
  unfold f73 at h
  split at h
  · rename_i q0 t b
    obtain ⟨hb, h⟩ := c_no h
    have hb0 := hb
    have e0 := b_eq hb0
    subst e0
    cases h
    exact s73 (hc _ rfl) hK
  · cases h
set_option maxRecDepth 20000 in
theorem w232 {σ : gS} {K : gK} {t b : Int32} (h : (0 ≤ (9 + 10 * t + (0 : Int32)) ∧ (9 + 10 * t + (0 : Int32)) < 330) ∧ ((¬ ((σ 324 (9 + 10 * t + (0 : Int32)).toNatClampNeg) / 8) = b → ((0 : Int32) = 0 ∨ (0 : Int32) = 1) ∧ K (some (.int 0)) σ) ∧ (((σ 324 (9 + 10 * t + (0 : Int32)).toNatClampNeg) / 8) = b → ((1 : Int32) = 0 ∨ (1 : Int32) = 1) ∧ K (some (.int 1)) σ))) : gE 232 0 [some (.ref 323), some (.int t), some (.int b)] [] σ K :=
  gw_run (cy := 232) (cuts := []) (inl := []) (pf := gped) gped_ok 400 (by decide) h
theorem s232 {σ : gS} {K : gK} {t b : Int32} (hc : 0 ≤ t ∧ t < 20) (hK : K (some (.int (bI (fld (σ 324) t.toNatClampNeg 0 / 8 = b)))) σ) : gE 232 0 [some (.ref 323), some (.int t), some (.int b)] [] σ K := by
  obtain ⟨et, lt⟩ := t20 hc
  obtain ⟨m, hm⟩ : ∃ m, t.toNatClampNeg = m := ⟨_, rfl⟩
  rw [hm] at et lt hK
  subst et
  refine w232 ⟨ixb0 lt, ?_⟩
  rw [ix0 lt]
  refine ⟨fun h => ⟨Or.inl rfl, ?_⟩, fun h => ⟨Or.inr rfl, ?_⟩⟩
  · rw [bI_n (show ¬ fld (σ 324) m 0 / 8 = b from h)] at hK; exact hK
  · rw [bI_y (show fld (σ 324) m 0 / 8 = b from h)] at hK; exact hK
noncomputable def f232 : gD := fun Lv σ => match Lv with
  | [some (.ref q0), some (.int t), some (.int b)] => cond (Nat.beq q0 323) (some (some (0 ≤ t ∧ t < 20), some (.int (bI (fld (σ 324) t.toNatClampNeg 0 / 8 = b))), σ)) none
  | _ => none
theorem ok232 : gFok 232 f232 := by
  intro Lv σ q h hc K hK
  unfold f232 at h
  split at h
  · rename_i q0 t b
    obtain ⟨hb, h⟩ := c_no h
    have hb0 := hb
    have e0 := b_eq hb0
    subst e0
    cases h
    exact s232 (hc _ rfl) hK
  · cases h
noncomputable def gpee_l : List (Nat × gD) := (82, f82) :: (224, f224) :: (71, f71) :: (228, f228) :: (73, f73) :: (232, f232) :: gped_l
noncomputable def gpee : gP := gpl0 gpee_l
theorem gpee_ok : gPok gpee := gpl0_cons ok82 (gpl0_cons ok224 (gpl0_cons ok71 (gpl0_cons ok228 (gpl0_cons ok73 (gpl0_cons ok232 (gped_ok))))))
set_option maxRecDepth 20000 in
theorem w74 {σ : gS} {K : gK} {b : Int32} (h : gE 74 4 [some (.ref 6), some (.int b), some (.int 0), some (.int 0)] [] σ K) : gE 74 0 [some (.ref 6), some (.int b), none, none] [] σ K :=
  gw_run (cy := 74) (cuts := [4]) (inl := []) (pf := gpee) gpee_ok 400 (by decide) h
set_option maxRecDepth 20000 in
theorem c74_4 {σ : gS} {K : gK} {l1 l2 l3 : Int32} (h : ((¬ l3 < (σ 6 7) → K (some (.int l2)) σ) ∧ (l3 < (σ 6 7) → (0 ≤ l3 ∧ l3 < 20) ∧ (((bI (fld (cR σ 6) l3.toNatClampNeg 0 / 8 = l1)) = 0 → gE 74 4 [some (.ref 6), some (.int l1), some (.int l2), some (.int (l3 + 1))] [] σ K) ∧ (¬ (bI (fld (cR σ 6) l3.toNatClampNeg 0 / 8 = l1)) = 0 → gE 74 4 [some (.ref 6), some (.int l1), some (.int (l2 + 1)), some (.int (l3 + 1))] [] σ K))))) : gE 74 4 [some (.ref 6), some (.int l1), some (.int l2), some (.int l3)] [] σ K :=
  gw_run (cy := 74) (cuts := [4]) (inl := []) (pf := gpee) gpee_ok 400 (by decide) h
theorem s74 {σ : gS} {K : gK} {b : Int32} (hc : SC σ) (hK : K (some (.int (fAc (cR σ 6) b))) σ) : gE 74 0 [some (.ref 6), some (.int b), none, none] [] σ K := by
  obtain ⟨hT, hP, hL, h0⟩ := hc
  have h7 : 0 ≤ σ 6 7 ∧ σ 6 7 ≤ 20 := SC_7 ⟨hT, hP, hL, h0⟩
  have hc3 := hT.1
  refine w74 ?_
  refine g_forI (nM (cR σ 6)) (fun k => [some (.ref 6), some (.int b), some (.int (iN (cnt (fun t => decide (fld (cR σ 6) t 0 / 8 = b)) k))), some (.int (iN k))]) (fun _ => σ) (fun _ => True) (fun _ => ?_) (fun k hk _ ih => ?_) 0 (Nat.zero_le _) trivial
  · have hn := (nM_of hc3).2
    refine c74_4 ⟨fun _ => hK, fun h => ?_⟩
    rw [← cR_3 σ 6, nM_lt hc3 (by omega)] at h; omega
  · have hn := (nM_of hc3).2
    have hk20 : k < 20 := by omega
    have ek : (iN k).toNatClampNeg = k := iN_nat (by omega)
    have ih := ih trivial
    refine c74_4 ⟨fun h => ?_, fun h => ⟨b20 hk20, ?_⟩⟩
    · rw [← cR_3 σ 6, nM_lt hc3 (by omega)] at h; omega
    · rw [ek, iN_one, iN_one]
      refine ⟨fun q => ?_, fun q => ?_⟩
      · rw [cnt_f (fun z => bI_0.mp q (of_decide_eq_true z))] at ih
        exact ih
      · rw [cnt_t (decide_eq_true (dnn q))] at ih
        exact ih
noncomputable def f74 : gD := fun Lv σ => match Lv with
  | [some (.ref q0), some (.int b), none, none] => cond (Nat.beq q0 6) (some (some (SC σ), some (.int (fAc (cR σ 6) b)), σ)) none
  | _ => none
theorem ok74 : gFok 74 f74 := by
  intro Lv σ q h hc K hK
  unfold f74 at h
  split at h
  · rename_i q0 b
    obtain ⟨hb, h⟩ := c_no h
    have hb0 := hb
    have e0 := b_eq hb0
    subst e0
    cases h
    exact s74 (hc _ rfl) hK
  · cases h
set_option maxRecDepth 20000 in
theorem w75 {σ : gS} {K : gK} {b : Int32} (h : gE 75 4 [some (.ref 6), some (.int b), some (.int 0), some (.int 0)] [] σ K) : gE 75 0 [some (.ref 6), some (.int b), none, none] [] σ K :=
  gw_run (cy := 75) (cuts := [4]) (inl := []) (pf := gpee) gpee_ok 400 (by decide) h
set_option maxRecDepth 20000 in
theorem c75_4 {σ : gS} {K : gK} {l1 l2 l3 : Int32} (h : ((¬ l3 < (σ 6 7) → K (some (.int l2)) σ) ∧ (l3 < (σ 6 7) → (0 ≤ l3 ∧ l3 < 20) ∧ (((bI (fld (cR σ 6) l3.toNatClampNeg 0 / 8 = l1)) = 0 → gE 75 4 [some (.ref 6), some (.int l1), some (.int l2), some (.int (l3 + 1))] [] σ K) ∧ (¬ (bI (fld (cR σ 6) l3.toNatClampNeg 0 / 8 = l1)) = 0 → (((0 ≤ l3 ∧ l3 < 20) ∧ l3.toNatClampNeg < nM (cR σ 6)) ∧ TC σ 6) ∧ ((¬ (fJo (cR σ 6) l3.toNatClampNeg) < 0 → gE 75 4 [some (.ref 6), some (.int l1), some (.int l2), some (.int (l3 + 1))] [] σ K) ∧ ((fJo (cR σ 6) l3.toNatClampNeg) < 0 → gE 75 4 [some (.ref 6), some (.int l1), some (.int (l2 + 1)), some (.int (l3 + 1))] [] σ K))))))) : gE 75 4 [some (.ref 6), some (.int l1), some (.int l2), some (.int l3)] [] σ K :=
  gw_run (cy := 75) (cuts := [4]) (inl := []) (pf := gpee) gpee_ok 400 (by decide) h
theorem s75 {σ : gS} {K : gK} {b : Int32} (hc : SC σ) (hK : K (some (.int (fAg (cR σ 6) b))) σ) : gE 75 0 [some (.ref 6), some (.int b), none, none] [] σ K := by
  obtain ⟨hT, hP, hL, h0⟩ := hc
  have h7 : 0 ≤ σ 6 7 ∧ σ 6 7 ≤ 20 := SC_7 ⟨hT, hP, hL, h0⟩
  have hc3 := hT.1
  refine w75 ?_
  refine g_forI (nM (cR σ 6)) (fun k => [some (.ref 6), some (.int b), some (.int (iN (cnt (fun t => decide (fld (cR σ 6) t 0 / 8 = b ∧ fJo (cR σ 6) t < 0)) k))), some (.int (iN k))]) (fun _ => σ) (fun _ => True) (fun _ => ?_) (fun k hk _ ih => ?_) 0 (Nat.zero_le _) trivial
  · have hn := (nM_of hc3).2
    refine c75_4 ⟨fun _ => hK, fun h => ?_⟩
    rw [← cR_3 σ 6, nM_lt hc3 (by omega)] at h; omega
  · have hn := (nM_of hc3).2
    have hk20 : k < 20 := by omega
    have ek : (iN k).toNatClampNeg = k := iN_nat (by omega)
    have ih := ih trivial
    refine c75_4 ⟨fun h => ?_, fun h => ⟨b20 hk20, ?_⟩⟩
    · rw [← cR_3 σ 6, nM_lt hc3 (by omega)] at h; omega
    · rw [ek, iN_one, iN_one]
      refine ⟨fun q => ?_, fun q => ⟨⟨⟨b20 hk20, hk⟩, hT⟩, fun q2 => ?_, fun q2 => ?_⟩⟩
      · rw [cnt_f (fun z => bI_0.mp q (of_decide_eq_true z).1)] at ih
        exact ih
      · rw [cnt_f (fun z => q2 (of_decide_eq_true z).2)] at ih
        exact ih
      · rw [cnt_t (decide_eq_true ⟨dnn q, q2⟩)] at ih
        exact ih
noncomputable def f75 : gD := fun Lv σ => match Lv with
  | [some (.ref q0), some (.int b), none, none] => cond (Nat.beq q0 6) (some (some (SC σ), some (.int (fAg (cR σ 6) b)), σ)) none
  | _ => none
theorem ok75 : gFok 75 f75 := by
  intro Lv σ q h hc K hK
  unfold f75 at h
  split at h
  · rename_i q0 b
    obtain ⟨hb, h⟩ := c_no h
    have hb0 := hb
    have e0 := b_eq hb0
    subst e0
    cases h
    exact s75 (hc _ rfl) hK
  · cases h
set_option maxRecDepth 20000 in
theorem w76 {σ : gS} {K : gK} {b : Int32} (h : gE 76 4 [some (.ref 6), some (.int b), some (.int 0), some (.int 0)] [] σ K) : gE 76 0 [some (.ref 6), some (.int b), none, none] [] σ K :=
  gw_run (cy := 76) (cuts := [4]) (inl := []) (pf := gpee) gpee_ok 400 (by decide) h
set_option maxRecDepth 20000 in
theorem c76_4 {σ : gS} {K : gK} {l1 l2 l3 : Int32} (h : ((¬ l3 < (σ 6 7) → K (some (.int l2)) σ) ∧ (l3 < (σ 6 7) → (0 ≤ l3 ∧ l3 < 20) ∧ (((bI (fld (cR σ 6) l3.toNatClampNeg 0 / 8 = l1)) = 0 → gE 76 4 [some (.ref 6), some (.int l1), some (.int l2), some (.int (l3 + 1))] [] σ K) ∧ (¬ (bI (fld (cR σ 6) l3.toNatClampNeg 0 / 8 = l1)) = 0 → (((0 ≤ l3 ∧ l3 < 20) ∧ l3.toNatClampNeg < nM (cR σ 6)) ∧ TC σ 6) ∧ gE 76 4 [some (.ref 6), some (.int l1), some (.int (l2 + (fJo (cR σ 6) l3.toNatClampNeg))), some (.int (l3 + 1))] [] σ K))))) : gE 76 4 [some (.ref 6), some (.int l1), some (.int l2), some (.int l3)] [] σ K :=
  gw_run (cy := 76) (cuts := [4]) (inl := []) (pf := gpee) gpee_ok 400 (by decide) h
theorem s76 {σ : gS} {K : gK} {b : Int32} (hc : SC σ) (hK : K (some (.int (fAj (cR σ 6) b))) σ) : gE 76 0 [some (.ref 6), some (.int b), none, none] [] σ K := by
  obtain ⟨hT, hP, hL, h0⟩ := hc
  have h7 : 0 ≤ σ 6 7 ∧ σ 6 7 ≤ 20 := SC_7 ⟨hT, hP, hL, h0⟩
  have hc3 := hT.1
  refine w76 ?_
  refine g_forI (nM (cR σ 6)) (fun k => [some (.ref 6), some (.int b), some (.int (sm (fun t => if fld (cR σ 6) t 0 / 8 = b then fJo (cR σ 6) t else 0) k)), some (.int (iN k))]) (fun _ => σ) (fun _ => True) (fun _ => ?_) (fun k hk _ ih => ?_) 0 (Nat.zero_le _) trivial
  · have hn := (nM_of hc3).2
    refine c76_4 ⟨fun _ => hK, fun h => ?_⟩
    rw [← cR_3 σ 6, nM_lt hc3 (by omega)] at h; omega
  · have hn := (nM_of hc3).2
    have hk20 : k < 20 := by omega
    have ek : (iN k).toNatClampNeg = k := iN_nat (by omega)
    have ih := ih trivial
    refine c76_4 ⟨fun h => ?_, fun h => ⟨b20 hk20, ?_⟩⟩
    · rw [← cR_3 σ 6, nM_lt hc3 (by omega)] at h; omega
    · rw [ek, iN_one]
      refine ⟨fun q => ?_, fun q => ⟨⟨⟨b20 hk20, hk⟩, hT⟩, ?_⟩⟩
      · rw [sm_z (if_neg (bI_0.mp q))] at ih
        exact ih
      · have e : sm (fun t => if fld (cR σ 6) t 0 / 8 = b then fJo (cR σ 6) t else 0) (k + 1) = sm (fun t => if fld (cR σ 6) t 0 / 8 = b then fJo (cR σ 6) t else 0) k + fJo (cR σ 6) k := congrArg (_ + ·) (if_pos (dnn q))
        rw [e] at ih
        exact ih
noncomputable def f76 : gD := fun Lv σ => match Lv with
  | [some (.ref q0), some (.int b), none, none] => cond (Nat.beq q0 6) (some (some (SC σ), some (.int (fAj (cR σ 6) b)), σ)) none
  | _ => none
theorem ok76 : gFok 76 f76 := by
  intro Lv σ q h hc K hK
  unfold f76 at h
  split at h
  · rename_i q0 b
    obtain ⟨hb, h⟩ := c_no h
    have hb0 := hb
    have e0 := b_eq hb0
    subst e0
    cases h
    exact s76 (hc _ rfl) hK
  · cases h
set_option maxRecDepth 20000 in
theorem w80 {σ : gS} {K : gK} {f : Int32} (h : gE 80 4 [some (.ref 6), some (.int f), some (.int 0), some (.int 0)] [] σ K) : gE 80 0 [some (.ref 6), some (.int f), none, none] [] σ K :=
  gw_run (cy := 80) (cuts := [4]) (inl := []) (pf := gpee) gpee_ok 400 (by decide) h
set_option maxRecDepth 20000 in
theorem c80_4 {σ : gS} {K : gK} {l1 l2 l3 : Int32} (h : ((¬ l3 < (σ 6 7) → K (some (.int l2)) σ) ∧ (l3 < (σ 6 7) → (0 ≤ l3 ∧ l3 < 20) ∧ gTv (6 + 2 + l3.toNatClampNeg) ∧ ((¬ (σ (6 + 2 + l3.toNatClampNeg) 3) = l1 → gE 80 4 [some (.ref 6), some (.int l1), some (.int l2), some (.int (l3 + 1))] [] σ K) ∧ ((σ (6 + 2 + l3.toNatClampNeg) 3) = l1 → (((0 ≤ l3 ∧ l3 < 20) ∧ l3.toNatClampNeg < nM (cR σ 6)) ∧ TC σ 6) ∧ gE 80 4 [some (.ref 6), some (.int l1), some (.int (l2 + (fJo (cR σ 6) l3.toNatClampNeg))), some (.int (l3 + 1))] [] σ K))))) : gE 80 4 [some (.ref 6), some (.int l1), some (.int l2), some (.int l3)] [] σ K :=
  gw_run (cy := 80) (cuts := [4]) (inl := []) (pf := gpee) gpee_ok 400 (by decide) h
theorem s80 {σ : gS} {K : gK} {f : Int32} (hc : SC σ) (hK : K (some (.int (fJF (cR σ 6) f))) σ) : gE 80 0 [some (.ref 6), some (.int f), none, none] [] σ K := by
  obtain ⟨hT, hP, hL, h0⟩ := hc
  have h7 : 0 ≤ σ 6 7 ∧ σ 6 7 ≤ 20 := SC_7 ⟨hT, hP, hL, h0⟩
  have hc3 := hT.1
  refine w80 ?_
  refine g_forI (nM (cR σ 6)) (fun k => [some (.ref 6), some (.int f), some (.int (sm (fun t => if fld (cR σ 6) t 2 = f then fJo (cR σ 6) t else 0) k)), some (.int (iN k))]) (fun _ => σ) (fun _ => True) (fun _ => ?_) (fun k hk _ ih => ?_) 0 (Nat.zero_le _) trivial
  · have hn := (nM_of hc3).2
    refine c80_4 ⟨fun _ => hK, fun h => ?_⟩
    rw [← cR_3 σ 6, nM_lt hc3 (by omega)] at h; omega
  · have hn := (nM_of hc3).2
    have hk20 : k < 20 := by omega
    have ek : (iN k).toNatClampNeg = k := iN_nat (by omega)
    have ih := ih trivial
    refine c80_4 ⟨fun h => ?_, fun h => ⟨b20 hk20, by rw [ek]; exact tv_6 k hk20, ?_⟩⟩
    · rw [← cR_3 σ 6, nM_lt hc3 (by omega)] at h; omega
    · rw [ek, ← cR_f (σ := σ) (p := 6) (t := k) (f := 2) hk20 (by decide), iN_one]
      refine ⟨fun q => ?_, fun q => ⟨⟨⟨b20 hk20, hk⟩, hT⟩, ?_⟩⟩
      · rw [sm_z (if_neg q)] at ih
        exact ih
      · have e : sm (fun t => if fld (cR σ 6) t 2 = f then fJo (cR σ 6) t else 0) (k + 1) = sm (fun t => if fld (cR σ 6) t 2 = f then fJo (cR σ 6) t else 0) k + fJo (cR σ 6) k := congrArg (_ + ·) (if_pos q)
        rw [e] at ih
        exact ih
noncomputable def f80 : gD := fun Lv σ => match Lv with
  | [some (.ref q0), some (.int f), none, none] => cond (Nat.beq q0 6) (some (some (SC σ), some (.int (fJF (cR σ 6) f)), σ)) none
  | _ => none
theorem ok80 : gFok 80 f80 := by
  intro Lv σ q h hc K hK
  unfold f80 at h
  split at h
  · rename_i q0 f
    obtain ⟨hb, h⟩ := c_no h
    have hb0 := hb
    have e0 := b_eq hb0
    subst e0
    cases h
    exact s80 (hc _ rfl) hK
  · cases h
set_option maxRecDepth 20000 in
theorem w225 {σ : gS} {K : gK} {f : Int32} (h : gE 225 4 [some (.ref 323), some (.int f), some (.int 0), some (.int 0)] [] σ K) : gE 225 0 [some (.ref 323), some (.int f), none, none] [] σ K :=
  gw_run (cy := 225) (cuts := [4]) (inl := []) (pf := gpee) gpee_ok 400 (by decide) h
set_option maxRecDepth 20000 in
theorem c225_4 {σ : gS} {K : gK} {l1 l2 l3 : Int32} (h : (0 ≤ (3 : Int32) ∧ (3 : Int32) < 330) ∧ ((¬ l3 < (σ 324 3) → K (some (.int l2)) σ) ∧ (l3 < (σ 324 3) → (0 ≤ (9 + 10 * l3 + (2 : Int32)) ∧ (9 + 10 * l3 + (2 : Int32)) < 330) ∧ ((¬ (σ 324 (9 + 10 * l3 + (2 : Int32)).toNatClampNeg) = l1 → gE 225 4 [some (.ref 323), some (.int l1), some (.int l2), some (.int (l3 + 1))] [] σ K) ∧ ((σ 324 (9 + 10 * l3 + (2 : Int32)).toNatClampNeg) = l1 → gE 225 4 [some (.ref 323), some (.int l1), some (.int (l2 + 1)), some (.int (l3 + 1))] [] σ K))))) : gE 225 4 [some (.ref 323), some (.int l1), some (.int l2), some (.int l3)] [] σ K :=
  gw_run (cy := 225) (cuts := [4]) (inl := []) (pf := gpee) gpee_ok 400 (by decide) h
theorem s225 {σ : gS} {K : gK} {f : Int32} (hc : RS σ) (hK : K (some (.int (fMF (σ 324) f))) σ) : gE 225 0 [some (.ref 323), some (.int f), none, none] [] σ K := by
  obtain ⟨⟨h3, h9⟩, hu⟩ := hc
  have hc3 := h3
  refine w225 ?_
  refine g_forI (nM (σ 324)) (fun k => [some (.ref 323), some (.int f), some (.int (iN (cnt (fun t => decide (fld (σ 324) t 2 = f)) k))), some (.int (iN k))]) (fun _ => σ) (fun _ => True) (fun _ => ?_) (fun k hk _ ih => ?_) 0 (Nat.zero_le _) trivial
  · have hn := (nM_of hc3).2
    refine c225_4 ⟨by decide, fun _ => hK, fun h => ?_⟩
    rw [nM_lt hc3 (by omega)] at h; omega
  · have hn := (nM_of hc3).2
    have hk20 : k < 20 := by omega
    have ek : (iN k).toNatClampNeg = k := iN_nat (by omega)
    have ih := ih trivial
    refine c225_4 ⟨by decide, fun h => ?_, fun h => ⟨ixb2 hk20, ?_⟩⟩
    · rw [nM_lt hc3 (by omega)] at h; omega
    · rw [ix2 hk20, iN_one, iN_one]
      refine ⟨fun q => ?_, fun q => ?_⟩
      · rw [cnt_f (fun z => q (of_decide_eq_true z))] at ih
        exact ih
      · rw [cnt_t (decide_eq_true (show fld (σ 324) k 2 = f from q))] at ih
        exact ih
noncomputable def f225 : gD := fun Lv σ => match Lv with
  | [some (.ref q0), some (.int f), none, none] => cond (Nat.beq q0 323) (some (some (RS σ), some (.int (fMF (σ 324) f)), σ)) none
  | _ => none
theorem ok225 : gFok 225 f225 := by
  intro Lv σ q h hc K hK
  unfold f225 at h
  split at h
  · rename_i q0 f
    obtain ⟨hb, h⟩ := c_no h
    have hb0 := hb
    have e0 := b_eq hb0
    subst e0
    cases h
    exact s225 (hc _ rfl) hK
  · cases h
set_option maxRecDepth 20000 in
theorem w237 {σ : gS} {K : gK} {f : Int32} (h : gE 237 4 [some (.ref 323), some (.int f), some (.int 0), some (.int 0)] [] σ K) : gE 237 0 [some (.ref 323), some (.int f), none, none] [] σ K :=
  gw_run (cy := 237) (cuts := [4]) (inl := []) (pf := gpee) gpee_ok 400 (by decide) h
set_option maxRecDepth 20000 in
theorem c237_4 {σ : gS} {K : gK} {l1 l2 l3 : Int32} (h : (0 ≤ (3 : Int32) ∧ (3 : Int32) < 330) ∧ ((¬ l3 < (σ 324 3) → K (some (.int l2)) σ) ∧ (l3 < (σ 324 3) → (0 ≤ (9 + 10 * l3 + (2 : Int32)) ∧ (9 + 10 * l3 + (2 : Int32)) < 330) ∧ ((¬ (σ 324 (9 + 10 * l3 + (2 : Int32)).toNatClampNeg) = l1 → gE 237 4 [some (.ref 323), some (.int l1), some (.int l2), some (.int (l3 + 1))] [] σ K) ∧ ((σ 324 (9 + 10 * l3 + (2 : Int32)).toNatClampNeg) = l1 → ((0 ≤ l3 ∧ l3 < 20) ∧ 0 ≤ σ 324 3 ∧ σ 324 3 ≤ 20) ∧ gE 237 4 [some (.ref 323), some (.int l1), some (.int (l2 + (fJo (σ 324) l3.toNatClampNeg))), some (.int (l3 + 1))] [] σ K))))) : gE 237 4 [some (.ref 323), some (.int l1), some (.int l2), some (.int l3)] [] σ K :=
  gw_run (cy := 237) (cuts := [4]) (inl := []) (pf := gpee) gpee_ok 400 (by decide) h
theorem s237 {σ : gS} {K : gK} {f : Int32} (hc : RS σ) (hK : K (some (.int (fJF (σ 324) f))) σ) : gE 237 0 [some (.ref 323), some (.int f), none, none] [] σ K := by
  obtain ⟨⟨h3, h9⟩, hu⟩ := hc
  have hc3 := h3
  refine w237 ?_
  refine g_forI (nM (σ 324)) (fun k => [some (.ref 323), some (.int f), some (.int (sm (fun t => if fld (σ 324) t 2 = f then fJo (σ 324) t else 0) k)), some (.int (iN k))]) (fun _ => σ) (fun _ => True) (fun _ => ?_) (fun k hk _ ih => ?_) 0 (Nat.zero_le _) trivial
  · have hn := (nM_of hc3).2
    refine c237_4 ⟨by decide, fun _ => hK, fun h => ?_⟩
    rw [nM_lt hc3 (by omega)] at h; omega
  · have hn := (nM_of hc3).2
    have hk20 : k < 20 := by omega
    have ek : (iN k).toNatClampNeg = k := iN_nat (by omega)
    have ih := ih trivial
    refine c237_4 ⟨by decide, fun h => ?_, fun h => ⟨ixb2 hk20, ?_⟩⟩
    · rw [nM_lt hc3 (by omega)] at h; omega
    · rw [ix2 hk20, ek, iN_one]
      refine ⟨fun q => ?_, fun q => ⟨⟨b20 hk20, h3⟩, ?_⟩⟩
      · rw [sm_z (g := fun t => if fld (σ 324) t 2 = f then fJo (σ 324) t else 0) (if_neg q)] at ih
        exact ih
      · have e : sm (fun t => if fld (σ 324) t 2 = f then fJo (σ 324) t else 0) (k + 1) = sm (fun t => if fld (σ 324) t 2 = f then fJo (σ 324) t else 0) k + fJo (σ 324) k := congrArg (_ + ·) (if_pos q)
        rw [e] at ih
        exact ih
noncomputable def f237 : gD := fun Lv σ => match Lv with
  | [some (.ref q0), some (.int f), none, none] => cond (Nat.beq q0 323) (some (some (RS σ), some (.int (fJF (σ 324) f)), σ)) none
  | _ => none
theorem ok237 : gFok 237 f237 := by
  intro Lv σ q h hc K hK
  unfold f237 at h
  split at h
  · rename_i q0 f
    obtain ⟨hb, h⟩ := c_no h
    have hb0 := hb
    have e0 := b_eq hb0
    subst e0
    cases h
    exact s237 (hc _ rfl) hK
  · cases h
set_option maxRecDepth 20000 in
theorem w233 {σ : gS} {K : gK} {b f : Int32} (h : gE 233 5 [some (.ref 323), some (.int b), some (.int f), some (.int 0), some (.int 0)] [] σ K) : gE 233 0 [some (.ref 323), some (.int b), some (.int f), none, none] [] σ K :=
  gw_run (cy := 233) (cuts := [5]) (inl := []) (pf := gpee) gpee_ok 400 (by decide) h
set_option maxRecDepth 20000 in
theorem c233_5 {σ : gS} {K : gK} {l1 l2 l3 l4 : Int32} (h : (0 ≤ (3 : Int32) ∧ (3 : Int32) < 330) ∧ ((¬ l4 < (σ 324 3) → K (some (.int l3)) σ) ∧ (l4 < (σ 324 3) → (0 ≤ l4 ∧ l4 < 20) ∧ (((bI (fld (σ 324) l4.toNatClampNeg 0 / 8 = l1)) = 0 → gE 233 5 [some (.ref 323), some (.int l1), some (.int l2), some (.int l3), some (.int (l4 + 1))] [] σ K) ∧ (¬ (bI (fld (σ 324) l4.toNatClampNeg 0 / 8 = l1)) = 0 → (0 ≤ (9 + 10 * l4 + (2 : Int32)) ∧ (9 + 10 * l4 + (2 : Int32)) < 330) ∧ ((¬ (σ 324 (9 + 10 * l4 + (2 : Int32)).toNatClampNeg) = l2 → gE 233 5 [some (.ref 323), some (.int l1), some (.int l2), some (.int l3), some (.int (l4 + 1))] [] σ K) ∧ ((σ 324 (9 + 10 * l4 + (2 : Int32)).toNatClampNeg) = l2 → gE 233 5 [some (.ref 323), some (.int l1), some (.int l2), some (.int (l3 + 1)), some (.int (l4 + 1))] [] σ K))))))) : gE 233 5 [some (.ref 323), some (.int l1), some (.int l2), some (.int l3), some (.int l4)] [] σ K :=
  gw_run (cy := 233) (cuts := [5]) (inl := []) (pf := gpee) gpee_ok 400 (by decide) h
theorem s233 {σ : gS} {K : gK} {b f : Int32} (hc : RS σ) (hK : K (some (.int (iN (mem (σ 324) b f)))) σ) : gE 233 0 [some (.ref 323), some (.int b), some (.int f), none, none] [] σ K := by
  obtain ⟨⟨h3, h9⟩, hu⟩ := hc
  have hc3 := h3
  refine w233 ?_
  refine g_forI (nM (σ 324)) (fun k => [some (.ref 323), some (.int b), some (.int f), some (.int (iN (cnt (memP (σ 324) b f) k))), some (.int (iN k))]) (fun _ => σ) (fun _ => True) (fun _ => ?_) (fun k hk _ ih => ?_) 0 (Nat.zero_le _) trivial
  · have hn := (nM_of hc3).2
    refine c233_5 ⟨by decide, fun _ => hK, fun h => ?_⟩
    rw [nM_lt hc3 (by omega)] at h; omega
  · have hn := (nM_of hc3).2
    have hk20 : k < 20 := by omega
    have ek : (iN k).toNatClampNeg = k := iN_nat (by omega)
    have ih := ih trivial
    refine c233_5 ⟨by decide, fun h => ?_, fun h => ⟨b20 hk20, ?_⟩⟩
    · rw [nM_lt hc3 (by omega)] at h; omega
    · rw [ix2 hk20, ek, iN_one, iN_one]
      refine ⟨fun q => ?_, fun q => ⟨ixb2 hk20, fun q2 => ?_, fun q2 => ?_⟩⟩
      · rw [cnt_f (fun z => bI_0.mp q (of_decide_eq_true z).1)] at ih
        exact ih
      · rw [cnt_f (fun z => q2 (of_decide_eq_true z).2)] at ih
        exact ih
      · rw [cnt_t (decide_eq_true ⟨dnn q, q2⟩)] at ih
        exact ih
noncomputable def f233 : gD := fun Lv σ => match Lv with
  | [some (.ref q0), some (.int b), some (.int f), none, none] => cond (Nat.beq q0 323) (some (some (RS σ), some (.int (iN (mem (σ 324) b f))), σ)) none
  | _ => none
theorem ok233 : gFok 233 f233 := by
  intro Lv σ q h hc K hK
  unfold f233 at h
  split at h
  · rename_i q0 b f
    obtain ⟨hb, h⟩ := c_no h
    have hb0 := hb
    have e0 := b_eq hb0
    subst e0
    cases h
    exact s233 (hc _ rfl) hK
  · cases h
set_option maxRecDepth 20000 in
theorem w72 {σ : gS} {K : gK} {x : Int32} (h : gE 72 2 [some (.ref 6), some (.int x), some (.int 0)] [] σ K) : gE 72 0 [some (.ref 6), some (.int x), none] [] σ K :=
  gw_run (cy := 72) (cuts := [2]) (inl := []) (pf := gpee) gpee_ok 400 (by decide) h
set_option maxRecDepth 20000 in
theorem c72_2 {σ : gS} {K : gK} {l1 l2 : Int32} (h : ((¬ l2 < (σ 6 7) → K (some (.int (-2))) σ) ∧ (l2 < (σ 6 7) → (SC σ ∧ isN σ 6 l2) ∧ ((¬ (fPl (cR σ 6) l2.toNatClampNeg) = l1 → gE 72 2 [some (.ref 6), some (.int l1), some (.int (l2 + 1))] [] σ K) ∧ ((fPl (cR σ 6) l2.toNatClampNeg) = l1 → K (some (.int l2)) σ))))) : gE 72 2 [some (.ref 6), some (.int l1), some (.int l2)] [] σ K :=
  gw_run (cy := 72) (cuts := [2]) (inl := []) (pf := gpee) gpee_ok 400 (by decide) h
theorem s72 {σ : gS} {K : gK} {x : Int32} (hc : SC σ) (hK : K (some (.int (fRk (cR σ 6) x))) σ) : gE 72 0 [some (.ref 6), some (.int x), none] [] σ K := by
  obtain ⟨hT, hP, hL, h0⟩ := hc
  have h7 : 0 ≤ σ 6 7 ∧ σ 6 7 ≤ 20 := SC_7 ⟨hT, hP, hL, h0⟩
  have hc3 := hT.1
  refine w72 ?_
  refine g_forI (nM (cR σ 6)) (fun k => [some (.ref 6), some (.int x), some (.int (iN k))]) (fun _ => σ) (fun k => ∀ j, j < k → fPl (cR σ 6) j ≠ x) (fun hi => ?_) (fun k hk hi ih => ?_) 0 (Nat.zero_le _) (fun j hj => absurd hj (Nat.not_lt_zero j))
  · have hn := (nM_of hc3).2
    refine c72_2 ⟨fun _ => ?_, fun h => ?_⟩
    · have e : fRk (cR σ 6) x = -2 := fnd_none (fun j hj => decide_eq_false (hi j hj))
      rw [e] at hK; exact hK
    · rw [← cR_3 σ 6, nM_lt hc3 (by omega)] at h; omega
  · have hn := (nM_of hc3).2
    have hk20 : k < 20 := by omega
    have ek : (iN k).toNatClampNeg = k := iN_nat (by omega)
    refine c72_2 ⟨fun h => ?_, fun h => ⟨⟨⟨hT, hP, hL, h0⟩, b20 hk20, by rw [ek]; exact hk⟩, fun h2 => ?_, fun h2 => ?_⟩⟩
    · rw [← cR_3 σ 6, nM_lt hc3 (by omega)] at h; omega
    · rw [ek] at h2
      rw [iN_one]
      refine ih (fun j hj => ?_)
      rcases Nat.lt_or_ge j k with q | q
      · exact hi j q
      · have : j = k := by omega
        subst this; exact h2
    · rw [ek] at h2
      have e : fRk (cR σ 6) x = iN k := fnd_some (decide_eq_true h2) (fun j hj => decide_eq_false (hi j hj)) (by omega) hk
      rw [e] at hK; exact hK
noncomputable def f72 : gD := fun Lv σ => match Lv with
  | [some (.ref q0), some (.int x), none] => cond (Nat.beq q0 6) (some (some (SC σ), some (.int (fRk (cR σ 6) x)), σ)) none
  | _ => none
theorem ok72 : gFok 72 f72 := by
  intro Lv σ q h hc K hK
  unfold f72 at h
  split at h
  · rename_i q0 x
    obtain ⟨hb, h⟩ := c_no h
    have hb0 := hb
    have e0 := b_eq hb0
    subst e0
    cases h
    exact s72 (hc _ rfl) hK
  · cases h
set_option maxRecDepth 20000 in
theorem w239 {σ : gS} {K : gK} {x : Int32} (h : ((¬ x < 0 → gE 239 8 [some (.ref 323), some (.int x), some (.int 0)] [] σ K) ∧ (x < 0 → K (some (.int (-1))) σ))) : gE 239 0 [some (.ref 323), some (.int x), none] [] σ K :=
  gw_run (cy := 239) (cuts := [8]) (inl := []) (pf := gpee) gpee_ok 400 (by decide) h
set_option maxRecDepth 20000 in
theorem c239_8 {σ : gS} {K : gK} {l1 l2 : Int32} (h : (0 ≤ (3 : Int32) ∧ (3 : Int32) < 330) ∧ ((¬ l2 < (σ 324 3) → K (some (.int (-2))) σ) ∧ (l2 < (σ 324 3) → (RS σ ∧ (0 ≤ l2 ∧ l2 < 20)) ∧ ((¬ (fPl (σ 324) l2.toNatClampNeg) = l1 → gE 239 8 [some (.ref 323), some (.int l1), some (.int (l2 + 1))] [] σ K) ∧ ((fPl (σ 324) l2.toNatClampNeg) = l1 → K (some (.int l2)) σ))))) : gE 239 8 [some (.ref 323), some (.int l1), some (.int l2)] [] σ K :=
  gw_run (cy := 239) (cuts := [8]) (inl := []) (pf := gpee) gpee_ok 400 (by decide) h
theorem s239 {σ : gS} {K : gK} {x : Int32} (hc : RS σ) (hK : K (some (.int (if x < 0 then -1 else fRk (σ 324) x))) σ) : gE 239 0 [some (.ref 323), some (.int x), none] [] σ K := by
  obtain ⟨⟨h3, h9⟩, hu⟩ := hc
  have hc3 := h3
  refine w239 ⟨fun q => ?_, fun q => ?_⟩
  · first
    | (rw [if_neg q] at hK)
    | (rw [if_pos q] at hK; exact hK)
    refine g_forI (nM (σ 324)) (fun k => [some (.ref 323), some (.int x), some (.int (iN k))]) (fun _ => σ) (fun k => ∀ j, j < k → fPl (σ 324) j ≠ x) (fun hi => ?_) (fun k hk hi ih => ?_) 0 (Nat.zero_le _) (fun j hj => absurd hj (Nat.not_lt_zero j))
    · have hn := (nM_of hc3).2
      refine c239_8 ⟨by decide, fun _ => ?_, fun h => ?_⟩
      · have e : fRk (σ 324) x = -2 := fnd_none (fun j hj => decide_eq_false (hi j hj))
        rw [e] at hK; exact hK
      · rw [nM_lt hc3 (by omega)] at h; omega
    · have hn := (nM_of hc3).2
      have hk20 : k < 20 := by omega
      have ek : (iN k).toNatClampNeg = k := iN_nat (by omega)
      refine c239_8 ⟨by decide, fun h => ?_, fun h => ⟨⟨⟨⟨h3, h9⟩, hu⟩, b20 hk20⟩, fun h2 => ?_, fun h2 => ?_⟩⟩
      · rw [nM_lt hc3 (by omega)] at h; omega
      · rw [ek] at h2
        rw [iN_one]
        refine ih (fun j hj => ?_)
        rcases Nat.lt_or_ge j k with q | q
        · exact hi j q
        · have : j = k := by omega
          subst this; exact h2
      · rw [ek] at h2
        have e : fRk (σ 324) x = iN k := fnd_some (decide_eq_true h2) (fun j hj => decide_eq_false (hi j hj)) (by omega) hk
        rw [e] at hK; exact hK
  · rw [if_pos q] at hK; exact hK
noncomputable def f239 : gD := fun Lv σ => match Lv with
  | [some (.ref q0), some (.int x), none] => cond (Nat.beq q0 323) (some (some (RS σ), some (.int (if x < 0 then -1 else fRk (σ 324) x)), σ)) none
  | _ => none
theorem ok239 : gFok 239 f239 := by
  intro Lv σ q h hc K hK
  unfold f239 at h
  split at h
  · rename_i q0 x
    obtain ⟨hb, h⟩ := c_no h
    have hb0 := hb
    have e0 := b_eq hb0
    subst e0
    cases h
    exact s239 (hc _ rfl) hK
  · cases h
noncomputable def gpef_l : List (Nat × gD) := (74, f74) :: (75, f75) :: (76, f76) :: (80, f80) :: (225, f225) :: (237, f237) :: (233, f233) :: (72, f72) :: (239, f239) :: gpee_l
noncomputable def gpef : gP := gpl0 gpef_l
theorem gpef_ok : gPok gpef := gpl0_cons ok74 (gpl0_cons ok75 (gpl0_cons ok76 (gpl0_cons ok80 (gpl0_cons ok225 (gpl0_cons ok237 (gpl0_cons ok233 (gpl0_cons ok72 (gpl0_cons ok239 (gpee_ok)))))))))
