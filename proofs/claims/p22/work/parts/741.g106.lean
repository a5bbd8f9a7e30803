-- text 106
/-! QUERIES: the best seat, a partner, rings -/
noncomputable def bcS (R : gW) (t s : Nat) (p : Int32 × Int32) : Int32 × Int32 := if fWhyM R t (iN s) = 0 ∧ (p.1 = -2 ∨ p.2 < fJoy R t (iN s)) then (iN s, fJoy R t (iN s)) else p
noncomputable def fBs (R : gW) (t : Nat) : Int32 := (nfold (bcS R t) (4 * (R 0).toNatClampNeg) (-2, 0)).1
noncomputable def brS (R : gW) (t s : Nat) (b : Int32) : Int32 := if 0 < fWhyM R t (iN s) then b else if b < 0 then iN s else if fJoy R t b < fJoy R t (iN s) then iN s else b
noncomputable def rBs (R : gW) (t : Nat) : Int32 := nfold (brS R t) (4 * (R 0).toNatClampNeg) (-2)
noncomputable def paS (R : gW) (a t : Nat) (p : Int32 × Int32) : Int32 × Int32 := if ¬ t = a ∧ fWhy R a t 0 = 0 ∧ p.2 < fRise R a t a then (iN t, fRise R a t a) else p
noncomputable def fPa (R : gW) (a : Nat) : Int32 := (nfold (paS R a) (nM R) (-2, 0)).1
noncomputable def rgC (R : gW) (a b j : Nat) (n : Nat) : Nat := if ¬ b = a + 1 + j ∧ fWhyR R a b (a + 1 + j) = 0 ∧ 0 < fROR R a b (a + 1 + j) then n + 1 else n
noncomputable def rgB (R : gW) (a i : Nat) (n : Nat) : Nat := nfold (rgC R a (a + 1 + i)) (nM R - (a + 1)) n
noncomputable def rgA (R : gW) (a : Nat) (n : Nat) : Nat := nfold (rgB R a) (nM R - (a + 1)) n
noncomputable def fRi (R : gW) : Int32 := iN (nfold (rgA R) (nM R) 0)
theorem row_n {R : gW} (h : 2 ≤ R 0 ∧ R 0 ≤ 10) : ∃ m, m ≤ 10 ∧ R 0 = iN m ∧ (R 0).toNatClampNeg = m := by
  obtain ⟨m, m1, m2, em, et⟩ := rw_n h
  exact ⟨m, m2, em, by rw [em, iN_nat (by omega)]⟩
set_option maxRecDepth 20000 in
theorem w96 {σ : gS} {K : gK} {t : Int32} (h : gE 96 8 [some (.ref 6), some (.int t), some (.int (-2)), some (.int 0), some (.int 0), none] [] σ K) : gE 96 0 [some (.ref 6), some (.int t), none, none, none, none] [] σ K :=
  gw_run (cy := 96) (cuts := [8]) (inl := []) (pf := gpei) gpei_ok 400 (by decide) h
set_option maxRecDepth 20000 in
theorem c96_8 {σ : gS} {K : gK} {l1 l2 l3 l4 : Int32} {l5 : Option Value} (h : ((¬ l4 < (σ 6 4 * 4) → K (some (.int l2)) σ) ∧ (l4 < (σ 6 4 * 4) → (isN σ 6 l1 ∧ (0 ≤ l4 ∧ l4 < 40) ∧ TC σ 6) ∧ ((¬ (fWhyM (cR σ 6) l1.toNatClampNeg l4) = 0 → gE 96 8 [some (.ref 6), some (.int l1), some (.int l2), some (.int l3), some (.int (l4 + 1)), l5] [] σ K) ∧ ((fWhyM (cR σ 6) l1.toNatClampNeg l4) = 0 → (((0 ≤ l1 ∧ l1 < 20) ∧ l1.toNatClampNeg < nM (cR σ 6)) ∧ (0 ≤ l4 ∧ l4 < 40) ∧ TC σ 6) ∧ ((l2 = (-2) → gE 96 8 [some (.ref 6), some (.int l1), some (.int l4), some (.int (fJoy (cR σ 6) l1.toNatClampNeg l4)), some (.int (l4 + 1)), some (.int (fJoy (cR σ 6) l1.toNatClampNeg l4))] [] σ K) ∧ (¬ l2 = (-2) → ((¬ l3 < (fJoy (cR σ 6) l1.toNatClampNeg l4) → gE 96 8 [some (.ref 6), some (.int l1), some (.int l2), some (.int l3), some (.int (l4 + 1)), some (.int (fJoy (cR σ 6) l1.toNatClampNeg l4))] [] σ K) ∧ (l3 < (fJoy (cR σ 6) l1.toNatClampNeg l4) → gE 96 8 [some (.ref 6), some (.int l1), some (.int l4), some (.int (fJoy (cR σ 6) l1.toNatClampNeg l4)), some (.int (l4 + 1)), some (.int (fJoy (cR σ 6) l1.toNatClampNeg l4))] [] σ K))))))))) : gE 96 8 [some (.ref 6), some (.int l1), some (.int l2), some (.int l3), some (.int l4), l5] [] σ K :=
  gw_run (cy := 96) (cuts := [8]) (inl := []) (pf := gpei) gpei_ok 400 (by decide) h
theorem s96 {σ : gS} {K : gK} {t : Int32} (hc : SC σ ∧ isN σ 6 t) (hK : K (some (.int (fBs (cR σ 6) t.toNatClampNeg))) σ) : gE 96 0 [some (.ref 6), some (.int t), none, none, none, none] [] σ K := by
  obtain ⟨hc, ht⟩ := hc
  obtain ⟨hT, hP, hL, h0⟩ := hc
  have h7 : 0 ≤ σ 6 7 ∧ σ 6 7 ≤ 20 := SC_7 ⟨hT, hP, hL, h0⟩
  obtain ⟨et, lt⟩ := t20 ht.1
  have ht2 := ht.2
  have ht1 := ht.1
  obtain ⟨m, hm⟩ : ∃ m, t.toNatClampNeg = m := ⟨_, rfl⟩
  rw [hm] at et lt hK ht2
  subst et
  have em : (iN m).toNatClampNeg = m := iN_nat (by omega)
  obtain ⟨N, hN, eN, nN⟩ := row_n h0
  have e4 : σ 6 4 * 4 = iN (4 * N) := by
    rw [show σ 6 4 = cR σ 6 0 from rfl, eN, show (4 : Int32) = iN 4 from rfl, iN_mul, Nat.mul_comm]
  have hb : ∀ k, k < 4 * N → 0 ≤ iN k ∧ iN k < 40 := fun k hk => ⟨(iN_le (k := 0) (by decide) (by omega)).mpr (by omega), (iN_lt (m := 40) (by omega) (by decide)).mpr (by omega)⟩
  have nm : isN σ 6 (iN m) := ⟨ht1, by rw [em]; exact ht2⟩
  unfold fBs at hK
  rw [nN] at hK
  refine w96 ?_
  refine g_forJ (4 * N) (fun k u => [some (.ref 6), some (.int (iN m)), some (.int (nfold (bcS (cR σ 6) m) k (-2, 0)).1), some (.int (nfold (bcS (cR σ 6) m) k (-2, 0)).2), some (.int (iN k)), u]) (fun _ => σ) (fun _ => True) (fun _ u => ?_) (fun k hk _ ih u => ?_) 0 (Nat.zero_le _) trivial none
  · refine c96_8 ?_
    rw [e4]
    exact ⟨fun _ => hK, fun z => absurd ((iN_lt (by omega) (by omega)).mp z) (Nat.lt_irrefl _)⟩
  · have ih := ih trivial
    have e : nfold (bcS (cR σ 6) m) (k + 1) (-2, 0) = bcS (cR σ 6) m k (nfold (bcS (cR σ 6) m) k (-2, 0)) := rfl
    rw [e] at ih
    generalize nfold (bcS (cR σ 6) m) k (-2, 0) = p at ih ⊢
    unfold bcS at ih
    refine c96_8 ?_
    rw [e4, em, iN_one]
    refine ⟨fun z => absurd ((iN_lt (by omega) (by omega)).mpr hk) z, fun _ => ⟨⟨nm, hb k hk, hT⟩, fun q => ?_, fun q => ⟨⟨⟨ht1, ht2⟩, hb k hk, hT⟩, fun q2 => ?_, fun q2 => ⟨fun q3 => ?_, fun q3 => ?_⟩⟩⟩⟩
    · rw [if_neg (fun z => q z.1)] at ih
      exact ih _
    · rw [if_pos ⟨q, Or.inl q2⟩] at ih
      exact ih _
    · rw [if_neg (fun z => z.2.elim q2 q3)] at ih
      exact ih _
    · rw [if_pos ⟨q, Or.inr q3⟩] at ih
      exact ih _
noncomputable def f96 : gD := fun Lv σ => match Lv with
  | [some (.ref q0), some (.int t), none, none, none, none] => cond (Nat.beq q0 6) (some (some (SC σ ∧ isN σ 6 t), some (.int (fBs (cR σ 6) t.toNatClampNeg)), σ)) none
  | _ => none
theorem ok96 : gFok 96 f96 := by
  intro Lv σ q h hc K hK
  unfold f96 at h
  split at h
  · rename_i q0 t
    obtain ⟨hb, h⟩ := c_no h
    have hb0 := hb
    have e0 := b_eq hb0
    subst e0
    cases h
    exact s96 (hc _ rfl) hK
  · cases h
set_option maxRecDepth 20000 in
theorem w245 {σ : gS} {K : gK} {t : Int32} (h : ((¬ (bI (isT (σ 324) t)) = 0 → gE 245 15 [some (.ref 323), some (.int t), some (.int (-2)), some (.int 0)] [] σ K) ∧ ((bI (isT (σ 324) t)) = 0 → K (some (.int (-1))) σ))) : gE 245 0 [some (.ref 323), some (.int t), none, none] [] σ K :=
  gw_run (cy := 245) (cuts := [15]) (inl := []) (pf := gpei) gpei_ok 400 (by decide) h
set_option maxRecDepth 20000 in
theorem c245_15 {σ : gS} {K : gK} {l1 l2 l3 : Int32} (h : (0 ≤ (0 : Int32) ∧ (0 : Int32) < 330) ∧ ((¬ l3 < (4 * (σ 324 0)) → K (some (.int l2)) σ) ∧ (l3 < (4 * (σ 324 0)) → ((0 ≤ l1 ∧ l1 < 20) ∧ 0 ≤ σ 324 3 ∧ σ 324 3 ≤ 20) ∧ ((¬ 0 < (fWhyM (σ 324) l1.toNatClampNeg l3) → ((l2 < 0 → gE 245 15 [some (.ref 323), some (.int l1), some (.int l3), some (.int (l3 + 1))] [] σ K) ∧ (¬ l2 < 0 → ((0 ≤ l1 ∧ l1 < 20) ∧ 0 ≤ σ 324 3 ∧ σ 324 3 ≤ 20) ∧ ((0 ≤ l1 ∧ l1 < 20) ∧ 0 ≤ σ 324 3 ∧ σ 324 3 ≤ 20) ∧ ((¬ (fJoy (σ 324) l1.toNatClampNeg l2) < (fJoy (σ 324) l1.toNatClampNeg l3) → gE 245 15 [some (.ref 323), some (.int l1), some (.int l2), some (.int (l3 + 1))] [] σ K) ∧ ((fJoy (σ 324) l1.toNatClampNeg l2) < (fJoy (σ 324) l1.toNatClampNeg l3) → gE 245 15 [some (.ref 323), some (.int l1), some (.int l3), some (.int (l3 + 1))] [] σ K))))) ∧ (0 < (fWhyM (σ 324) l1.toNatClampNeg l3) → gE 245 15 [some (.ref 323), some (.int l1), some (.int l2), some (.int (l3 + 1))] [] σ K))))) : gE 245 15 [some (.ref 323), some (.int l1), some (.int l2), some (.int l3)] [] σ K :=
  gw_run (cy := 245) (cuts := [15]) (inl := []) (pf := gpei) gpei_ok 400 (by decide) h
theorem s245 {σ : gS} {K : gK} {t : Int32} (hc : RS σ ∧ (2 ≤ σ 324 0 ∧ σ 324 0 ≤ 10)) (hK : K (some (.int (if isT (σ 324) t then rBs (σ 324) t.toNatClampNeg else -1))) σ) : gE 245 0 [some (.ref 323), some (.int t), none, none] [] σ K := by
  obtain ⟨hc, h0⟩ := hc
  obtain ⟨⟨h3, h9⟩, hu⟩ := hc
  refine w245 ⟨fun h => ?_, fun h => ?_⟩
  · rw [if_pos (dnn h)] at hK
    have ht1 := isT_of h3 (dnn h)
    clear h
    obtain ⟨et, lt⟩ := t20 ht1
    obtain ⟨m, hm⟩ : ∃ m, t.toNatClampNeg = m := ⟨_, rfl⟩
    rw [hm] at et lt hK
    subst et
    have em : (iN m).toNatClampNeg = m := iN_nat (by omega)
    obtain ⟨N, hN, eN, nN⟩ := row_n h0
    have e4 : 4 * σ 324 0 = iN (4 * N) := by
      rw [eN, show (4 : Int32) = iN 4 from rfl, iN_mul]
    unfold rBs at hK
    rw [nN] at hK
    refine g_forI (4 * N) (fun k => [some (.ref 323), some (.int (iN m)), some (.int (nfold (brS (σ 324) m) k (-2))), some (.int (iN k))]) (fun _ => σ) (fun _ => True) (fun _ => ?_) (fun k hk _ ih => ?_) 0 (Nat.zero_le _) trivial
    · refine c245_15 ?_
      rw [e4]
      exact ⟨by decide, fun _ => hK, fun z => absurd ((iN_lt (by omega) (by omega)).mp z) (Nat.lt_irrefl _)⟩
    · have ih := ih trivial
      have e : nfold (brS (σ 324) m) (k + 1) (-2) = brS (σ 324) m k (nfold (brS (σ 324) m) k (-2)) := rfl
      rw [e] at ih
      generalize nfold (brS (σ 324) m) k (-2) = p at ih ⊢
      unfold brS at ih
      refine c245_15 ?_
      rw [e4, em, iN_one]
      refine ⟨by decide, fun z => absurd ((iN_lt (by omega) (by omega)).mpr hk) z, fun _ => ⟨⟨ht1, h3⟩, fun q => ⟨fun q2 => ?_, fun q2 => ⟨⟨ht1, h3⟩, ⟨ht1, h3⟩, fun q3 => ?_, fun q3 => ?_⟩⟩, fun q => ?_⟩⟩
      · rw [if_neg q, if_pos q2] at ih
        exact ih
      · rw [if_neg q, if_neg q2, if_neg q3] at ih
        exact ih
      · rw [if_neg q, if_neg q2, if_pos q3] at ih
        exact ih
      · rw [if_pos q] at ih
        exact ih
  · rw [if_neg (bI_0.mp h)] at hK; exact hK
noncomputable def f245 : gD := fun Lv σ => match Lv with
  | [some (.ref q0), some (.int t), none, none] => cond (Nat.beq q0 323) (some (some (RS σ ∧ (2 ≤ σ 324 0 ∧ σ 324 0 ≤ 10)), some (.int (if isT (σ 324) t then rBs (σ 324) t.toNatClampNeg else -1)), σ)) none
  | _ => none
theorem ok245 : gFok 245 f245 := by
  intro Lv σ q h hc K hK
  unfold f245 at h
  split at h
  · rename_i q0 t
    obtain ⟨hb, h⟩ := c_no h
    have hb0 := hb
    have e0 := b_eq hb0
    subst e0
    cases h
    exact s245 (hc _ rfl) hK
  · cases h
set_option maxRecDepth 20000 in
theorem w97 {σ : gS} {K : gK} {a : Int32} (h : gE 97 8 [some (.ref 6), some (.int a), some (.int (-2)), some (.int 0), some (.int 0), none] [] σ K) : gE 97 0 [some (.ref 6), some (.int a), none, none, none, none] [] σ K :=
  gw_run (cy := 97) (cuts := [8]) (inl := []) (pf := gpei) gpei_ok 400 (by decide) h
set_option maxRecDepth 20000 in
theorem c97_8 {σ : gS} {K : gK} {l1 l2 l3 l4 : Int32} {l5 : Option Value} (h : ((¬ l4 < (σ 6 7) → K (some (.int l2)) σ) ∧ (l4 < (σ 6 7) → ((l4 = l1 → gE 97 8 [some (.ref 6), some (.int l1), some (.int l2), some (.int l3), some (.int (l4 + 1)), l5] [] σ K) ∧ (¬ l4 = l1 → (isN σ 6 l1 ∧ isN σ 6 l4 ∧ TC σ 6) ∧ ((¬ (fWhy (cR σ 6) l1.toNatClampNeg l4.toNatClampNeg (0 : Int32)) = 0 → gE 97 8 [some (.ref 6), some (.int l1), some (.int l2), some (.int l3), some (.int (l4 + 1)), l5] [] σ K) ∧ ((fWhy (cR σ 6) l1.toNatClampNeg l4.toNatClampNeg (0 : Int32)) = 0 → (isN σ 6 l1 ∧ isN σ 6 l4 ∧ TC σ 6) ∧ ((¬ l3 < (fRise (cR σ 6) l1.toNatClampNeg l4.toNatClampNeg l1.toNatClampNeg) → gE 97 8 [some (.ref 6), some (.int l1), some (.int l2), some (.int l3), some (.int (l4 + 1)), some (.int (fRise (cR σ 6) l1.toNatClampNeg l4.toNatClampNeg l1.toNatClampNeg))] [] σ K) ∧ (l3 < (fRise (cR σ 6) l1.toNatClampNeg l4.toNatClampNeg l1.toNatClampNeg) → gE 97 8 [some (.ref 6), some (.int l1), some (.int l4), some (.int (fRise (cR σ 6) l1.toNatClampNeg l4.toNatClampNeg l1.toNatClampNeg)), some (.int (l4 + 1)), some (.int (fRise (cR σ 6) l1.toNatClampNeg l4.toNatClampNeg l1.toNatClampNeg))] [] σ K))))))))) : gE 97 8 [some (.ref 6), some (.int l1), some (.int l2), some (.int l3), some (.int l4), l5] [] σ K :=
  gw_run (cy := 97) (cuts := [8]) (inl := []) (pf := gpei) gpei_ok 400 (by decide) h
theorem s97 {σ : gS} {K : gK} {a : Int32} (hc : SC σ ∧ isN σ 6 a) (hK : K (some (.int (fPa (cR σ 6) a.toNatClampNeg))) σ) : gE 97 0 [some (.ref 6), some (.int a), none, none, none, none] [] σ K := by
  obtain ⟨hc, ht⟩ := hc
  obtain ⟨hT, hP, hL, h0⟩ := hc
  have h7 : 0 ≤ σ 6 7 ∧ σ 6 7 ≤ 20 := SC_7 ⟨hT, hP, hL, h0⟩
  obtain ⟨et, lt⟩ := t20 ht.1
  have ht2 := ht.2
  have ht1 := ht.1
  obtain ⟨m, hm⟩ : ∃ m, a.toNatClampNeg = m := ⟨_, rfl⟩
  rw [hm] at et lt hK ht2
  subst et
  have em : (iN m).toNatClampNeg = m := iN_nat (by omega)
  have hc3 := hT.1
  have nm : isN σ 6 (iN m) := ⟨ht1, by rw [em]; exact ht2⟩
  unfold fPa at hK
  refine w97 ?_
  refine g_forJ (nM (cR σ 6)) (fun k u => [some (.ref 6), some (.int (iN m)), some (.int (nfold (paS (cR σ 6) m) k (-2, 0)).1), some (.int (nfold (paS (cR σ 6) m) k (-2, 0)).2), some (.int (iN k)), u]) (fun _ => σ) (fun _ => True) (fun _ u => ?_) (fun k hk _ ih u => ?_) 0 (Nat.zero_le _) trivial none
  · have hn := (nM_of hc3).2
    refine c97_8 ⟨fun _ => hK, fun h => ?_⟩
    rw [← cR_3 σ 6, nM_lt hc3 (by omega)] at h; omega
  · have hn := (nM_of hc3).2
    have hk20 : k < 20 := by omega
    have ek : (iN k).toNatClampNeg = k := iN_nat (by omega)
    have nk : isN σ 6 (iN k) := ⟨b20 hk20, by rw [ek]; exact hk⟩
    have ih := ih trivial
    have e : nfold (paS (cR σ 6) m) (k + 1) (-2, 0) = paS (cR σ 6) m k (nfold (paS (cR σ 6) m) k (-2, 0)) := rfl
    rw [e] at ih
    generalize nfold (paS (cR σ 6) m) k (-2, 0) = p at ih ⊢
    unfold paS at ih
    refine c97_8 ?_
    rw [em, ek, iN_one, iN_inj (by omega) (by omega)]
    refine ⟨fun h => ?_, fun _ => ⟨fun q => ?_, fun q => ⟨⟨nm, nk, hT⟩, fun q2 => ?_, fun q2 => ⟨⟨nm, nk, hT⟩, fun q3 => ?_, fun q3 => ?_⟩⟩⟩⟩
    · rw [← cR_3 σ 6, nM_lt hc3 (by omega)] at h; omega
    · rw [if_neg (fun z => z.1 q)] at ih
      exact ih _
    · rw [if_neg (fun z => q2 z.2.1)] at ih
      exact ih _
    · rw [if_neg (fun z => q3 z.2.2)] at ih
      exact ih _
    · rw [if_pos ⟨q, q2, q3⟩] at ih
      exact ih _
noncomputable def f97 : gD := fun Lv σ => match Lv with
  | [some (.ref q0), some (.int a), none, none, none, none] => cond (Nat.beq q0 6) (some (some (SC σ ∧ isN σ 6 a), some (.int (fPa (cR σ 6) a.toNatClampNeg)), σ)) none
  | _ => none
theorem ok97 : gFok 97 f97 := by
  intro Lv σ q h hc K hK
  unfold f97 at h
  split at h
  · rename_i q0 a
    obtain ⟨hb, h⟩ := c_no h
    have hb0 := hb
    have e0 := b_eq hb0
    subst e0
    cases h
    exact s97 (hc _ rfl) hK
  · cases h
set_option maxRecDepth 20000 in
theorem w246 {σ : gS} {K : gK} {a : Int32} (h : ((¬ (bI (isT (σ 324) a)) = 0 → gE 246 18 [some (.ref 323), some (.int a), some (.int (-2)), some (.int 0), some (.int 0), none] [] σ K) ∧ ((bI (isT (σ 324) a)) = 0 → K (some (.int (-1))) σ))) : gE 246 0 [some (.ref 323), some (.int a), none, none, none, none] [] σ K :=
  gw_run (cy := 246) (cuts := [18]) (inl := []) (pf := gpei) gpei_ok 400 (by decide) h
set_option maxRecDepth 20000 in
theorem c246_18 {σ : gS} {K : gK} {l1 l2 l3 l4 : Int32} {l5 : Option Value} (h : (0 ≤ (3 : Int32) ∧ (3 : Int32) < 330) ∧ ((¬ l4 < (σ 324 3) → K (some (.int l2)) σ) ∧ (l4 < (σ 324 3) → ((l4 = l1 → gE 246 18 [some (.ref 323), some (.int l1), some (.int l2), some (.int l3), some (.int (l4 + 1)), l5] [] σ K) ∧ (¬ l4 = l1 → (((0 ≤ l1 ∧ l1 < 20) ∧ (0 ≤ l4 ∧ l4 < 20)) ∧ 0 ≤ σ 324 3 ∧ σ 324 3 ≤ 20) ∧ ((¬ 0 < (fWhy (σ 324) l1.toNatClampNeg l4.toNatClampNeg (0 : Int32)) → (((0 ≤ l1 ∧ l1 < 20) ∧ (0 ≤ l4 ∧ l4 < 20)) ∧ (0 ≤ l1 ∧ l1 < 20) ∧ 0 ≤ σ 324 3 ∧ σ 324 3 ≤ 20) ∧ ((l3 < (fRise (σ 324) l1.toNatClampNeg l4.toNatClampNeg l1.toNatClampNeg) → gE 246 18 [some (.ref 323), some (.int l1), some (.int l4), some (.int (fRise (σ 324) l1.toNatClampNeg l4.toNatClampNeg l1.toNatClampNeg)), some (.int (l4 + 1)), some (.int (fRise (σ 324) l1.toNatClampNeg l4.toNatClampNeg l1.toNatClampNeg))] [] σ K) ∧ (¬ l3 < (fRise (σ 324) l1.toNatClampNeg l4.toNatClampNeg l1.toNatClampNeg) → gE 246 18 [some (.ref 323), some (.int l1), some (.int l2), some (.int l3), some (.int (l4 + 1)), some (.int (fRise (σ 324) l1.toNatClampNeg l4.toNatClampNeg l1.toNatClampNeg))] [] σ K))) ∧ (0 < (fWhy (σ 324) l1.toNatClampNeg l4.toNatClampNeg (0 : Int32)) → gE 246 18 [some (.ref 323), some (.int l1), some (.int l2), some (.int l3), some (.int (l4 + 1)), l5] [] σ K))))))) : gE 246 18 [some (.ref 323), some (.int l1), some (.int l2), some (.int l3), some (.int l4), l5] [] σ K :=
  gw_run (cy := 246) (cuts := [18]) (inl := []) (pf := gpei) gpei_ok 400 (by decide) h
theorem s246 {σ : gS} {K : gK} {a : Int32} (hc : RS σ) (hK : K (some (.int (if isT (σ 324) a then fPa (σ 324) a.toNatClampNeg else -1))) σ) : gE 246 0 [some (.ref 323), some (.int a), none, none, none, none] [] σ K := by
  obtain ⟨⟨h3, h9⟩, hu⟩ := hc
  refine w246 ⟨fun h => ?_, fun h => ?_⟩
  · rw [if_pos (dnn h)] at hK
    have ht1 := isT_of h3 (dnn h)
    clear h
    obtain ⟨et, lt⟩ := t20 ht1
    obtain ⟨m, hm⟩ : ∃ m, a.toNatClampNeg = m := ⟨_, rfl⟩
    rw [hm] at et lt hK
    subst et
    have em : (iN m).toNatClampNeg = m := iN_nat (by omega)
    unfold fPa at hK
    refine g_forJ (nM (σ 324)) (fun k u => [some (.ref 323), some (.int (iN m)), some (.int (nfold (paS (σ 324) m) k (-2, 0)).1), some (.int (nfold (paS (σ 324) m) k (-2, 0)).2), some (.int (iN k)), u]) (fun _ => σ) (fun _ => True) (fun _ u => ?_) (fun k hk _ ih u => ?_) 0 (Nat.zero_le _) trivial none
    · have hn := (nM_of h3).2
      refine c246_18 ⟨by decide, fun _ => hK, fun h => ?_⟩
      rw [nM_lt h3 (by omega)] at h; omega
    · have hn := (nM_of h3).2
      have hk20 : k < 20 := by omega
      have ek : (iN k).toNatClampNeg = k := iN_nat (by omega)
      have ih := ih trivial
      have e : nfold (paS (σ 324) m) (k + 1) (-2, 0) = paS (σ 324) m k (nfold (paS (σ 324) m) k (-2, 0)) := rfl
      rw [e] at ih
      generalize nfold (paS (σ 324) m) k (-2, 0) = p at ih ⊢
      unfold paS at ih
      have hz := fWhy_c (R := σ 324) (a := m) (b := k) (x := 0)
      refine c246_18 ?_
      rw [em, ek, iN_one, iN_inj (by omega) (by omega)]
      refine ⟨by decide, fun h => ?_, fun _ => ⟨fun q => ?_, fun q => ⟨⟨⟨ht1, b20 hk20⟩, h3⟩, fun q2 => ⟨⟨⟨ht1, b20 hk20⟩, ht1, h3⟩, fun q3 => ?_, fun q3 => ?_⟩, fun q2 => ?_⟩⟩⟩
      · rw [nM_lt h3 (by omega)] at h; omega
      · rw [if_neg (fun z => z.1 q)] at ih
        exact ih _
      · rw [if_pos ⟨q, hz.resolve_right q2, q3⟩] at ih
        exact ih _
      · rw [if_neg (fun z => q3 z.2.2)] at ih
        exact ih _
      · rw [if_neg (fun z => by have z2 := z.2.1; rw [z2] at q2; exact absurd q2 (by decide))] at ih
        exact ih _
  · rw [if_neg (bI_0.mp h)] at hK; exact hK
noncomputable def f246 : gD := fun Lv σ => match Lv with
  | [some (.ref q0), some (.int a), none, none, none, none] => cond (Nat.beq q0 323) (some (some (RS σ), some (.int (if isT (σ 324) a then fPa (σ 324) a.toNatClampNeg else -1)), σ)) none
  | _ => none
theorem ok246 : gFok 246 f246 := by
  intro Lv σ q h hc K hK
  unfold f246 at h
  split at h
  · rename_i q0 a
    obtain ⟨hb, h⟩ := c_no h
    have hb0 := hb
    have e0 := b_eq hb0
    subst e0
    cases h
    exact s246 (hc _ rfl) hK
  · cases h
set_option maxRecDepth 20000 in
theorem w95 {σ : gS} {K : gK} (h : gE 95 4 [some (.ref 6), some (.int 0), some (.int 0), none, none] [] σ K) : gE 95 0 [some (.ref 6), none, none, none, none] [] σ K :=
  gw_run (cy := 95) (cuts := [4, 16, 29]) (inl := []) (pf := gpei) gpei_ok 400 (by decide) h
set_option maxRecDepth 20000 in
theorem c95_4 {σ : gS} {K : gK} {l1 l2 : Int32} {l3 l4 : Option Value} (h : ((¬ l2 < (σ 6 7) → K (some (.int l1)) σ) ∧ (l2 < (σ 6 7) → gE 95 16 [some (.ref 6), some (.int l1), some (.int l2), some (.int (l2 + 1)), l4] [] σ K))) : gE 95 4 [some (.ref 6), some (.int l1), some (.int l2), l3, l4] [] σ K :=
  gw_run (cy := 95) (cuts := [4, 16, 29]) (inl := []) (pf := gpei) gpei_ok 400 (by decide) h
set_option maxRecDepth 20000 in
theorem c95_16 {σ : gS} {K : gK} {l1 l2 l3 : Int32} {l4 : Option Value} (h : ((¬ l3 < (σ 6 7) → gE 95 4 [some (.ref 6), some (.int l1), some (.int (l2 + 1)), some (.int l3), l4] [] σ K) ∧ (l3 < (σ 6 7) → gE 95 29 [some (.ref 6), some (.int l1), some (.int l2), some (.int l3), some (.int (l2 + 1))] [] σ K))) : gE 95 16 [some (.ref 6), some (.int l1), some (.int l2), some (.int l3), l4] [] σ K :=
  gw_run (cy := 95) (cuts := [4, 16, 29]) (inl := []) (pf := gpei) gpei_ok 400 (by decide) h
set_option maxRecDepth 20000 in
theorem c95_29 {σ : gS} {K : gK} {l1 l2 l3 l4 : Int32} (h : ((¬ l4 < (σ 6 7) → gE 95 16 [some (.ref 6), some (.int l1), some (.int l2), some (.int (l3 + 1)), some (.int l4)] [] σ K) ∧ (l4 < (σ 6 7) → ((l3 = l4 → gE 95 29 [some (.ref 6), some (.int l1), some (.int l2), some (.int l3), some (.int (l4 + 1))] [] σ K) ∧ (¬ l3 = l4 → ((isN σ 6 l2 ∧ isN σ 6 l3 ∧ isN σ 6 l4) ∧ (l2.toNatClampNeg ≠ l3.toNatClampNeg ∧ l3.toNatClampNeg ≠ l4.toNatClampNeg ∧ l2.toNatClampNeg ≠ l4.toNatClampNeg) ∧ TC σ 6 ∧ bF (cR σ 6)) ∧ ((¬ (fWhyR (cR σ 6) l2.toNatClampNeg l3.toNatClampNeg l4.toNatClampNeg) = 0 → gE 95 29 [some (.ref 6), some (.int l1), some (.int l2), some (.int l3), some (.int (l4 + 1))] [] σ K) ∧ ((fWhyR (cR σ 6) l2.toNatClampNeg l3.toNatClampNeg l4.toNatClampNeg) = 0 → ((isN σ 6 l2 ∧ isN σ 6 l3 ∧ isN σ 6 l4) ∧ (l2.toNatClampNeg ≠ l3.toNatClampNeg ∧ l3.toNatClampNeg ≠ l4.toNatClampNeg ∧ l2.toNatClampNeg ≠ l4.toNatClampNeg) ∧ TC σ 6) ∧ ((¬ 0 < (fROR (cR σ 6) l2.toNatClampNeg l3.toNatClampNeg l4.toNatClampNeg) → gE 95 29 [some (.ref 6), some (.int l1), some (.int l2), some (.int l3), some (.int (l4 + 1))] [] σ K) ∧ (0 < (fROR (cR σ 6) l2.toNatClampNeg l3.toNatClampNeg l4.toNatClampNeg) → gE 95 29 [some (.ref 6), some (.int (l1 + 1)), some (.int l2), some (.int l3), some (.int (l4 + 1))] [] σ K))))))))) : gE 95 29 [some (.ref 6), some (.int l1), some (.int l2), some (.int l3), some (.int l4)] [] σ K :=
  gw_run (cy := 95) (cuts := [4, 16, 29]) (inl := []) (pf := gpei) gpei_ok 400 (by decide) h
theorem s95 {σ : gS} {K : gK} (hc : SC σ ∧ bF (cR σ 6)) (hK : K (some (.int (fRi (cR σ 6)))) σ) : gE 95 0 [some (.ref 6), none, none, none, none] [] σ K := by
  obtain ⟨hc, hF⟩ := hc
  obtain ⟨hT, hP, hL, h0⟩ := hc
  have h7 : 0 ≤ σ 6 7 ∧ σ 6 7 ≤ 20 := SC_7 ⟨hT, hP, hL, h0⟩
  have hc3 := hT.1
  have hn := (nM_of hc3).2
  have inN : ∀ k, k < nM (cR σ 6) → isN σ 6 (iN k) := fun k hk => ⟨b20 (by omega), by rw [iN_nat (by omega)]; exact hk⟩
  have inner : ∀ (a i n : Nat), a < nM (cR σ 6) → i < nM (cR σ 6) - (a + 1) → gE 95 16 [some (.ref 6), some (.int (iN (rgB (cR σ 6) a i n))), some (.int (iN a)), some (.int (iN (a + 1 + (i + 1)))), some (.int (iN (a + 1 + (nM (cR σ 6) - (a + 1)))))] [] σ K → gE 95 29 [some (.ref 6), some (.int (iN n)), some (.int (iN a)), some (.int (iN (a + 1 + i))), some (.int (iN (a + 1)))] [] σ K := by
    intro a i n ha hi hout
    refine g_forI (nM (cR σ 6) - (a + 1)) (fun k => [some (.ref 6), some (.int (iN (nfold (rgC (cR σ 6) a (a + 1 + i)) k n))), some (.int (iN a)), some (.int (iN (a + 1 + i))), some (.int (iN (a + 1 + k)))]) (fun _ => σ) (fun _ => True) (fun _ => ?_) (fun k hk _ ih => ?_) 0 (Nat.zero_le _) trivial
    · refine c95_29 ⟨fun _ => ?_, fun h => ?_⟩
      · rw [iN_one]
        exact hout
      · rw [← cR_3 σ 6, nM_lt hc3 (by omega)] at h; omega
    · have ih := ih trivial
      have e : nfold (rgC (cR σ 6) a (a + 1 + i)) (k + 1) n = rgC (cR σ 6) a (a + 1 + i) k (nfold (rgC (cR σ 6) a (a + 1 + i)) k n) := rfl
      rw [e] at ih
      generalize nfold (rgC (cR σ 6) a (a + 1 + i)) k n = n at ih ⊢
      unfold rgC at ih
      have na : (iN a).toNatClampNeg = a := iN_nat (by omega)
      have nb : (iN (a + 1 + i)).toNatClampNeg = a + 1 + i := iN_nat (by omega)
      have nc : (iN (a + 1 + k)).toNatClampNeg = a + 1 + k := iN_nat (by omega)
      refine c95_29 ⟨fun h => ?_, fun _ => ⟨fun q => ?_, fun q => ?_⟩⟩
      · rw [← cR_3 σ 6, nM_lt hc3 (by omega)] at h; omega
      · have q := (iN_inj (by omega) (by omega)).mp q
        rw [if_neg (fun z => z.1 q)] at ih
        rw [iN_one]
        exact ih
      · have q : ¬ a + 1 + i = a + 1 + k := fun z => q (by rw [z])
        refine ⟨⟨⟨inN a ha, inN (a + 1 + i) (by omega), inN (a + 1 + k) (by omega)⟩, ⟨by rw [na, nb]; omega, by rw [nb, nc]; omega, by rw [na, nc]; omega⟩, hT, hF⟩, fun q2 => ?_, fun q2 => ⟨⟨⟨inN a ha, inN (a + 1 + i) (by omega), inN (a + 1 + k) (by omega)⟩, ⟨by rw [na, nb]; omega, by rw [nb, nc]; omega, by rw [na, nc]; omega⟩, hT⟩, fun q3 => ?_, fun q3 => ?_⟩⟩
        · rw [na, nb, nc] at q2
          rw [if_neg (fun z => q2 z.2.1)] at ih
          rw [iN_one]
          exact ih
        · rw [na, nb, nc] at q3
          rw [if_neg (fun z => q3 z.2.2)] at ih
          rw [iN_one]
          exact ih
        · rw [na, nb, nc] at q2 q3
          rw [if_pos ⟨q, q2, q3⟩] at ih
          rw [iN_one, iN_one]
          exact ih
  have mid : ∀ (a n : Nat) (u : Option Value), a < nM (cR σ 6) → (∀ u1 u2, gE 95 4 [some (.ref 6), some (.int (iN (rgA (cR σ 6) a n))), some (.int (iN (a + 1))), u1, u2] [] σ K) → gE 95 16 [some (.ref 6), some (.int (iN n)), some (.int (iN a)), some (.int (iN (a + 1))), u] [] σ K := by
    intro a n u ha hout
    refine g_forJ (nM (cR σ 6) - (a + 1)) (fun k u => [some (.ref 6), some (.int (iN (nfold (rgB (cR σ 6) a) k n))), some (.int (iN a)), some (.int (iN (a + 1 + k))), u]) (fun _ => σ) (fun _ => True) (fun _ u => ?_) (fun k hk _ ih u => ?_) 0 (Nat.zero_le _) trivial u
    · refine c95_16 ⟨fun _ => ?_, fun h => ?_⟩
      · rw [iN_one]
        exact hout _ _
      · rw [← cR_3 σ 6, nM_lt hc3 (by omega)] at h; omega
    · refine c95_16 ⟨fun h => ?_, fun _ => ?_⟩
      · rw [← cR_3 σ 6, nM_lt hc3 (by omega)] at h; omega
      · rw [iN_one]
        exact inner a k _ ha hk (ih trivial _)
  refine w95 ?_
  refine g_forJ (J := Option Value × Option Value) (nM (cR σ 6)) (fun k u => [some (.ref 6), some (.int (iN (nfold (rgA (cR σ 6)) k 0))), some (.int (iN k)), u.1, u.2]) (fun _ => σ) (fun _ => True) (fun _ u => ?_) (fun k hk _ ih u => ?_) 0 (Nat.zero_le _) trivial (none, none)
  · refine c95_4 ⟨fun _ => hK, fun h => ?_⟩
    rw [← cR_3 σ 6, nM_lt hc3 (by omega)] at h; omega
  · refine c95_4 ⟨fun h => ?_, fun _ => ?_⟩
    · rw [← cR_3 σ 6, nM_lt hc3 (by omega)] at h; omega
    · rw [iN_one]
      exact mid k _ _ hk (fun u1 u2 => ih trivial (u1, u2))
noncomputable def f95 : gD := fun Lv σ => match Lv with
  | [some (.ref q0), none, none, none, none] => cond (Nat.beq q0 6) (some (some (SC σ ∧ bF (cR σ 6)), some (.int (fRi (cR σ 6))), σ)) none
  | _ => none
theorem ok95 : gFok 95 f95 := by
  intro Lv σ q h hc K hK
  unfold f95 at h
  split at h
  · rename_i q0
    obtain ⟨hb, h⟩ := c_no h
    have hb0 := hb
    have e0 := b_eq hb0
    subst e0
    cases h
    exact s95 (hc _ rfl) hK
  · cases h
set_option maxRecDepth 20000 in
theorem w247 {σ : gS} {K : gK} (h : gE 247 4 [some (.ref 323), some (.int 0), some (.int 0), none, none] [] σ K) : gE 247 0 [some (.ref 323), none, none, none, none] [] σ K :=
  gw_run (cy := 247) (cuts := [4, 18, 33]) (inl := []) (pf := gpei) gpei_ok 400 (by decide) h
set_option maxRecDepth 20000 in
theorem c247_4 {σ : gS} {K : gK} {l1 l2 : Int32} {l3 l4 : Option Value} (h : (0 ≤ (3 : Int32) ∧ (3 : Int32) < 330) ∧ ((¬ l2 < (σ 324 3) → K (some (.int l1)) σ) ∧ (l2 < (σ 324 3) → gE 247 18 [some (.ref 323), some (.int l1), some (.int l2), some (.int (l2 + 1)), l4] [] σ K))) : gE 247 4 [some (.ref 323), some (.int l1), some (.int l2), l3, l4] [] σ K :=
  gw_run (cy := 247) (cuts := [4, 18, 33]) (inl := []) (pf := gpei) gpei_ok 400 (by decide) h
set_option maxRecDepth 20000 in
theorem c247_18 {σ : gS} {K : gK} {l1 l2 l3 : Int32} {l4 : Option Value} (h : (0 ≤ (3 : Int32) ∧ (3 : Int32) < 330) ∧ ((¬ l3 < (σ 324 3) → gE 247 4 [some (.ref 323), some (.int l1), some (.int (l2 + 1)), some (.int l3), l4] [] σ K) ∧ (l3 < (σ 324 3) → gE 247 33 [some (.ref 323), some (.int l1), some (.int l2), some (.int l3), some (.int (l2 + 1))] [] σ K))) : gE 247 18 [some (.ref 323), some (.int l1), some (.int l2), some (.int l3), l4] [] σ K :=
  gw_run (cy := 247) (cuts := [4, 18, 33]) (inl := []) (pf := gpei) gpei_ok 400 (by decide) h
set_option maxRecDepth 20000 in
theorem c247_33 {σ : gS} {K : gK} {l1 l2 l3 l4 : Int32} (h : (0 ≤ (3 : Int32) ∧ (3 : Int32) < 330) ∧ ((¬ l4 < (σ 324 3) → gE 247 18 [some (.ref 323), some (.int l1), some (.int l2), some (.int (l3 + 1)), some (.int l4)] [] σ K) ∧ (l4 < (σ 324 3) → ((l4 = l3 → gE 247 33 [some (.ref 323), some (.int l1), some (.int l2), some (.int l3), some (.int (l4 + 1))] [] σ K) ∧ (¬ l4 = l3 → (((0 ≤ l2 ∧ l2 < 20) ∧ (0 ≤ l3 ∧ l3 < 20) ∧ (0 ≤ l4 ∧ l4 < 20)) ∧ (l2.toNatClampNeg ≠ l3.toNatClampNeg ∧ l3.toNatClampNeg ≠ l4.toNatClampNeg ∧ l2.toNatClampNeg ≠ l4.toNatClampNeg) ∧ 0 ≤ σ 324 3 ∧ σ 324 3 ≤ 20) ∧ ((¬ 0 < (fWhyR (σ 324) l2.toNatClampNeg l3.toNatClampNeg l4.toNatClampNeg) → (((0 ≤ l2 ∧ l2 < 20) ∧ (0 ≤ l3 ∧ l3 < 20) ∧ (0 ≤ l4 ∧ l4 < 20)) ∧ (l2.toNatClampNeg ≠ l3.toNatClampNeg ∧ l3.toNatClampNeg ≠ l4.toNatClampNeg ∧ l2.toNatClampNeg ≠ l4.toNatClampNeg) ∧ 0 ≤ σ 324 3 ∧ σ 324 3 ≤ 20) ∧ ((¬ 0 < (fROR (σ 324) l2.toNatClampNeg l3.toNatClampNeg l4.toNatClampNeg) → gE 247 33 [some (.ref 323), some (.int l1), some (.int l2), some (.int l3), some (.int (l4 + 1))] [] σ K) ∧ (0 < (fROR (σ 324) l2.toNatClampNeg l3.toNatClampNeg l4.toNatClampNeg) → gE 247 33 [some (.ref 323), some (.int (l1 + 1)), some (.int l2), some (.int l3), some (.int (l4 + 1))] [] σ K))) ∧ (0 < (fWhyR (σ 324) l2.toNatClampNeg l3.toNatClampNeg l4.toNatClampNeg) → gE 247 33 [some (.ref 323), some (.int l1), some (.int l2), some (.int l3), some (.int (l4 + 1))] [] σ K))))))) : gE 247 33 [some (.ref 323), some (.int l1), some (.int l2), some (.int l3), some (.int l4)] [] σ K :=
  gw_run (cy := 247) (cuts := [4, 18, 33]) (inl := []) (pf := gpei) gpei_ok 400 (by decide) h
theorem s247 {σ : gS} {K : gK} (hc : RS σ) (hK : K (some (.int (fRi (σ 324)))) σ) : gE 247 0 [some (.ref 323), none, none, none, none] [] σ K := by
  obtain ⟨⟨h3, h9⟩, hu⟩ := hc
  have hc3 := h3
  have hn := (nM_of hc3).2
  have inner : ∀ (a i n : Nat), a < nM (σ 324) → i < nM (σ 324) - (a + 1) → gE 247 18 [some (.ref 323), some (.int (iN (rgB (σ 324) a i n))), some (.int (iN a)), some (.int (iN (a + 1 + (i + 1)))), some (.int (iN (a + 1 + (nM (σ 324) - (a + 1)))))] [] σ K → gE 247 33 [some (.ref 323), some (.int (iN n)), some (.int (iN a)), some (.int (iN (a + 1 + i))), some (.int (iN (a + 1)))] [] σ K := by
    intro a i n ha hi hout
    refine g_forI (nM (σ 324) - (a + 1)) (fun k => [some (.ref 323), some (.int (iN (nfold (rgC (σ 324) a (a + 1 + i)) k n))), some (.int (iN a)), some (.int (iN (a + 1 + i))), some (.int (iN (a + 1 + k)))]) (fun _ => σ) (fun _ => True) (fun _ => ?_) (fun k hk _ ih => ?_) 0 (Nat.zero_le _) trivial
    · refine c247_33 ⟨by decide, fun _ => ?_, fun h => ?_⟩
      · rw [iN_one]
        exact hout
      · rw [nM_lt hc3 (by omega)] at h; omega
    · have ih := ih trivial
      have e : nfold (rgC (σ 324) a (a + 1 + i)) (k + 1) n = rgC (σ 324) a (a + 1 + i) k (nfold (rgC (σ 324) a (a + 1 + i)) k n) := rfl
      rw [e] at ih
      generalize nfold (rgC (σ 324) a (a + 1 + i)) k n = n at ih ⊢
      unfold rgC at ih
      have na : (iN a).toNatClampNeg = a := iN_nat (by omega)
      have nb : (iN (a + 1 + i)).toNatClampNeg = a + 1 + i := iN_nat (by omega)
      have nc : (iN (a + 1 + k)).toNatClampNeg = a + 1 + k := iN_nat (by omega)
      have hz := fWhyR_c (R := σ 324) (a := a) (b := a + 1 + i) (c := a + 1 + k)
      refine c247_33 ⟨by decide, fun h => ?_, fun _ => ⟨fun q => ?_, fun q => ?_⟩⟩
      · rw [nM_lt hc3 (by omega)] at h; omega
      · have q := (iN_inj (by omega) (by omega)).mp q
        rw [if_neg (fun z => z.1 q.symm)] at ih
        rw [iN_one]
        exact ih
      · have q : ¬ a + 1 + i = a + 1 + k := fun z => q (by rw [z])
        refine ⟨⟨⟨b20 (by omega), b20 (by omega), b20 (by omega)⟩, ⟨by rw [na, nb]; omega, by rw [nb, nc]; omega, by rw [na, nc]; omega⟩, h3⟩, fun q2 => ⟨⟨⟨b20 (by omega), b20 (by omega), b20 (by omega)⟩, ⟨by rw [na, nb]; omega, by rw [nb, nc]; omega, by rw [na, nc]; omega⟩, h3⟩, fun q3 => ?_, fun q3 => ?_⟩, fun q2 => ?_⟩
        · rw [na, nb, nc] at q3
          rw [if_neg (fun z => q3 z.2.2)] at ih
          rw [iN_one]
          exact ih
        · rw [na, nb, nc] at q2 q3
          rw [if_pos ⟨q, hz.resolve_right q2, q3⟩] at ih
          rw [iN_one, iN_one]
          exact ih
        · rw [na, nb, nc] at q2
          rw [if_neg (fun z => by have z2 := z.2.1; rw [z2] at q2; exact absurd q2 (by decide))] at ih
          rw [iN_one]
          exact ih
  have mid : ∀ (a n : Nat) (u : Option Value), a < nM (σ 324) → (∀ u1 u2, gE 247 4 [some (.ref 323), some (.int (iN (rgA (σ 324) a n))), some (.int (iN (a + 1))), u1, u2] [] σ K) → gE 247 18 [some (.ref 323), some (.int (iN n)), some (.int (iN a)), some (.int (iN (a + 1))), u] [] σ K := by
    intro a n u ha hout
    refine g_forJ (nM (σ 324) - (a + 1)) (fun k u => [some (.ref 323), some (.int (iN (nfold (rgB (σ 324) a) k n))), some (.int (iN a)), some (.int (iN (a + 1 + k))), u]) (fun _ => σ) (fun _ => True) (fun _ u => ?_) (fun k hk _ ih u => ?_) 0 (Nat.zero_le _) trivial u
    · refine c247_18 ⟨by decide, fun _ => ?_, fun h => ?_⟩
      · rw [iN_one]
        exact hout _ _
      · rw [nM_lt hc3 (by omega)] at h; omega
    · refine c247_18 ⟨by decide, fun h => ?_, fun _ => ?_⟩
      · rw [nM_lt hc3 (by omega)] at h; omega
      · rw [iN_one]
        exact inner a k _ ha hk (ih trivial _)
  refine w247 ?_
  refine g_forJ (J := Option Value × Option Value) (nM (σ 324)) (fun k u => [some (.ref 323), some (.int (iN (nfold (rgA (σ 324)) k 0))), some (.int (iN k)), u.1, u.2]) (fun _ => σ) (fun _ => True) (fun _ u => ?_) (fun k hk _ ih u => ?_) 0 (Nat.zero_le _) trivial (none, none)
  · refine c247_4 ⟨by decide, fun _ => hK, fun h => ?_⟩
    rw [nM_lt hc3 (by omega)] at h; omega
  · refine c247_4 ⟨by decide, fun h => ?_, fun _ => ?_⟩
    · rw [nM_lt hc3 (by omega)] at h; omega
    · rw [iN_one]
      exact mid k _ _ hk (fun u1 u2 => ih trivial (u1, u2))
noncomputable def f247 : gD := fun Lv σ => match Lv with
  | [some (.ref q0), none, none, none, none] => cond (Nat.beq q0 323) (some (some (RS σ), some (.int (fRi (σ 324))), σ)) none
  | _ => none
theorem ok247 : gFok 247 f247 := by
  intro Lv σ q h hc K hK
  unfold f247 at h
  split at h
  · rename_i q0
    obtain ⟨hb, h⟩ := c_no h
    have hb0 := hb
    have e0 := b_eq hb0
    subst e0
    cases h
    exact s247 (hc _ rfl) hK
  · cases h
noncomputable def gpej_l : List (Nat × gD) := (96, f96) :: (245, f245) :: (97, f97) :: (246, f246) :: (95, f95) :: (247, f247) :: gpei_l
noncomputable def gpej : gP := gpl0 gpej_l
theorem gpej_ok : gPok gpej := gpl0_cons ok96 (gpl0_cons ok245 (gpl0_cons ok97 (gpl0_cons ok246 (gpl0_cons ok95 (gpl0_cons ok247 (gpei_ok))))))
set_option maxRecDepth 20000 in
theorem w135 {σ : gS} {K : gK} {t : Int32} (h : (((bI (isT (cR σ 6) t)) = 0 → K (some (.int (-1))) σ) ∧ (¬ (bI (isT (cR σ 6) t)) = 0 → (SC σ ∧ isN σ 6 t) ∧ K (some (.int (fBs (cR σ 6) t.toNatClampNeg))) σ))) : gE 135 0 [some (.ref 0), some (.int t)] [] σ K :=
  gw_run (cy := 135) (cuts := []) (inl := []) (pf := gpej) gpej_ok 400 (by decide) h
theorem s135 {σ : gS} {K : gK} {t : Int32} (hc : SC σ) (hK : K (some (.int (if isT (cR σ 6) t then fBs (cR σ 6) t.toNatClampNeg else -1))) σ) : gE 135 0 [some (.ref 0), some (.int t)] [] σ K := by
  have hcc := hc
  obtain ⟨hT, hP, hL, h0⟩ := hc
  have h7 : 0 ≤ σ 6 7 ∧ σ 6 7 ≤ 20 := SC_7 ⟨hT, hP, hL, h0⟩
  refine w135 ⟨fun h => ?_, fun h => ⟨⟨hcc, isN_of hT.1 (dnn h)⟩, ?_⟩⟩
  · rw [if_neg (bI_0.mp h)] at hK; exact hK
  · rw [if_pos (dnn h)] at hK; exact hK
noncomputable def f135 : gD := fun Lv σ => match Lv with
  | [some (.ref q0), some (.int t)] => cond (Nat.beq q0 0) (some (some (SC σ), some (.int (if isT (cR σ 6) t then fBs (cR σ 6) t.toNatClampNeg else -1)), σ)) none
  | _ => none
theorem ok135 : gFok 135 f135 := by
  intro Lv σ q h hc K hK
  unfold f135 at h
  split at h
  · rename_i q0 t
    obtain ⟨hb, h⟩ := c_no h
    have hb0 := hb
    have e0 := b_eq hb0
    subst e0
    cases h
    exact s135 (hc _ rfl) hK
  · cases h
set_option maxRecDepth 20000 in
theorem w136 {σ : gS} {K : gK} {t : Int32} (h : (((bI (isT (cR σ 6) t)) = 0 → K (some (.int (-1))) σ) ∧ (¬ (bI (isT (cR σ 6) t)) = 0 → (SC σ ∧ isN σ 6 t) ∧ K (some (.int (fPa (cR σ 6) t.toNatClampNeg))) σ))) : gE 136 0 [some (.ref 0), some (.int t)] [] σ K :=
  gw_run (cy := 136) (cuts := []) (inl := []) (pf := gpej) gpej_ok 400 (by decide) h
theorem s136 {σ : gS} {K : gK} {t : Int32} (hc : SC σ) (hK : K (some (.int (if isT (cR σ 6) t then fPa (cR σ 6) t.toNatClampNeg else -1))) σ) : gE 136 0 [some (.ref 0), some (.int t)] [] σ K := by
  have hcc := hc
  obtain ⟨hT, hP, hL, h0⟩ := hc
  have h7 : 0 ≤ σ 6 7 ∧ σ 6 7 ≤ 20 := SC_7 ⟨hT, hP, hL, h0⟩
  refine w136 ⟨fun h => ?_, fun h => ⟨⟨hcc, isN_of hT.1 (dnn h)⟩, ?_⟩⟩
  · rw [if_neg (bI_0.mp h)] at hK; exact hK
  · rw [if_pos (dnn h)] at hK; exact hK
noncomputable def f136 : gD := fun Lv σ => match Lv with
  | [some (.ref q0), some (.int t)] => cond (Nat.beq q0 0) (some (some (SC σ), some (.int (if isT (cR σ 6) t then fPa (cR σ 6) t.toNatClampNeg else -1)), σ)) none
  | _ => none
theorem ok136 : gFok 136 f136 := by
  intro Lv σ q h hc K hK
  unfold f136 at h
  split at h
  · rename_i q0 t
    obtain ⟨hb, h⟩ := c_no h
    have hb0 := hb
    have e0 := b_eq hb0
    subst e0
    cases h
    exact s136 (hc _ rfl) hK
  · cases h
set_option maxRecDepth 20000 in
theorem w137 {σ : gS} {K : gK} (h : (SC σ ∧ bF (cR σ 6)) ∧ K (some (.int (fRi (cR σ 6)))) σ) : gE 137 0 [some (.ref 0)] [] σ K :=
  gw_run (cy := 137) (cuts := []) (inl := []) (pf := gpej) gpej_ok 400 (by decide) h
theorem s137 {σ : gS} {K : gK} (hc : SC σ ∧ bF (cR σ 6)) (hK : K (some (.int (fRi (cR σ 6)))) σ) : gE 137 0 [some (.ref 0)] [] σ K := by
  exact w137 ⟨hc, hK⟩
noncomputable def f137 : gD := fun Lv σ => match Lv with
  | [some (.ref q0)] => cond (Nat.beq q0 0) (some (some (SC σ ∧ bF (cR σ 6)), some (.int (fRi (cR σ 6))), σ)) none
  | _ => none
theorem ok137 : gFok 137 f137 := by
  intro Lv σ q h hc K hK
  unfold f137 at h
  split at h
  · rename_i q0
    obtain ⟨hb, h⟩ := c_no h
    have hb0 := hb
    have e0 := b_eq hb0
    subst e0
    cases h
    exact s137 (hc _ rfl) hK
  · cases h
noncomputable def gpek_l : List (Nat × gD) := (135, f135) :: (136, f136) :: (137, f137) :: gpej_l
noncomputable def gpek : gP := gpl0 gpek_l
theorem gpek_ok : gPok gpek := gpl0_cons ok135 (gpl0_cons ok136 (gpl0_cons ok137 (gpej_ok)))
