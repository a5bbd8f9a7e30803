/-! THE REFERENCE: what asks a row of numbers -/
theorem nM_lt {R : gW} {k : Nat} (hc : 0 ≤ R 3 ∧ R 3 ≤ 20) (hk : k < 2147483648) : iN k < R 3 ↔ k < nM R := by
  obtain ⟨h1, h2⟩ := nM_of hc
  have e : iN k < R 3 ↔ iN k < iN (nM R) := by rw [← h1]
  rw [e, iN_lt hk (by omega)]
theorem t20 {t : Int32} (h : 0 ≤ t ∧ t < 20) : t = iN t.toNatClampNeg ∧ t.toNatClampNeg < 20 := by
  obtain ⟨h1, h2⟩ := iN_of h.1
  refine ⟨h1, ?_⟩
  have h3 : iN t.toNatClampNeg < iN 20 := by rw [← h1]; exact h.2
  exact (iN_lt h2 (by decide)).mp h3
set_option maxRecDepth 20000 in
theorem w165_324 {σ : gS} {K : gK} {x : Int32} (h : gE 165 2 [some (.ref 324), some (.int x), some (.int 0)] [] σ K) : gE 165 0 [some (.ref 324), some (.int x), none] [] σ K :=
  gw_run (cy := 165) (cuts := [2]) (inl := []) (pf := gpfA) gpfA_ok 400 (by decide) h
set_option maxRecDepth 20000 in
theorem v165_324 {σ : gS} {K : gK} {x t : Int32} (h : (0 ≤ (3 : Int32) ∧ (3 : Int32) < 330) ∧ ((¬ t < (σ 324 3) → K (some (.int (-2))) σ) ∧ (t < (σ 324 3) → (0 ≤ (9 + 10 * t + (0 : Int32)) ∧ (9 + 10 * t + (0 : Int32)) < 330) ∧ ((¬ (σ 324 (9 + 10 * t + (0 : Int32)).toNatClampNeg) = x → gE 165 2 [some (.ref 324), some (.int x), some (.int (t + 1))] [] σ K) ∧ ((σ 324 (9 + 10 * t + (0 : Int32)).toNatClampNeg) = x → K (some (.int t)) σ))))) : gE 165 2 [some (.ref 324), some (.int x), some (.int t)] [] σ K :=
  gw_run (cy := 165) (cuts := [2]) (inl := []) (pf := gpfA) gpfA_ok 400 (by decide) h
theorem s165_324 {σ : gS} {K : gK} {x : Int32} (hc : 0 ≤ σ 324 3 ∧ σ 324 3 ≤ 20) (hK : K (some (.int (fWho (σ 324) x))) σ) : gE 165 0 [some (.ref 324), some (.int x), none] [] σ K := by
  refine w165_324 ?_
  refine g_forI (nM (σ 324)) (fun k => [some (.ref 324), some (.int x), some (.int (iN k))]) (fun _ => σ) (fun k => ∀ j, j < k → fld (σ 324) j 0 ≠ x) (fun hi => ?_) (fun k hk hi ih => ?_) 0 (Nat.zero_le _) (fun j hj => absurd hj (Nat.not_lt_zero j))
  · have hn := (nM_of hc).2
    refine v165_324 ⟨by decide, fun _ => ?_, fun h => ?_⟩
    · have e : fWho (σ 324) x = -2 := fnd_none (fun j hj => decide_eq_false (hi j hj))
      rw [e] at hK; exact hK
    · rw [nM_lt hc (by omega)] at h; omega
  · have hn := (nM_of hc).2
    have hk20 : k < 20 := by omega
    refine v165_324 ⟨by decide, fun h => ?_, fun h => ⟨ixb0 hk20, fun h2 => ?_, fun h2 => ?_⟩⟩
    · rw [nM_lt hc (by omega)] at h; omega
    · rw [ix0 hk20] at h2
      rw [iN_one]
      refine ih (fun j hj => ?_)
      rcases Nat.lt_or_ge j k with q | q
      · exact hi j q
      · have : j = k := by omega
        subst this; exact h2
    · rw [ix0 hk20] at h2
      have e : fWho (σ 324) x = iN k := fnd_some (decide_eq_true h2) (fun j hj => decide_eq_false (hi j hj)) (by omega) hk
      rw [e] at hK; exact hK
set_option maxRecDepth 20000 in
theorem w165_325 {σ : gS} {K : gK} {x : Int32} (h : gE 165 2 [some (.ref 325), some (.int x), some (.int 0)] [] σ K) : gE 165 0 [some (.ref 325), some (.int x), none] [] σ K :=
  gw_run (cy := 165) (cuts := [2]) (inl := []) (pf := gpfA) gpfA_ok 400 (by decide) h
set_option maxRecDepth 20000 in
theorem v165_325 {σ : gS} {K : gK} {x t : Int32} (h : (0 ≤ (3 : Int32) ∧ (3 : Int32) < 330) ∧ ((¬ t < (σ 325 3) → K (some (.int (-2))) σ) ∧ (t < (σ 325 3) → (0 ≤ (9 + 10 * t + (0 : Int32)) ∧ (9 + 10 * t + (0 : Int32)) < 330) ∧ ((¬ (σ 325 (9 + 10 * t + (0 : Int32)).toNatClampNeg) = x → gE 165 2 [some (.ref 325), some (.int x), some (.int (t + 1))] [] σ K) ∧ ((σ 325 (9 + 10 * t + (0 : Int32)).toNatClampNeg) = x → K (some (.int t)) σ))))) : gE 165 2 [some (.ref 325), some (.int x), some (.int t)] [] σ K :=
  gw_run (cy := 165) (cuts := [2]) (inl := []) (pf := gpfA) gpfA_ok 400 (by decide) h
theorem s165_325 {σ : gS} {K : gK} {x : Int32} (hc : 0 ≤ σ 325 3 ∧ σ 325 3 ≤ 20) (hK : K (some (.int (fWho (σ 325) x))) σ) : gE 165 0 [some (.ref 325), some (.int x), none] [] σ K := by
  refine w165_325 ?_
  refine g_forI (nM (σ 325)) (fun k => [some (.ref 325), some (.int x), some (.int (iN k))]) (fun _ => σ) (fun k => ∀ j, j < k → fld (σ 325) j 0 ≠ x) (fun hi => ?_) (fun k hk hi ih => ?_) 0 (Nat.zero_le _) (fun j hj => absurd hj (Nat.not_lt_zero j))
  · have hn := (nM_of hc).2
    refine v165_325 ⟨by decide, fun _ => ?_, fun h => ?_⟩
    · have e : fWho (σ 325) x = -2 := fnd_none (fun j hj => decide_eq_false (hi j hj))
      rw [e] at hK; exact hK
    · rw [nM_lt hc (by omega)] at h; omega
  · have hn := (nM_of hc).2
    have hk20 : k < 20 := by omega
    refine v165_325 ⟨by decide, fun h => ?_, fun h => ⟨ixb0 hk20, fun h2 => ?_, fun h2 => ?_⟩⟩
    · rw [nM_lt hc (by omega)] at h; omega
    · rw [ix0 hk20] at h2
      rw [iN_one]
      refine ih (fun j hj => ?_)
      rcases Nat.lt_or_ge j k with q | q
      · exact hi j q
      · have : j = k := by omega
        subst this; exact h2
    · rw [ix0 hk20] at h2
      have e : fWho (σ 325) x = iN k := fnd_some (decide_eq_true h2) (fun j hj => decide_eq_false (hi j hj)) (by omega) hk
      rw [e] at hK; exact hK
set_option maxRecDepth 20000 in
theorem w165_326 {σ : gS} {K : gK} {x : Int32} (h : gE 165 2 [some (.ref 326), some (.int x), some (.int 0)] [] σ K) : gE 165 0 [some (.ref 326), some (.int x), none] [] σ K :=
  gw_run (cy := 165) (cuts := [2]) (inl := []) (pf := gpfA) gpfA_ok 400 (by decide) h
set_option maxRecDepth 20000 in
theorem v165_326 {σ : gS} {K : gK} {x t : Int32} (h : (0 ≤ (3 : Int32) ∧ (3 : Int32) < 330) ∧ ((¬ t < (σ 326 3) → K (some (.int (-2))) σ) ∧ (t < (σ 326 3) → (0 ≤ (9 + 10 * t + (0 : Int32)) ∧ (9 + 10 * t + (0 : Int32)) < 330) ∧ ((¬ (σ 326 (9 + 10 * t + (0 : Int32)).toNatClampNeg) = x → gE 165 2 [some (.ref 326), some (.int x), some (.int (t + 1))] [] σ K) ∧ ((σ 326 (9 + 10 * t + (0 : Int32)).toNatClampNeg) = x → K (some (.int t)) σ))))) : gE 165 2 [some (.ref 326), some (.int x), some (.int t)] [] σ K :=
  gw_run (cy := 165) (cuts := [2]) (inl := []) (pf := gpfA) gpfA_ok 400 (by decide) h
theorem s165_326 {σ : gS} {K : gK} {x : Int32} (hc : 0 ≤ σ 326 3 ∧ σ 326 3 ≤ 20) (hK : K (some (.int (fWho (σ 326) x))) σ) : gE 165 0 [some (.ref 326), some (.int x), none] [] σ K := by
  refine w165_326 ?_
  refine g_forI (nM (σ 326)) (fun k => [some (.ref 326), some (.int x), some (.int (iN k))]) (fun _ => σ) (fun k => ∀ j, j < k → fld (σ 326) j 0 ≠ x) (fun hi => ?_) (fun k hk hi ih => ?_) 0 (Nat.zero_le _) (fun j hj => absurd hj (Nat.not_lt_zero j))
  · have hn := (nM_of hc).2
    refine v165_326 ⟨by decide, fun _ => ?_, fun h => ?_⟩
    · have e : fWho (σ 326) x = -2 := fnd_none (fun j hj => decide_eq_false (hi j hj))
      rw [e] at hK; exact hK
    · rw [nM_lt hc (by omega)] at h; omega
  · have hn := (nM_of hc).2
    have hk20 : k < 20 := by omega
    refine v165_326 ⟨by decide, fun h => ?_, fun h => ⟨ixb0 hk20, fun h2 => ?_, fun h2 => ?_⟩⟩
    · rw [nM_lt hc (by omega)] at h; omega
    · rw [ix0 hk20] at h2
      rw [iN_one]
      refine ih (fun j hj => ?_)
      rcases Nat.lt_or_ge j k with q | q
      · exact hi j q
      · have : j = k := by omega
        subst this; exact h2
    · rw [ix0 hk20] at h2
      have e : fWho (σ 326) x = iN k := fnd_some (decide_eq_true h2) (fun j hj => decide_eq_false (hi j hj)) (by omega) hk
      rw [e] at hK; exact hK
noncomputable def f165 : gD := fun Lv σ => match Lv with
  | [some (.ref p), some (.int x), none] => cond (Nat.beq p 324 || Nat.beq p 325 || Nat.beq p 326) (some (some (0 ≤ σ p 3 ∧ σ p 3 ≤ 20), some (.int (fWho (σ p) x)), σ)) none
  | _ => none
theorem ok165 : gFok 165 f165 := by
  intro Lv σ q h hc K hK
  unfold f165 at h
  split at h
  · rename_i p x
    obtain ⟨hb, h⟩ := c_no h
    have hb0 := hb
    rcases s_or hb0 with hb0 | hb0
    · rcases s_or hb0 with hb0 | hb0
      · have e := b_eq hb0
        subst e
        cases h
        exact s165_324 (hc _ rfl) hK
      · have e := b_eq hb0
        subst e
        cases h
        exact s165_325 (hc _ rfl) hK
    · have e := b_eq hb0
      subst e
      cases h
      exact s165_326 (hc _ rfl) hK
  · cases h
def kinP (R : gW) (t : Nat) (b : Int32) (o : Nat) : Bool := decide (o ≠ t ∧ 0 < fld R t 2 ∧ fld R o 2 = fld R t 2 ∧ fld R o 0 / 8 = b)
def kin (R : gW) (t : Nat) (b : Int32) : Int32 := iN (cnt (kinP R t b) (nM R))
set_option maxRecDepth 20000 in
theorem w168_324 {σ : gS} {K : gK} {t b : Int32} (h : (0 ≤ (9 + 10 * t + (2 : Int32)) ∧ (9 + 10 * t + (2 : Int32)) < 330) ∧ gE 168 14 [some (.ref 324), some (.int t), some (.int b), some (.int 0), some (.int (σ 324 (9 + 10 * t + (2 : Int32)).toNatClampNeg)), some (.int 0)] [] σ K) : gE 168 0 [some (.ref 324), some (.int t), some (.int b), none, none, none] [] σ K :=
  gw_run (cy := 168) (cuts := [14]) (inl := []) (pf := gpfA) gpfA_ok 400 (by decide) h
set_option maxRecDepth 20000 in
theorem v168_324 {σ : gS} {K : gK} {t b n m o : Int32} (h : (0 ≤ (3 : Int32) ∧ (3 : Int32) < 330) ∧ ((¬ o < (σ 324 3) → K (some (.int n)) σ) ∧ (o < (σ 324 3) → ((o = t → gE 168 14 [some (.ref 324), some (.int t), some (.int b), some (.int n), some (.int m), some (.int (o + 1))] [] σ K) ∧ (¬ o = t → ((¬ 0 < m → gE 168 14 [some (.ref 324), some (.int t), some (.int b), some (.int n), some (.int m), some (.int (o + 1))] [] σ K) ∧ (0 < m → (0 ≤ (9 + 10 * o + (2 : Int32)) ∧ (9 + 10 * o + (2 : Int32)) < 330) ∧ ((¬ (σ 324 (9 + 10 * o + (2 : Int32)).toNatClampNeg) = m → gE 168 14 [some (.ref 324), some (.int t), some (.int b), some (.int n), some (.int m), some (.int (o + 1))] [] σ K) ∧ ((σ 324 (9 + 10 * o + (2 : Int32)).toNatClampNeg) = m → (0 ≤ (9 + 10 * o + (0 : Int32)) ∧ (9 + 10 * o + (0 : Int32)) < 330) ∧ ((¬ ((σ 324 (9 + 10 * o + (0 : Int32)).toNatClampNeg) / 8) = b → gE 168 14 [some (.ref 324), some (.int t), some (.int b), some (.int n), some (.int m), some (.int (o + 1))] [] σ K) ∧ (((σ 324 (9 + 10 * o + (0 : Int32)).toNatClampNeg) / 8) = b → gE 168 14 [some (.ref 324), some (.int t), some (.int b), some (.int (n + 1)), some (.int m), some (.int (o + 1))] [] σ K))))))))))) : gE 168 14 [some (.ref 324), some (.int t), some (.int b), some (.int n), some (.int m), some (.int o)] [] σ K :=
  gw_run (cy := 168) (cuts := [14]) (inl := []) (pf := gpfA) gpfA_ok 400 (by decide) h
theorem s168_324 {σ : gS} {K : gK} {t b : Int32} (hc : (0 ≤ t ∧ t < 20) ∧ 0 ≤ σ 324 3 ∧ σ 324 3 ≤ 20) (hK : K (some (.int (kin (σ 324) t.toNatClampNeg b))) σ) : gE 168 0 [some (.ref 324), some (.int t), some (.int b), none, none, none] [] σ K := by
  obtain ⟨ht, hc⟩ := hc
  obtain ⟨e1, e2⟩ := t20 ht
  obtain ⟨m, hm⟩ : ∃ m, t.toNatClampNeg = m := ⟨_, rfl⟩
  rw [hm] at e1 e2 hK
  subst e1
  refine w168_324 ⟨ixb2 e2, ?_⟩
  rw [ix2 e2]
  refine g_forI (nM (σ 324)) (fun k => [some (.ref 324), some (.int (iN m)), some (.int b), some (.int (iN (cnt (kinP (σ 324) m b) k))), some (.int (fld (σ 324) m 2)), some (.int (iN k))]) (fun _ => σ) (fun _ => True) (fun _ => ?_) (fun k hk _ ih => ?_) 0 (Nat.zero_le _) trivial
  · have hn := (nM_of hc).2
    refine v168_324 ⟨by decide, fun _ => hK, fun h => ?_⟩
    rw [nM_lt hc (by omega)] at h; omega
  · have hn := (nM_of hc).2
    have hk20 : k < 20 := by omega
    have no : kinP (σ 324) m b k = false → gE 168 14 [some (.ref 324), some (.int (iN m)), some (.int b), some (.int (iN (cnt (kinP (σ 324) m b) k))), some (.int (fld (σ 324) m 2)), some (.int (iN k + 1))] [] σ K := by
      intro q
      have ih := ih trivial
      rw [cnt_f (by rw [q]; decide)] at ih
      rw [iN_one]
      exact ih
    refine v168_324 ⟨by decide, fun h => ?_, fun _ => ⟨fun h => no (decide_eq_false (fun e => ?_)), fun h => ⟨fun h2 => no (decide_eq_false (fun e => h2 e.2.1)), fun h2 => ⟨ixb2 hk20, fun h3 => no (decide_eq_false (fun e => ?_)), fun h3 => ⟨ixb0 hk20, fun h4 => no (decide_eq_false (fun e => ?_)), fun h4 => ?_⟩⟩⟩⟩⟩
    · rw [nM_lt hc (by omega)] at h; omega
    · exact e.1 ((iN_inj (by omega) (by omega)).mp h)
    · rw [ix2 hk20] at h3; exact h3 e.2.2.1
    · rw [ix0 hk20] at h4; exact h4 e.2.2.2
    · rw [ix2 hk20] at h3
      rw [ix0 hk20] at h4
      have ih := ih trivial
      rw [cnt_t (decide_eq_true ⟨fun e => h (by rw [e]), h2, h3, h4⟩)] at ih
      rw [iN_one, iN_one]
      exact ih
set_option maxRecDepth 20000 in
theorem w168_325 {σ : gS} {K : gK} {t b : Int32} (h : (0 ≤ (9 + 10 * t + (2 : Int32)) ∧ (9 + 10 * t + (2 : Int32)) < 330) ∧ gE 168 14 [some (.ref 325), some (.int t), some (.int b), some (.int 0), some (.int (σ 325 (9 + 10 * t + (2 : Int32)).toNatClampNeg)), some (.int 0)] [] σ K) : gE 168 0 [some (.ref 325), some (.int t), some (.int b), none, none, none] [] σ K :=
  gw_run (cy := 168) (cuts := [14]) (inl := []) (pf := gpfA) gpfA_ok 400 (by decide) h
set_option maxRecDepth 20000 in
theorem v168_325 {σ : gS} {K : gK} {t b n m o : Int32} (h : (0 ≤ (3 : Int32) ∧ (3 : Int32) < 330) ∧ ((¬ o < (σ 325 3) → K (some (.int n)) σ) ∧ (o < (σ 325 3) → ((o = t → gE 168 14 [some (.ref 325), some (.int t), some (.int b), some (.int n), some (.int m), some (.int (o + 1))] [] σ K) ∧ (¬ o = t → ((¬ 0 < m → gE 168 14 [some (.ref 325), some (.int t), some (.int b), some (.int n), some (.int m), some (.int (o + 1))] [] σ K) ∧ (0 < m → (0 ≤ (9 + 10 * o + (2 : Int32)) ∧ (9 + 10 * o + (2 : Int32)) < 330) ∧ ((¬ (σ 325 (9 + 10 * o + (2 : Int32)).toNatClampNeg) = m → gE 168 14 [some (.ref 325), some (.int t), some (.int b), some (.int n), some (.int m), some (.int (o + 1))] [] σ K) ∧ ((σ 325 (9 + 10 * o + (2 : Int32)).toNatClampNeg) = m → (0 ≤ (9 + 10 * o + (0 : Int32)) ∧ (9 + 10 * o + (0 : Int32)) < 330) ∧ ((¬ ((σ 325 (9 + 10 * o + (0 : Int32)).toNatClampNeg) / 8) = b → gE 168 14 [some (.ref 325), some (.int t), some (.int b), some (.int n), some (.int m), some (.int (o + 1))] [] σ K) ∧ (((σ 325 (9 + 10 * o + (0 : Int32)).toNatClampNeg) / 8) = b → gE 168 14 [some (.ref 325), some (.int t), some (.int b), some (.int (n + 1)), some (.int m), some (.int (o + 1))] [] σ K))))))))))) : gE 168 14 [some (.ref 325), some (.int t), some (.int b), some (.int n), some (.int m), some (.int o)] [] σ K :=
  gw_run (cy := 168) (cuts := [14]) (inl := []) (pf := gpfA) gpfA_ok 400 (by decide) h
theorem s168_325 {σ : gS} {K : gK} {t b : Int32} (hc : (0 ≤ t ∧ t < 20) ∧ 0 ≤ σ 325 3 ∧ σ 325 3 ≤ 20) (hK : K (some (.int (kin (σ 325) t.toNatClampNeg b))) σ) : gE 168 0 [some (.ref 325), some (.int t), some (.int b), none, none, none] [] σ K := by
  obtain ⟨ht, hc⟩ := hc
  obtain ⟨e1, e2⟩ := t20 ht
  obtain ⟨m, hm⟩ : ∃ m, t.toNatClampNeg = m := ⟨_, rfl⟩
  rw [hm] at e1 e2 hK
  subst e1
  refine w168_325 ⟨ixb2 e2, ?_⟩
  rw [ix2 e2]
  refine g_forI (nM (σ 325)) (fun k => [some (.ref 325), some (.int (iN m)), some (.int b), some (.int (iN (cnt (kinP (σ 325) m b) k))), some (.int (fld (σ 325) m 2)), some (.int (iN k))]) (fun _ => σ) (fun _ => True) (fun _ => ?_) (fun k hk _ ih => ?_) 0 (Nat.zero_le _) trivial
  · have hn := (nM_of hc).2
    refine v168_325 ⟨by decide, fun _ => hK, fun h => ?_⟩
    rw [nM_lt hc (by omega)] at h; omega
  · have hn := (nM_of hc).2
    have hk20 : k < 20 := by omega
    have no : kinP (σ 325) m b k = false → gE 168 14 [some (.ref 325), some (.int (iN m)), some (.int b), some (.int (iN (cnt (kinP (σ 325) m b) k))), some (.int (fld (σ 325) m 2)), some (.int (iN k + 1))] [] σ K := by
      intro q
      have ih := ih trivial
      rw [cnt_f (by rw [q]; decide)] at ih
      rw [iN_one]
      exact ih
    refine v168_325 ⟨by decide, fun h => ?_, fun _ => ⟨fun h => no (decide_eq_false (fun e => ?_)), fun h => ⟨fun h2 => no (decide_eq_false (fun e => h2 e.2.1)), fun h2 => ⟨ixb2 hk20, fun h3 => no (decide_eq_false (fun e => ?_)), fun h3 => ⟨ixb0 hk20, fun h4 => no (decide_eq_false (fun e => ?_)), fun h4 => ?_⟩⟩⟩⟩⟩
    · rw [nM_lt hc (by omega)] at h; omega
    · exact e.1 ((iN_inj (by omega) (by omega)).mp h)
    · rw [ix2 hk20] at h3; exact h3 e.2.2.1
    · rw [ix0 hk20] at h4; exact h4 e.2.2.2
    · rw [ix2 hk20] at h3
      rw [ix0 hk20] at h4
      have ih := ih trivial
      rw [cnt_t (decide_eq_true ⟨fun e => h (by rw [e]), h2, h3, h4⟩)] at ih
      rw [iN_one, iN_one]
      exact ih
set_option maxRecDepth 20000 in
theorem w168_326 {σ : gS} {K : gK} {t b : Int32} (h : (0 ≤ (9 + 10 * t + (2 : Int32)) ∧ (9 + 10 * t + (2 : Int32)) < 330) ∧ gE 168 14 [some (.ref 326), some (.int t), some (.int b), some (.int 0), some (.int (σ 326 (9 + 10 * t + (2 : Int32)).toNatClampNeg)), some (.int 0)] [] σ K) : gE 168 0 [some (.ref 326), some (.int t), some (.int b), none, none, none] [] σ K :=
  gw_run (cy := 168) (cuts := [14]) (inl := []) (pf := gpfA) gpfA_ok 400 (by decide) h
set_option maxRecDepth 20000 in
theorem v168_326 {σ : gS} {K : gK} {t b n m o : Int32} (h : (0 ≤ (3 : Int32) ∧ (3 : Int32) < 330) ∧ ((¬ o < (σ 326 3) → K (some (.int n)) σ) ∧ (o < (σ 326 3) → ((o = t → gE 168 14 [some (.ref 326), some (.int t), some (.int b), some (.int n), some (.int m), some (.int (o + 1))] [] σ K) ∧ (¬ o = t → ((¬ 0 < m → gE 168 14 [some (.ref 326), some (.int t), some (.int b), some (.int n), some (.int m), some (.int (o + 1))] [] σ K) ∧ (0 < m → (0 ≤ (9 + 10 * o + (2 : Int32)) ∧ (9 + 10 * o + (2 : Int32)) < 330) ∧ ((¬ (σ 326 (9 + 10 * o + (2 : Int32)).toNatClampNeg) = m → gE 168 14 [some (.ref 326), some (.int t), some (.int b), some (.int n), some (.int m), some (.int (o + 1))] [] σ K) ∧ ((σ 326 (9 + 10 * o + (2 : Int32)).toNatClampNeg) = m → (0 ≤ (9 + 10 * o + (0 : Int32)) ∧ (9 + 10 * o + (0 : Int32)) < 330) ∧ ((¬ ((σ 326 (9 + 10 * o + (0 : Int32)).toNatClampNeg) / 8) = b → gE 168 14 [some (.ref 326), some (.int t), some (.int b), some (.int n), some (.int m), some (.int (o + 1))] [] σ K) ∧ (((σ 326 (9 + 10 * o + (0 : Int32)).toNatClampNeg) / 8) = b → gE 168 14 [some (.ref 326), some (.int t), some (.int b), some (.int (n + 1)), some (.int m), some (.int (o + 1))] [] σ K))))))))))) : gE 168 14 [some (.ref 326), some (.int t), some (.int b), some (.int n), some (.int m), some (.int o)] [] σ K :=
  gw_run (cy := 168) (cuts := [14]) (inl := []) (pf := gpfA) gpfA_ok 400 (by decide) h
theorem s168_326 {σ : gS} {K : gK} {t b : Int32} (hc : (0 ≤ t ∧ t < 20) ∧ 0 ≤ σ 326 3 ∧ σ 326 3 ≤ 20) (hK : K (some (.int (kin (σ 326) t.toNatClampNeg b))) σ) : gE 168 0 [some (.ref 326), some (.int t), some (.int b), none, none, none] [] σ K := by
  obtain ⟨ht, hc⟩ := hc
  obtain ⟨e1, e2⟩ := t20 ht
  obtain ⟨m, hm⟩ : ∃ m, t.toNatClampNeg = m := ⟨_, rfl⟩
  rw [hm] at e1 e2 hK
  subst e1
  refine w168_326 ⟨ixb2 e2, ?_⟩
  rw [ix2 e2]
  refine g_forI (nM (σ 326)) (fun k => [some (.ref 326), some (.int (iN m)), some (.int b), some (.int (iN (cnt (kinP (σ 326) m b) k))), some (.int (fld (σ 326) m 2)), some (.int (iN k))]) (fun _ => σ) (fun _ => True) (fun _ => ?_) (fun k hk _ ih => ?_) 0 (Nat.zero_le _) trivial
  · have hn := (nM_of hc).2
    refine v168_326 ⟨by decide, fun _ => hK, fun h => ?_⟩
    rw [nM_lt hc (by omega)] at h; omega
  · have hn := (nM_of hc).2
    have hk20 : k < 20 := by omega
    have no : kinP (σ 326) m b k = false → gE 168 14 [some (.ref 326), some (.int (iN m)), some (.int b), some (.int (iN (cnt (kinP (σ 326) m b) k))), some (.int (fld (σ 326) m 2)), some (.int (iN k + 1))] [] σ K := by
      intro q
      have ih := ih trivial
      rw [cnt_f (by rw [q]; decide)] at ih
      rw [iN_one]
      exact ih
    refine v168_326 ⟨by decide, fun h => ?_, fun _ => ⟨fun h => no (decide_eq_false (fun e => ?_)), fun h => ⟨fun h2 => no (decide_eq_false (fun e => h2 e.2.1)), fun h2 => ⟨ixb2 hk20, fun h3 => no (decide_eq_false (fun e => ?_)), fun h3 => ⟨ixb0 hk20, fun h4 => no (decide_eq_false (fun e => ?_)), fun h4 => ?_⟩⟩⟩⟩⟩
    · rw [nM_lt hc (by omega)] at h; omega
    · exact e.1 ((iN_inj (by omega) (by omega)).mp h)
    · rw [ix2 hk20] at h3; exact h3 e.2.2.1
    · rw [ix0 hk20] at h4; exact h4 e.2.2.2
    · rw [ix2 hk20] at h3
      rw [ix0 hk20] at h4
      have ih := ih trivial
      rw [cnt_t (decide_eq_true ⟨fun e => h (by rw [e]), h2, h3, h4⟩)] at ih
      rw [iN_one, iN_one]
      exact ih
noncomputable def f168 : gD := fun Lv σ => match Lv with
  | [some (.ref p), some (.int t), some (.int b), none, none, none] => cond (Nat.beq p 324 || Nat.beq p 325 || Nat.beq p 326) (some (some ((0 ≤ t ∧ t < 20) ∧ 0 ≤ σ p 3 ∧ σ p 3 ≤ 20), some (.int (kin (σ p) t.toNatClampNeg b)), σ)) none
  | _ => none
theorem ok168 : gFok 168 f168 := by
  intro Lv σ q h hc K hK
  unfold f168 at h
  split at h
  · rename_i p t b
    obtain ⟨hb, h⟩ := c_no h
    have hb0 := hb
    rcases s_or hb0 with hb0 | hb0
    · rcases s_or hb0 with hb0 | hb0
      · have e := b_eq hb0
        subst e
        cases h
        exact s168_324 (hc _ rfl) hK
      · have e := b_eq hb0
        subst e
        cases h
        exact s168_325 (hc _ rfl) hK
    · have e := b_eq hb0
      subst e
      cases h
      exact s168_326 (hc _ rfl) hK
  · cases h
