-- text 9
/-! THE REFERENCE: what asks a row of numbers -/
theorem nM_lt {R : gW} {k : Nat} (hc : 0 ≤ R 3 ∧ R 3 ≤ 20) (hk : k < 2147483648) : iN k < R 3 ↔ k < nM R := by
  obtain ⟨h1, h2⟩ := nM_of hc
  have e : iN k < R 3 ↔ iN k < iN (nM R) := by rw [← h1]
  rw [e, iN_lt hk (by omega)]
theorem t20 {t : Int32} (h : 0 ≤ t ∧ t < 20) : t = iN t.toNatClampNeg ∧ t.toNatClampNeg < 20 := by
  obtain ⟨h1, h2⟩ := iN_of h.1
  refine ⟨h1, ?_⟩
  have h3 : iN t.toNatClampNeg < iN 20 := by rw [← h1]; exact h.2
  exact (iN_lt h2 (by decide)).mp h3
set_option maxRecDepth 20000 in
theorem w165_324 {σ : gS} {K : gK} {x : Int32} (h : gE 165 2 [some (.ref 324), some (.int x), some (.int 0)] [] σ K) : gE 165 0 [some (.ref 324), some (.int x), none] [] σ K :=
  gw_run (cy := 165) (cuts := [2]) (inl := []) (pf := gpfA) gpfA_ok 400 (by decide) h
set_option maxRecDepth 20000 in
theorem v165_324 {σ : gS} {K : gK} {x t : Int32} (h : (0 ≤ (3 : Int32) ∧ (3 : Int32) < 330) ∧ ((¬ t < (σ 324 3) → K (some (.int (-2))) σ) ∧ (t < (σ 324 3) → (0 ≤ (9 + 10 * t + (0 : Int32)) ∧ (9 + 10 * t + (0 : Int32)) < 330) ∧ ((¬ (σ 324 (9 + 10 * t + (0 : Int32)).toNatClampNeg) = x → gE 165 2 [some (.ref 324), some (.int x), some (.int (t + 1))] [] σ K) ∧ ((σ 324 (9 + 10 * t + (0 : Int32)).toNatClampNeg) = x → K (some (.int t)) σ))))) : gE 165 2 [some (.ref 324), some (.int x), some (.int t)] [] σ K :=
  gw_run (cy := 165) (cuts := [2]) (inl := []) (pf := gpfA) gpfA_ok 400 (by decide) h
theorem s165_324 {σ : gS} {K : gK} {x : Int32} (hc : 0 ≤ σ 324 3 ∧ σ 324 3 ≤ 20) (hK : K (some (.int (fWho (σ 324) x))) σ) : gE 165 0 [some (.ref 324), some (.int x), none] [] σ K := by
  refine w165_324 ?_
  refine g_forI (nM (σ 324)) (fun k => [some (.ref 324), some (.int x), some (.int (iN k))]) (fun _ => σ) (fun k => ∀ j, j < k → fld (σ 324) j 0 ≠ x) (fun hi => ?_) (fun k hk hi ih => ?_) 0 (Nat.zero_le _) (fun j hj => absurd hj (Nat.not_lt_zero j))
  · have hn := (nM_of hc).2
    refine v165_324 ⟨by decide, fun _ => ?_, fun h => ?_⟩
    · have e : fWho (σ 324) x = -2 := fnd_none (fun j hj => decide_eq_false (hi j hj))
      rw [e] at hK; exact hK
    · rw [nM_lt hc (by omega)] at h; omega
  · have hn := (nM_of hc).2
    have hk20 : k < 20 := by omega
    refine v165_324 ⟨by decide, fun h => ?_, fun h => ⟨ixb0 hk20, fun h2 => ?_, fun h2 => ?_⟩⟩
    · rw [nM_lt hc (by omega)] at h; omega
    · rw [ix0 hk20] at h2
      rw [iN_one]
      refine ih (fun j hj => ?_)
      rcases Nat.lt_or_ge j k with q | q
      · exact hi j q
      · have : j = k := by omega
        subst this; exact h2
    · rw [ix0 hk20] at h2
      have e : fWho (σ 324) x = iN k := fnd_some (decide_eq_true h2) (fun j hj => decide_eq_false (hi j hj)) (by omega) hk
      rw [e] at hK; exact hK
set_option maxRecDepth 20000 in
theorem w165_325 {σ : gS} {K : gK} {x : Int32} (h : gE 165 2 [some (.ref 325), some (.int x), some (.int 0)] [] σ K) : gE 165 0 [some (.ref 325), some (.int x), none] [] σ K :=
  gw_run (cy := 165) (cuts := [2]) (inl := []) (pf := gpfA) gpfA_ok 400 (by decide) h
set_option maxRecDepth 20000 in
theorem v165_325 {σ : gS} {K : gK} {x t : Int32} (h : (0 ≤ (3 : Int32) ∧ (3 : Int32) < 330) ∧ ((¬ t < (σ 325 3) → K (some (.int (-2))) σ) ∧ (t < (σ 325 3) → (0 ≤ (9 + 10 * t + (0 : Int32)) ∧ (9 + 10 * t + (0 : Int32)) < 330) ∧ ((¬ (σ 325 (9 + 10 * t + (0 : Int32)).toNatClampNeg) = x → gE 165 2 [some (.ref 325), some (.int x), some (.int (t + 1))] [] σ K) ∧ ((σ 325 (9 + 10 * t + (0 : Int32)).toNatClampNeg) = x → K (some (.int t)) σ))))) : gE 165 2 [some (.ref 325), some (.int x), some (.int t)] [] σ K :=
  gw_run (cy := 165) (cuts := [2]) (inl := []) (pf := gpfA) gpfA_ok 400 (by decide) h
theorem s165_325 {σ : gS} {K : gK} {x : Int32} (hc : 0 ≤ σ 325 3 ∧ σ 325 3 ≤ 20) (hK : K (some (.int (fWho (σ 325) x))) σ) : gE 165 0 [some (.ref 325), some (.int x), none] [] σ K := by
  refine w165_325 ?_
  refine g_forI (nM (σ 325)) (fun k => [some (.ref 325), some (.int x), some (.int (iN k))]) (fun _ => σ) (fun k => ∀ j, j < k → fld (σ 325) j 0 ≠ x) (fun hi => ?_) (fun k hk hi ih => ?_) 0 (Nat.zero_le _) (fun j hj => absurd hj (Nat.not_lt_zero j))
  · have hn := (nM_of hc).2
    refine v165_325 ⟨by decide, fun _ => ?_, fun h => ?_⟩
    · have e : fWho (σ 325) x = -2 := fnd_none (fun j hj => decide_eq_false (hi j hj))
      rw [e] at hK; exact hK
    · rw [nM_lt hc (by omega)] at h; omega
  · have hn := (nM_of hc).2
    have hk20 : k < 20 := by omega
    refine v165_325 ⟨by decide, fun h => ?_, fun h => ⟨ixb0 hk20, fun h2 => ?_, fun h2 => ?_⟩⟩
    · rw [nM_lt hc (by omega)] at h; omega
    · rw [ix0 hk20] at h2
      rw [iN_one]
      refine ih (fun j hj => ?_)
      rcases Nat.lt_or_ge j k with q | q
      · exact hi j q
      · have : j = k := by omega
        subst this; exact h2
    · rw [ix0 hk20] at h2
      have e : fWho (σ 325) x = iN k := fnd_some (decide_eq_true h2) (fun j hj => decide_eq_false (hi j hj)) (by omega) hk
      rw [e] at hK; exact hK
set_option maxRecDepth 20000 in
theorem w165_326 {σ : gS} {K : gK} {x : Int32} (h : gE 165 2 [some (.ref 326), some (.int x), some (.int 0)] [] σ K) : gE 165 0 [some (.ref 326), some (.int x), none] [] σ K :=
  gw_run (cy := 165) (cuts := [2]) (inl := []) (pf := gpfA) gpfA_ok 400 (by decide) h
set_option maxRecDepth 20000 in
theorem v165_326 {σ : gS} {K : gK} {x t : Int32} (h : (0 ≤ (3 : Int32) ∧ (3 : Int32) < 330) ∧ ((¬ t < (σ 326 3) → K (some (.int (-2))) σ) ∧ (t < (σ 326 3) → (0 ≤ (9 + 10 * t + (0 : Int32)) ∧ (9 + 10 * t + (0 : Int32)) < 330) ∧ ((¬ (σ 326 (9 + 10 * t + (0 : Int32)).toNatClampNeg) = x → gE 165 2 [some (.ref 326), some (.int x), some (.int (t + 1))] [] σ K) ∧ ((σ 326 (9 + 10 * t + (0 : Int32)).toNatClampNeg) = x → K (some (.int t)) σ))))) : gE 165 2 [some (.ref 326), some (.int x), some (.int t)] [] σ K :=
  gw_run (cy := 165) (cuts := [2]) (inl := []) (pf := gpfA) gpfA_ok 400 (by decide) h
theorem s165_326 {σ : gS} {K : gK} {x : Int32} (hc : 0 ≤ σ 326 3 ∧ σ 326 3 ≤ 20) (hK : K (some (.int (fWho (σ 326) x))) σ) : gE 165 0 [some (.ref 326), some (.int x), none] [] σ K := by
  refine w165_326 ?_
  refine g_forI (nM (σ 326)) (fun k => [some (.ref 326), some (.int x), some (.int (iN k))]) (fun _ => σ) (fun k => ∀ j, j < k → fld (σ 326) j 0 ≠ x) (fun hi => ?_) (fun k hk hi ih => ?_) 0 (Nat.zero_le _) (fun j hj => absurd hj (Nat.not_lt_zero j))
  · have hn := (nM_of hc).2
    refine v165_326 ⟨by decide, fun _ => ?_, fun h => ?_⟩
    · have e : fWho (σ 326) x = -2 := fnd_none (fun j hj => decide_eq_false (hi j hj))
      rw [e] at hK; exact hK
    · rw [nM_lt hc (by omega)] at h; omega
  · have hn := (nM_of hc).2
    have hk20 : k < 20 := by omega
    refine v165_326 ⟨by decide, fun h => ?_, fun h => ⟨ixb0 hk20, fun h2 => ?_, fun h2 => ?_⟩⟩
    · rw [nM_lt hc (by omega)] at h; omega
    · rw [ix0 hk20] at h2
      rw [iN_one]
      refine ih (fun j hj => ?_)
      rcases Nat.lt_or_ge j k with q | q
      · exact hi j q
      · have : j = k := by omega
        subst this; exact h2
    · rw [ix0 hk20] at h2
      have e : fWho (σ 326) x = iN k := fnd_some (decide_eq_true h2) (fun j hj => decide_eq_false (hi j hj)) (by omega) hk
      rw [e] at hK; exact hK
noncomputable def f165 : gD := fun Lv σ => match Lv with
  | [some (.ref p), some (.int x), none] => cond (Nat.beq p 324 || Nat.beq p 325 || Nat.beq p 326) (some (some (0 ≤ σ p 3 ∧ σ p 3 ≤ 20), some (.int (fWho (σ p) x)), σ)) none
  | _ => none
theorem ok165 : gFok 165 f165 := by
  intro Lv σ q h hc K hK
  unfold f165 at h
  split at h
  · rename_i p x
    obtain ⟨hb, h⟩ := c_no h
    have hb0 := hb
    rcases s_or hb0 with hb0 | hb0
    · rcases s_or hb0 with hb0 | hb0
      · have e := b_eq hb0
        subst e
        cases h
        exact s165_324 (hc _ rfl) hK
      · have e := b_eq hb0
        subst e
        cases h
        exact s165_325 (hc _ rfl) hK
    · have e := b_eq hb0
      subst e
      cases h
      exact s165_326 (hc _ rfl) hK
  · cases h
def kinP (R : gW) (t : Nat) (b : Int32) (o : Nat) : Bool := decide (o ≠ t ∧ 0 < fld R t 2 ∧ fld R o 2 = fld R t 2 ∧ fld R o 0 / 8 = b)
def kin (R : gW) (t : Nat) (b : Int32) : Int32 := iN (cnt (kinP R t b) (nM R))
set_option maxRecDepth 20000 in
theorem w168_324 {σ : gS} {K : gK} {t b : Int32} (h : (0 ≤ (9 + 10 * t + (2 : Int32)) ∧ (9 + 10 * t + (2 : Int32)) < 330) ∧ gE 168 14 [some (.ref 324), some (.int t), some (.int b), some (.int 0), some (.int (σ 324 (9 + 10 * t + (2 : Int32)).toNatClampNeg)), some (.int 0)] [] σ K) : gE 168 0 [some (.ref 324), some (.int t), some (.int b), none, none, none] [] σ K :=
  gw_run (cy := 168) (cuts := [14]) (inl := []) (pf := gpfA) gpfA_ok 400 (by decide) h
set_option maxRecDepth 20000 in
theorem v168_324 {σ : gS} {K : gK} {t b n m o : Int32} (h : (0 ≤ (3 : Int32) ∧ (3 : Int32) < 330) ∧ ((¬ o < (σ 324 3) → K (some (.int n)) σ) ∧ (o < (σ 324 3) → ((o = t → gE 168 14 [some (.ref 324), some (.int t), some (.int b), some (.int n), some (.int m), some (.int (o + 1))] [] σ K) ∧ (¬ o = t → ((¬ 0 < m → gE 168 14 [some (.ref 324), some (.int t), some (.int b), some (.int n), some (.int m), some (.int (o + 1))] [] σ K) ∧ (0 < m → (0 ≤ (9 + 10 * o + (2 : Int32)) ∧ (9 + 10 * o + (2 : Int32)) < 330) ∧ ((¬ (σ 324 (9 + 10 * o + (2 : Int32)).toNatClampNeg) = m → gE 168 14 [some (.ref 324), some (.int t), some (.int b), some (.int n), some (.int m), some (.int (o + 1))] [] σ K) ∧ ((σ 324 (9 + 10 * o + (2 : Int32)).toNatClampNeg) = m → (0 ≤ (9 + 10 * o + (0 : Int32)) ∧ (9 + 10 * o + (0 : Int32)) < 330) ∧ ((¬ ((σ 324 (9 + 10 * o + (0 : Int32)).toNatClampNeg) / 8) = b → gE 168 14 [some (.ref 324), some (.int t), some (.int b), some (.int n), some (.int m), some (.int (o + 1))] [] σ K) ∧ (((σ 324 (9 + 10 * o + (0 : Int32)).toNatClampNeg) / 8) = b → gE 168 14 [some (.ref 324), some (.int t), some (.int b), some (.int (n + 1)), some (.int m), some (.int (o + 1))] [] σ K))))))))))) : gE 168 14 [some (.ref 324), some (.int t), some (.int b), some (.int n), some (.int m), some (.int o)] [] σ K :=
  gw_run (cy := 168) (cuts := [14]) (inl := []) (pf := gpfA) gpfA_ok 400 (by decide) h
theorem s168_324 {σ : gS} {K : gK} {t b : Int32} (hc : (0 ≤ t ∧ t < 20) ∧ 0 ≤ σ 324 3 ∧ σ 324 3 ≤ 20) (hK : K (some (.int (kin (σ 324) t.toNatClampNeg b))) σ) : gE 168 0 [some (.ref 324), some (.int t), some (.int b), none, none, none] [] σ K := by
  obtain ⟨ht, hc⟩ := hc
  obtain ⟨e1, e2⟩ := t20 ht
  obtain ⟨m, hm⟩ : ∃ m, t.toNatClampNeg = m := ⟨_, rfl⟩
  rw [hm] at e1 e2 hK
  subst e1
  refine w168_324 ⟨ixb2 e2, ?_⟩
  rw [ix2 e2]
  refine g_forI (nM (σ 324)) (fun k => [some (.ref 324), some (.int (iN m)), some (.int b), some (.int (iN (cnt (kinP (σ 324) m b) k))), some (.int (fld (σ 324) m 2)), some (.int (iN k))]) (fun _ => σ) (fun _ => True) (fun _ => ?_) (fun k hk _ ih => ?_) 0 (Nat.zero_le _) trivial
  · have hn := (nM_of hc).2
    refine v168_324 ⟨by decide, fun _ => hK, fun h => ?_⟩
    rw [nM_lt hc (by omega)] at h; omega
  · have hn := (nM_of hc).2
    have hk20 : k < 20 := by omega
    have no : kinP (σ 324) m b k = false → gE 168 14 [some (.ref 324), some (.int (iN m)), some (.int b), some (.int (iN (cnt (kinP (σ 324) m b) k))), some (.int (fld (σ 324) m 2)), some (.int (iN k + 1))] [] σ K := by
      intro q
      have ih := ih trivial
      rw [cnt_f (by rw [q]; decide)] at ih
      rw [iN_one]
      exact ih
    refine v168_324 ⟨by decide, fun h => ?_, fun _ => ⟨fun h => no (decide_eq_false (fun e => ?_)), fun h => ⟨fun h2 => no (decide_eq_false (fun e => h2 e.2.1)), fun h2 => ⟨ixb2 hk20, fun h3 => no (decide_eq_false (fun e => ?_)), fun h3 => ⟨ixb0 hk20, fun h4 => no (decide_eq_false (fun e => ?_)), fun h4 => ?_⟩⟩⟩⟩⟩
    · rw [nM_lt hc (by omega)] at h; omega
    · exact e.1 ((iN_inj (by omega) (by omega)).mp h)
    · rw [ix2 hk20] at h3; exact h3 e.2.2.1
    · rw [ix0 hk20] at h4; exact h4 e.2.2.2
    · rw [ix2 hk20] at h3
      rw [ix0 hk20] at h4
      have ih := ih trivial
      rw [cnt_t (decide_eq_true ⟨fun e => h (by rw [e]), h2, h3, h4⟩)] at ih
      rw [iN_one, iN_one]
      exact ih
set_option maxRecDepth 20000 in
theorem w168_325 {σ : gS} {K : gK} {t b : Int32} (h : (0 ≤ (9 + 10 * t + (2 : Int32)) ∧ (9 + 10 * t + (2 : Int32)) < 330) ∧ gE 168 14 [some (.ref 325), some (.int t), some (.int b), some (.int 0), some (.int (σ 325 (9 + 10 * t + (2 : Int32)).toNatClampNeg)), some (.int 0)] [] σ K) : gE 168 0 [some (.ref 325), some (.int t), some (.int b), none, none, none] [] σ K :=
  gw_run (cy := 168) (cuts := [14]) (inl := []) (pf := gpfA) gpfA_ok 400 (by decide) h
set_option maxRecDepth 20000 in
theorem v168_325 {σ : gS} {K : gK} {t b n m o : Int32} (h : (0 ≤ (3 : Int32) ∧ (3 : Int32) < 330) ∧ ((¬ o < (σ 325 3) → K (some (.int n)) σ) ∧ (o < (σ 325 3) → ((o = t → gE 168 14 [some (.ref 325), some (.int t), some (.int b), some (.int n), some (.int m), some (.int (o + 1))] [] σ K) ∧ (¬ o = t → ((¬ 0 < m → gE 168 14 [some (.ref 325), some (.int t), some (.int b), some (.int n), some (.int m), some (.int (o + 1))] [] σ K) ∧ (0 < m → (0 ≤ (9 + 10 * o + (2 : Int32)) ∧ (9 + 10 * o + (2 : Int32)) < 330) ∧ ((¬ (σ 325 (9 + 10 * o + (2 : Int32)).toNatClampNeg) = m → gE 168 14 [some (.ref 325), some (.int t), some (.int b), some (.int n), some (.int m), some (.int (o + 1))] [] σ K) ∧ ((σ 325 (9 + 10 * o + (2 : Int32)).toNatClampNeg) = m → (0 ≤ (9 + 10 * o + (0 : Int32)) ∧ (9 + 10 * o + (0 : Int32)) < 330) ∧ ((¬ ((σ 325 (9 + 10 * o + (0 : Int32)).toNatClampNeg) / 8) = b → gE 168 14 [some (.ref 325), some (.int t), some (.int b), some (.int n), some (.int m), some (.int (o + 1))] [] σ K) ∧ (((σ 325 (9 + 10 * o + (0 : Int32)).toNatClampNeg) / 8) = b → gE 168 14 [some (.ref 325), some (.int t), some (.int b), some (.int (n + 1)), some (.int m), some (.int (o + 1))] [] σ K))))))))))) : gE 168 14 [some (.ref 325), some (.int t), some (.int b), some (.int n), some (.int m), some (.int o)] [] σ K :=
  gw_run (cy := 168) (cuts := [14]) (inl := []) (pf := gpfA) gpfA_ok 400 (by decide) h
theorem s168_325 {σ : gS} {K : gK} {t b : Int32} (hc : (0 ≤ t ∧ t < 20) ∧ 0 ≤ σ 325 3 ∧ σ 325 3 ≤ 20) (hK : K (some (.int (kin (σ 325) t.toNatClampNeg b))) σ) : gE 168 0 [some (.ref 325), some (.int t), some (.int b), none, none, none] [] σ K := by
  obtain ⟨ht, hc⟩ := hc
  obtain ⟨e1, e2⟩ := t20 ht
  obtain ⟨m, hm⟩ : ∃ m, t.toNatClampNeg = m := ⟨_, rfl⟩
  rw [hm] at e1 e2 hK
  subst e1
  refine w168_325 ⟨ixb2 e2, ?_⟩
  rw [ix2 e2]
  refine g_forI (nM (σ 325)) (fun k => [some (.ref 325), some (.int (iN m)), some (.int b), some (.int (iN (cnt (kinP (σ 325) m b) k))), some (.int (fld (σ 325) m 2)), some (.int (iN k))]) (fun _ => σ) (fun _ => True) (fun _ => ?_) (fun k hk _ ih => ?_) 0 (Nat.zero_le _) trivial
  · have hn := (nM_of hc).2
    refine v168_325 ⟨by decide, fun _ => hK, fun h => ?_⟩
    rw [nM_lt hc (by omega)] at h; omega
  · have hn := (nM_of hc).2
    have hk20 : k < 20 := by omega
    have no : kinP (σ 325) m b k = false → gE 168 14 [some (.ref 325), some (.int (iN m)), some (.int b), some (.int (iN (cnt (kinP (σ 325) m b) k))), some (.int (fld (σ 325) m 2)), some (.int (iN k + 1))] [] σ K := by
      intro q
      have ih := ih trivial
      rw [cnt_f (by rw [q]; decide)] at ih
      rw [iN_one]
      exact ih
    refine v168_325 ⟨by decide, fun h => ?_, fun _ => ⟨fun h => no (decide_eq_false (fun e => ?_)), fun h => ⟨fun h2 => no (decide_eq_false (fun e => h2 e.2.1)), fun h2 => ⟨ixb2 hk20, fun h3 => no (decide_eq_false (fun e => ?_)), fun h3 => ⟨ixb0 hk20, fun h4 => no (decide_eq_false (fun e => ?_)), fun h4 => ?_⟩⟩⟩⟩⟩
    · rw [nM_lt hc (by omega)] at h; omega
    · exact e.1 ((iN_inj (by omega) (by omega)).mp h)
    · rw [ix2 hk20] at h3; exact h3 e.2.2.1
    · rw [ix0 hk20] at h4; exact h4 e.2.2.2
    · rw [ix2 hk20] at h3
      rw [ix0 hk20] at h4
      have ih := ih trivial
      rw [cnt_t (decide_eq_true ⟨fun e => h (by rw [e]), h2, h3, h4⟩)] at ih
      rw [iN_one, iN_one]
      exact ih
set_option maxRecDepth 20000 in
theorem w168_326 {σ : gS} {K : gK} {t b : Int32} (h : (0 ≤ (9 + 10 * t + (2 : Int32)) ∧ (9 + 10 * t + (2 : Int32)) < 330) ∧ gE 168 14 [some (.ref 326), some (.int t), some (.int b), some (.int 0), some (.int (σ 326 (9 + 10 * t + (2 : Int32)).toNatClampNeg)), some (.int 0)] [] σ K) : gE 168 0 [some (.ref 326), some (.int t), some (.int b), none, none, none] [] σ K :=
  gw_run (cy := 168) (cuts := [14]) (inl := []) (pf := gpfA) gpfA_ok 400 (by decide) h
set_option maxRecDepth 20000 in
theorem v168_326 {σ : gS} {K : gK} {t b n m o : Int32} (h : (0 ≤ (3 : Int32) ∧ (3 : Int32) < 330) ∧ ((¬ o < (σ 326 3) → K (some (.int n)) σ) ∧ (o < (σ 326 3) → ((o = t → gE 168 14 [some (.ref 326), some (.int t), some (.int b), some (.int n), some (.int m), some (.int (o + 1))] [] σ K) ∧ (¬ o = t → ((¬ 0 < m → gE 168 14 [some (.ref 326), some (.int t), some (.int b), some (.int n), some (.int m), some (.int (o + 1))] [] σ K) ∧ (0 < m → (0 ≤ (9 + 10 * o + (2 : Int32)) ∧ (9 + 10 * o + (2 : Int32)) < 330) ∧ ((¬ (σ 326 (9 + 10 * o + (2 : Int32)).toNatClampNeg) = m → gE 168 14 [some (.ref 326), some (.int t), some (.int b), some (.int n), some (.int m), some (.int (o + 1))] [] σ K) ∧ ((σ 326 (9 + 10 * o + (2 : Int32)).toNatClampNeg) = m → (0 ≤ (9 + 10 * o + (0 : Int32)) ∧ (9 + 10 * o + (0 : Int32)) < 330) ∧ ((¬ ((σ 326 (9 + 10 * o + (0 : Int32)).toNatClampNeg) / 8) = b → gE 168 14 [some (.ref 326), some (.int t), some (.int b), some (.int n), some (.int m), some (.int (o + 1))] [] σ K) ∧ (((σ 326 (9 + 10 * o + (0 : Int32)).toNatClampNeg) / 8) = b → gE 168 14 [some (.ref 326), some (.int t), some (.int b), some (.int (n + 1)), some (.int m), some (.int (o + 1))] [] σ K))))))))))) : gE 168 14 [some (.ref 326), some (.int t), some (.int b), some (.int n), some (.int m), some (.int o)] [] σ K :=
  gw_run (cy := 168) (cuts := [14]) (inl := []) (pf := gpfA) gpfA_ok 400 (by decide) h
theorem s168_326 {σ : gS} {K : gK} {t b : Int32} (hc : (0 ≤ t ∧ t < 20) ∧ 0 ≤ σ 326 3 ∧ σ 326 3 ≤ 20) (hK : K (some (.int (kin (σ 326) t.toNatClampNeg b))) σ) : gE 168 0 [some (.ref 326), some (.int t), some (.int b), none, none, none] [] σ K := by
  obtain ⟨ht, hc⟩ := hc
  obtain ⟨e1, e2⟩ := t20 ht
  obtain ⟨m, hm⟩ : ∃ m, t.toNatClampNeg = m := ⟨_, rfl⟩
  rw [hm] at e1 e2 hK
  subst e1
  refine w168_326 ⟨ixb2 e2, ?_⟩
  rw [ix2 e2]
  refine g_forI (nM (σ 326)) (fun k => [some (.ref 326), some (.int (iN m)), some (.int b), some (.int (iN (cnt (kinP (σ 326) m b) k))), some (.int (fld (σ 326) m 2)), some (.int (iN k))]) (fun _ => σ) (fun _ => True) (fun _ => ?_) (fun k hk _ ih => ?_) 0 (Nat.zero_le _) trivial
  · have hn := (nM_of hc).2
    refine v168_326 ⟨by decide, fun _ => hK, fun h => ?_⟩
    rw [nM_lt hc (by omega)] at h; omega
  · have hn := (nM_of hc).2
    have hk20 : k < 20 := by omega
    have no : kinP (σ 326) m b k = false → gE 168 14 [some (.ref 326), some (.int (iN m)), some (.int b), some (.int (iN (cnt (kinP (σ 326) m b) k))), some (.int (fld (σ 326) m 2)), some (.int (iN k + 1))] [] σ K := by
      intro q
      have ih := ih trivial
      rw [cnt_f (by rw [q]; decide)] at ih
      rw [iN_one]
      exact ih
    refine v168_326 ⟨by decide, fun h => ?_, fun _ => ⟨fun h => no (decide_eq_false (fun e => ?_)), fun h => ⟨fun h2 => no (decide_eq_false (fun e => h2 e.2.1)), fun h2 => ⟨ixb2 hk20, fun h3 => no (decide_eq_false (fun e => ?_)), fun h3 => ⟨ixb0 hk20, fun h4 => no (decide_eq_false (fun e => ?_)), fun h4 => ?_⟩⟩⟩⟩⟩
    · rw [nM_lt hc (by omega)] at h; omega
    · exact e.1 ((iN_inj (by omega) (by omega)).mp h)
    · rw [ix2 hk20] at h3; exact h3 e.2.2.1
    · rw [ix0 hk20] at h4; exact h4 e.2.2.2
    · rw [ix2 hk20] at h3
      rw [ix0 hk20] at h4
      have ih := ih trivial
      rw [cnt_t (decide_eq_true ⟨fun e => h (by rw [e]), h2, h3, h4⟩)] at ih
      rw [iN_one, iN_one]
      exact ih
noncomputable def f168 : gD := fun Lv σ => match Lv with
  | [some (.ref p), some (.int t), some (.int b), none, none, none] => cond (Nat.beq p 324 || Nat.beq p 325 || Nat.beq p 326) (some (some ((0 ≤ t ∧ t < 20) ∧ 0 ≤ σ p 3 ∧ σ p 3 ≤ 20), some (.int (kin (σ p) t.toNatClampNeg b)), σ)) none
  | _ => none
theorem ok168 : gFok 168 f168 := by
  intro Lv σ q h hc K hK
  unfold f168 at h
  split at h
  · rename_i p t b
    obtain ⟨hb, h⟩ := c_no h
    have hb0 := hb
    rcases s_or hb0 with hb0 | hb0
    · rcases s_or hb0 with hb0 | hb0
      · have e := b_eq hb0
        subst e
        cases h
        exact s168_324 (hc _ rfl) hK
      · have e := b_eq hb0
        subst e
        cases h
        exact s168_325 (hc _ rfl) hK
    · have e := b_eq hb0
      subst e
      cases h
      exact s168_326 (hc _ rfl) hK
  · cases h
-- text 10
/-! THE REFERENCE: joys, reasons, rises -/
abbrev isWin (x : Int32) : Prop := x - x / 4 * 4 = 0 ∨ x - x / 4 * 4 = 3
abbrev isFwd (x : Int32) : Prop := x - x / 2 * 2 = 1
set_option maxRecDepth 20000 in
theorem w162 {σ : gS} {K : gK} {x : Int32} (h : (4 : Int32) ≠ 0 ∧ (((x - x / 4 * 4) = 0 → ((1 : Int32) = 0 ∨ (1 : Int32) = 1) ∧ K (some (.int 1)) σ) ∧ (¬ (x - x / 4 * 4) = 0 → (4 : Int32) ≠ 0 ∧ ((¬ (x - x / 4 * 4) = 3 → ((0 : Int32) = 0 ∨ (0 : Int32) = 1) ∧ K (some (.int 0)) σ) ∧ ((x - x / 4 * 4) = 3 → ((1 : Int32) = 0 ∨ (1 : Int32) = 1) ∧ K (some (.int 1)) σ))))) : gE 162 0 [some (.int x)] [] σ K :=
  gw_run (cy := 162) (cuts := []) (inl := []) (pf := gpfA) gpfA_ok 400 (by decide) h
theorem s162 {σ : gS} {K : gK} {x : Int32} (hK : K (some (.int (bI (isWin x)))) σ) : gE 162 0 [some (.int x)] [] σ K := by
  refine w162 ?_
  grind [bI]
noncomputable def f162 : gD := fun Lv σ => match Lv with
  | [some (.int x)] => some (none, some (.int (bI (isWin x))), σ)
  | _ => none
theorem ok162 : gFok 162 f162 := by
  intro Lv σ q h hc K hK
  unfold f162 at h
  split at h
  · rename_i x
    cases h
    exact s162 hK
  · cases h
set_option maxRecDepth 20000 in
theorem w163 {σ : gS} {K : gK} {x : Int32} (h : (2 : Int32) ≠ 0 ∧ ((¬ (x - x / 2 * 2) = 1 → ((0 : Int32) = 0 ∨ (0 : Int32) = 1) ∧ K (some (.int 0)) σ) ∧ ((x - x / 2 * 2) = 1 → ((1 : Int32) = 0 ∨ (1 : Int32) = 1) ∧ K (some (.int 1)) σ))) : gE 163 0 [some (.int x)] [] σ K :=
  gw_run (cy := 163) (cuts := []) (inl := []) (pf := gpfA) gpfA_ok 400 (by decide) h
theorem s163 {σ : gS} {K : gK} {x : Int32} (hK : K (some (.int (bI (isFwd x)))) σ) : gE 163 0 [some (.int x)] [] σ K := by
  refine w163 ?_
  grind [bI]
noncomputable def f163 : gD := fun Lv σ => match Lv with
  | [some (.int x)] => some (none, some (.int (bI (isFwd x))), σ)
  | _ => none
theorem ok163 : gFok 163 f163 := by
  intro Lv σ q h hc K hK
  unfold f163 at h
  split at h
  · rename_i x
    cases h
    exact s163 hK
  · cases h
set_option maxRecDepth 20000 in
theorem w164_324 {σ : gS} {K : gK} (h : (0 ≤ (0 : Int32) ∧ (0 : Int32) < 330) ∧ (2 : Int32) ≠ 0 ∧ K (some (.int (((σ 324 0) + 1) / 2))) σ) : gE 164 0 [some (.ref 324)] [] σ K :=
  gw_run (cy := 164) (cuts := []) (inl := []) (pf := gpfA) gpfA_ok 400 (by decide) h
theorem s164_324 {σ : gS} {K : gK} (hK : K (some (.int ((σ 324 0 + 1) / 2))) σ) : gE 164 0 [some (.ref 324)] [] σ K := by
  exact w164_324 ⟨by decide, by decide, hK⟩
set_option maxRecDepth 20000 in
theorem w164_325 {σ : gS} {K : gK} (h : (0 ≤ (0 : Int32) ∧ (0 : Int32) < 330) ∧ (2 : Int32) ≠ 0 ∧ K (some (.int (((σ 325 0) + 1) / 2))) σ) : gE 164 0 [some (.ref 325)] [] σ K :=
  gw_run (cy := 164) (cuts := []) (inl := []) (pf := gpfA) gpfA_ok 400 (by decide) h
theorem s164_325 {σ : gS} {K : gK} (hK : K (some (.int ((σ 325 0 + 1) / 2))) σ) : gE 164 0 [some (.ref 325)] [] σ K := by
  exact w164_325 ⟨by decide, by decide, hK⟩
set_option maxRecDepth 20000 in
theorem w164_326 {σ : gS} {K : gK} (h : (0 ≤ (0 : Int32) ∧ (0 : Int32) < 330) ∧ (2 : Int32) ≠ 0 ∧ K (some (.int (((σ 326 0) + 1) / 2))) σ) : gE 164 0 [some (.ref 326)] [] σ K :=
  gw_run (cy := 164) (cuts := []) (inl := []) (pf := gpfA) gpfA_ok 400 (by decide) h
theorem s164_326 {σ : gS} {K : gK} (hK : K (some (.int ((σ 326 0 + 1) / 2))) σ) : gE 164 0 [some (.ref 326)] [] σ K := by
  exact w164_326 ⟨by decide, by decide, hK⟩
noncomputable def f164 : gD := fun Lv σ => match Lv with
  | [some (.ref p)] => cond (Nat.beq p 324 || Nat.beq p 325 || Nat.beq p 326) (some (none, some (.int ((σ p 0 + 1) / 2)), σ)) none
  | _ => none
theorem ok164 : gFok 164 f164 := by
  intro Lv σ q h hc K hK
  unfold f164 at h
  split at h
  · rename_i p
    obtain ⟨hb, h⟩ := c_no h
    have hb0 := hb
    rcases s_or hb0 with hb0 | hb0
    · rcases s_or hb0 with hb0 | hb0
      · have e := b_eq hb0
        subst e
        cases h
        exact s164_324 hK
      · have e := b_eq hb0
        subst e
        cases h
        exact s164_325 hK
    · have e := b_eq hb0
      subst e
      cases h
      exact s164_326 hK
  · cases h
set_option maxRecDepth 20000 in
theorem w166 {σ : gS} {K : gK} {k x f : Int32} (h : ((k = 1 → ((1 : Int32) = 0 ∨ (1 : Int32) = 1) ∧ K (some (.int 1)) σ) ∧ (¬ k = 1 → (((x / 4) < f → ((0 : Int32) = 0 ∨ (0 : Int32) = 1) ∧ K (some (.int 0)) σ) ∧ (¬ (x / 4) < f → ((1 : Int32) = 0 ∨ (1 : Int32) = 1) ∧ K (some (.int 1)) σ))))) : gE 166 0 [some (.int k), some (.int x), some (.int f)] [] σ K :=
  gw_run (cy := 166) (cuts := []) (inl := []) (pf := gpfA) gpfA_ok 400 (by decide) h
theorem s166 {σ : gS} {K : gK} {k x f : Int32} (hK : K (some (.int (bI (k = 1 ∨ f ≤ x / 4)))) σ) : gE 166 0 [some (.int k), some (.int x), some (.int f)] [] σ K := by
  refine w166 ?_
  grind [bI]
noncomputable def f166 : gD := fun Lv σ => match Lv with
  | [some (.int k), some (.int x), some (.int f)] => some (none, some (.int (bI (k = 1 ∨ f ≤ x / 4))), σ)
  | _ => none
theorem ok166 : gFok 166 f166 := by
  intro Lv σ q h hc K hK
  unfold f166 at h
  split at h
  · rename_i k x f
    cases h
    exact s166 hK
  · cases h
noncomputable def gpfB_l : List (Nat × gD) := (165, f165) :: (168, f168) :: (162, f162) :: (163, f163) :: (164, f164) :: (166, f166) :: gpfA_l
noncomputable def gpfB : gP := gpl0 gpfB_l
theorem gpfB_ok : gPok gpfB := gpl0_cons ok165 (gpl0_cons ok168 (gpl0_cons ok162 (gpl0_cons ok163 (gpl0_cons ok164 (gpl0_cons ok166 (gpfA_ok))))))
abbrev fMay (R : gW) (t : Nat) (x : Int32) : Prop := fld R t 1 = 1 ∨ R 1 ≤ x / 4
def fJoy (R : gW) (t : Nat) (x : Int32) : Int32 := 4 * kin R t (x / 8) + (if isWin x then fld R t 3 else 0) + (if isFwd (x / 4) then fld R t 4 else 0) - fld R t 6 * (if x / 4 - fld R t 5 < 0 then -(x / 4 - fld R t 5) else x / 4 - fld R t 5)
def fJo (R : gW) (t : Nat) : Int32 := fJoy R t (fld R t 0)
set_option maxRecDepth 20000 in
theorem w167_324 {σ : gS} {K : gK} {t x : Int32} (h : (0 ≤ (9 + 10 * t + (1 : Int32)) ∧ (9 + 10 * t + (1 : Int32)) < 330) ∧ (0 ≤ (1 : Int32) ∧ (1 : Int32) < 330) ∧ ((bI ((σ 324 (9 + 10 * t + (1 : Int32)).toNatClampNeg) = 1 ∨ (σ 324 1) ≤ x / 4)) = 0 ∨ (bI ((σ 324 (9 + 10 * t + (1 : Int32)).toNatClampNeg) = 1 ∨ (σ 324 1) ≤ x / 4)) = 1) ∧ K (some (.int (bI ((σ 324 (9 + 10 * t + (1 : Int32)).toNatClampNeg) = 1 ∨ (σ 324 1) ≤ x / 4)))) σ) : gE 167 0 [some (.ref 324), some (.int t), some (.int x)] [] σ K :=
  gw_run (cy := 167) (cuts := []) (inl := []) (pf := gpfB) gpfB_ok 400 (by decide) h
theorem s167_324 {σ : gS} {K : gK} {t x : Int32} (hc : 0 ≤ t ∧ t < 20) (hK : K (some (.int (bI (fMay (σ 324) t.toNatClampNeg x)))) σ) : gE 167 0 [some (.ref 324), some (.int t), some (.int x)] [] σ K := by
  obtain ⟨e1, e2⟩ := t20 hc
  obtain ⟨m, hm⟩ : ∃ m, t.toNatClampNeg = m := ⟨_, rfl⟩
  rw [hm] at e1 e2 hK
  subst e1
  refine w167_324 ⟨ixb1 e2, by decide, ?_⟩
  rw [ix1 e2]
  exact ⟨bI_01, hK⟩
set_option maxRecDepth 20000 in
theorem w167_325 {σ : gS} {K : gK} {t x : Int32} (h : (0 ≤ (9 + 10 * t + (1 : Int32)) ∧ (9 + 10 * t + (1 : Int32)) < 330) ∧ (0 ≤ (1 : Int32) ∧ (1 : Int32) < 330) ∧ ((bI ((σ 325 (9 + 10 * t + (1 : Int32)).toNatClampNeg) = 1 ∨ (σ 325 1) ≤ x / 4)) = 0 ∨ (bI ((σ 325 (9 + 10 * t + (1 : Int32)).toNatClampNeg) = 1 ∨ (σ 325 1) ≤ x / 4)) = 1) ∧ K (some (.int (bI ((σ 325 (9 + 10 * t + (1 : Int32)).toNatClampNeg) = 1 ∨ (σ 325 1) ≤ x / 4)))) σ) : gE 167 0 [some (.ref 325), some (.int t), some (.int x)] [] σ K :=
  gw_run (cy := 167) (cuts := []) (inl := []) (pf := gpfB) gpfB_ok 400 (by decide) h
theorem s167_325 {σ : gS} {K : gK} {t x : Int32} (hc : 0 ≤ t ∧ t < 20) (hK : K (some (.int (bI (fMay (σ 325) t.toNatClampNeg x)))) σ) : gE 167 0 [some (.ref 325), some (.int t), some (.int x)] [] σ K := by
  obtain ⟨e1, e2⟩ := t20 hc
  obtain ⟨m, hm⟩ : ∃ m, t.toNatClampNeg = m := ⟨_, rfl⟩
  rw [hm] at e1 e2 hK
  subst e1
  refine w167_325 ⟨ixb1 e2, by decide, ?_⟩
  rw [ix1 e2]
  exact ⟨bI_01, hK⟩
set_option maxRecDepth 20000 in
theorem w167_326 {σ : gS} {K : gK} {t x : Int32} (h : (0 ≤ (9 + 10 * t + (1 : Int32)) ∧ (9 + 10 * t + (1 : Int32)) < 330) ∧ (0 ≤ (1 : Int32) ∧ (1 : Int32) < 330) ∧ ((bI ((σ 326 (9 + 10 * t + (1 : Int32)).toNatClampNeg) = 1 ∨ (σ 326 1) ≤ x / 4)) = 0 ∨ (bI ((σ 326 (9 + 10 * t + (1 : Int32)).toNatClampNeg) = 1 ∨ (σ 326 1) ≤ x / 4)) = 1) ∧ K (some (.int (bI ((σ 326 (9 + 10 * t + (1 : Int32)).toNatClampNeg) = 1 ∨ (σ 326 1) ≤ x / 4)))) σ) : gE 167 0 [some (.ref 326), some (.int t), some (.int x)] [] σ K :=
  gw_run (cy := 167) (cuts := []) (inl := []) (pf := gpfB) gpfB_ok 400 (by decide) h
theorem s167_326 {σ : gS} {K : gK} {t x : Int32} (hc : 0 ≤ t ∧ t < 20) (hK : K (some (.int (bI (fMay (σ 326) t.toNatClampNeg x)))) σ) : gE 167 0 [some (.ref 326), some (.int t), some (.int x)] [] σ K := by
  obtain ⟨e1, e2⟩ := t20 hc
  obtain ⟨m, hm⟩ : ∃ m, t.toNatClampNeg = m := ⟨_, rfl⟩
  rw [hm] at e1 e2 hK
  subst e1
  refine w167_326 ⟨ixb1 e2, by decide, ?_⟩
  rw [ix1 e2]
  exact ⟨bI_01, hK⟩
noncomputable def f167 : gD := fun Lv σ => match Lv with
  | [some (.ref p), some (.int t), some (.int x)] => cond (Nat.beq p 324 || Nat.beq p 325 || Nat.beq p 326) (some (some (0 ≤ t ∧ t < 20), some (.int (bI (fMay (σ p) t.toNatClampNeg x))), σ)) none
  | _ => none
theorem ok167 : gFok 167 f167 := by
  intro Lv σ q h hc K hK
  unfold f167 at h
  split at h
  · rename_i p t x
    obtain ⟨hb, h⟩ := c_no h
    have hb0 := hb
    rcases s_or hb0 with hb0 | hb0
    · rcases s_or hb0 with hb0 | hb0
      · have e := b_eq hb0
        subst e
        cases h
        exact s167_324 (hc _ rfl) hK
      · have e := b_eq hb0
        subst e
        cases h
        exact s167_325 (hc _ rfl) hK
    · have e := b_eq hb0
      subst e
      cases h
      exact s167_326 (hc _ rfl) hK
  · cases h
set_option maxRecDepth 20000 in
theorem w169_324 {σ : gS} {K : gK} {t x : Int32} (h : ((0 ≤ t ∧ t < 20) ∧ 0 ≤ σ 324 3 ∧ σ 324 3 ≤ 20) ∧ (0 ≤ (9 + 10 * t + (5 : Int32)) ∧ (9 + 10 * t + (5 : Int32)) < 330) ∧ (((bI (isWin x)) = 0 → (((bI (isFwd (x / 4))) = 0 → (0 ≤ (9 + 10 * t + (6 : Int32)) ∧ (9 + 10 * t + (6 : Int32)) < 330) ∧ ((¬ ((x / 4) - (σ 324 (9 + 10 * t + (5 : Int32)).toNatClampNeg)) < 0 → K (some (.int ((4 * (kin (σ 324) t.toNatClampNeg (x / 8))) - ((σ 324 (9 + 10 * t + (6 : Int32)).toNatClampNeg) * ((x / 4) - (σ 324 (9 + 10 * t + (5 : Int32)).toNatClampNeg)))))) σ) ∧ (((x / 4) - (σ 324 (9 + 10 * t + (5 : Int32)).toNatClampNeg)) < 0 → K (some (.int ((4 * (kin (σ 324) t.toNatClampNeg (x / 8))) - ((σ 324 (9 + 10 * t + (6 : Int32)).toNatClampNeg) * (-((x / 4) - (σ 324 (9 + 10 * t + (5 : Int32)).toNatClampNeg))))))) σ))) ∧ (¬ (bI (isFwd (x / 4))) = 0 → (0 ≤ (9 + 10 * t + (4 : Int32)) ∧ (9 + 10 * t + (4 : Int32)) < 330) ∧ (0 ≤ (9 + 10 * t + (6 : Int32)) ∧ (9 + 10 * t + (6 : Int32)) < 330) ∧ ((¬ ((x / 4) - (σ 324 (9 + 10 * t + (5 : Int32)).toNatClampNeg)) < 0 → K (some (.int (((4 * (kin (σ 324) t.toNatClampNeg (x / 8))) + (σ 324 (9 + 10 * t + (4 : Int32)).toNatClampNeg)) - ((σ 324 (9 + 10 * t + (6 : Int32)).toNatClampNeg) * ((x / 4) - (σ 324 (9 + 10 * t + (5 : Int32)).toNatClampNeg)))))) σ) ∧ (((x / 4) - (σ 324 (9 + 10 * t + (5 : Int32)).toNatClampNeg)) < 0 → K (some (.int (((4 * (kin (σ 324) t.toNatClampNeg (x / 8))) + (σ 324 (9 + 10 * t + (4 : Int32)).toNatClampNeg)) - ((σ 324 (9 + 10 * t + (6 : Int32)).toNatClampNeg) * (-((x / 4) - (σ 324 (9 + 10 * t + (5 : Int32)).toNatClampNeg))))))) σ))))) ∧ (¬ (bI (isWin x)) = 0 → (0 ≤ (9 + 10 * t + (3 : Int32)) ∧ (9 + 10 * t + (3 : Int32)) < 330) ∧ (((bI (isFwd (x / 4))) = 0 → (0 ≤ (9 + 10 * t + (6 : Int32)) ∧ (9 + 10 * t + (6 : Int32)) < 330) ∧ ((¬ ((x / 4) - (σ 324 (9 + 10 * t + (5 : Int32)).toNatClampNeg)) < 0 → K (some (.int (((4 * (kin (σ 324) t.toNatClampNeg (x / 8))) + (σ 324 (9 + 10 * t + (3 : Int32)).toNatClampNeg)) - ((σ 324 (9 + 10 * t + (6 : Int32)).toNatClampNeg) * ((x / 4) - (σ 324 (9 + 10 * t + (5 : Int32)).toNatClampNeg)))))) σ) ∧ (((x / 4) - (σ 324 (9 + 10 * t + (5 : Int32)).toNatClampNeg)) < 0 → K (some (.int (((4 * (kin (σ 324) t.toNatClampNeg (x / 8))) + (σ 324 (9 + 10 * t + (3 : Int32)).toNatClampNeg)) - ((σ 324 (9 + 10 * t + (6 : Int32)).toNatClampNeg) * (-((x / 4) - (σ 324 (9 + 10 * t + (5 : Int32)).toNatClampNeg))))))) σ))) ∧ (¬ (bI (isFwd (x / 4))) = 0 → (0 ≤ (9 + 10 * t + (4 : Int32)) ∧ (9 + 10 * t + (4 : Int32)) < 330) ∧ (0 ≤ (9 + 10 * t + (6 : Int32)) ∧ (9 + 10 * t + (6 : Int32)) < 330) ∧ ((¬ ((x / 4) - (σ 324 (9 + 10 * t + (5 : Int32)).toNatClampNeg)) < 0 → K (some (.int ((((4 * (kin (σ 324) t.toNatClampNeg (x / 8))) + (σ 324 (9 + 10 * t + (3 : Int32)).toNatClampNeg)) + (σ 324 (9 + 10 * t + (4 : Int32)).toNatClampNeg)) - ((σ 324 (9 + 10 * t + (6 : Int32)).toNatClampNeg) * ((x / 4) - (σ 324 (9 + 10 * t + (5 : Int32)).toNatClampNeg)))))) σ) ∧ (((x / 4) - (σ 324 (9 + 10 * t + (5 : Int32)).toNatClampNeg)) < 0 → K (some (.int ((((4 * (kin (σ 324) t.toNatClampNeg (x / 8))) + (σ 324 (9 + 10 * t + (3 : Int32)).toNatClampNeg)) + (σ 324 (9 + 10 * t + (4 : Int32)).toNatClampNeg)) - ((σ 324 (9 + 10 * t + (6 : Int32)).toNatClampNeg) * (-((x / 4) - (σ 324 (9 + 10 * t + (5 : Int32)).toNatClampNeg))))))) σ))))))) : gE 169 0 [some (.ref 324), some (.int t), some (.int x), none, none] [] σ K :=
  gw_run (cy := 169) (cuts := []) (inl := []) (pf := gpfB) gpfB_ok 400 (by decide) h
theorem s169_324 {σ : gS} {K : gK} {t x : Int32} (hc : (0 ≤ t ∧ t < 20) ∧ 0 ≤ σ 324 3 ∧ σ 324 3 ≤ 20) (hK : K (some (.int (fJoy (σ 324) t.toNatClampNeg x))) σ) : gE 169 0 [some (.ref 324), some (.int t), some (.int x), none, none] [] σ K := by
  obtain ⟨ht, hc⟩ := hc
  obtain ⟨e1, e2⟩ := t20 ht
  obtain ⟨m, hm⟩ : ∃ m, t.toNatClampNeg = m := ⟨_, rfl⟩
  rw [hm] at e1 e2 hK
  subst e1
  refine w169_324 ?_
  rw [ix3 e2, ix4 e2, ix5 e2, ix6 e2]
  have b3 := ixb3 e2
  have b4 := ixb4 e2
  have b5 := ixb5 e2
  have b6 := ixb6 e2
  have h4 : (4 : Int32) ≠ 0 := by decide
  have hn : (iN m).toNatClampNeg = m := iN_nat (by omega)
  unfold fJoy fld at hK
  rw [hn]
  simp only [bI_0, Int32.zero_add]
  grind
set_option maxRecDepth 20000 in
theorem w169_325 {σ : gS} {K : gK} {t x : Int32} (h : ((0 ≤ t ∧ t < 20) ∧ 0 ≤ σ 325 3 ∧ σ 325 3 ≤ 20) ∧ (0 ≤ (9 + 10 * t + (5 : Int32)) ∧ (9 + 10 * t + (5 : Int32)) < 330) ∧ (((bI (isWin x)) = 0 → (((bI (isFwd (x / 4))) = 0 → (0 ≤ (9 + 10 * t + (6 : Int32)) ∧ (9 + 10 * t + (6 : Int32)) < 330) ∧ ((¬ ((x / 4) - (σ 325 (9 + 10 * t + (5 : Int32)).toNatClampNeg)) < 0 → K (some (.int ((4 * (kin (σ 325) t.toNatClampNeg (x / 8))) - ((σ 325 (9 + 10 * t + (6 : Int32)).toNatClampNeg) * ((x / 4) - (σ 325 (9 + 10 * t + (5 : Int32)).toNatClampNeg)))))) σ) ∧ (((x / 4) - (σ 325 (9 + 10 * t + (5 : Int32)).toNatClampNeg)) < 0 → K (some (.int ((4 * (kin (σ 325) t.toNatClampNeg (x / 8))) - ((σ 325 (9 + 10 * t + (6 : Int32)).toNatClampNeg) * (-((x / 4) - (σ 325 (9 + 10 * t + (5 : Int32)).toNatClampNeg))))))) σ))) ∧ (¬ (bI (isFwd (x / 4))) = 0 → (0 ≤ (9 + 10 * t + (4 : Int32)) ∧ (9 + 10 * t + (4 : Int32)) < 330) ∧ (0 ≤ (9 + 10 * t + (6 : Int32)) ∧ (9 + 10 * t + (6 : Int32)) < 330) ∧ ((¬ ((x / 4) - (σ 325 (9 + 10 * t + (5 : Int32)).toNatClampNeg)) < 0 → K (some (.int (((4 * (kin (σ 325) t.toNatClampNeg (x / 8))) + (σ 325 (9 + 10 * t + (4 : Int32)).toNatClampNeg)) - ((σ 325 (9 + 10 * t + (6 : Int32)).toNatClampNeg) * ((x / 4) - (σ 325 (9 + 10 * t + (5 : Int32)).toNatClampNeg)))))) σ) ∧ (((x / 4) - (σ 325 (9 + 10 * t + (5 : Int32)).toNatClampNeg)) < 0 → K (some (.int (((4 * (kin (σ 325) t.toNatClampNeg (x / 8))) + (σ 325 (9 + 10 * t + (4 : Int32)).toNatClampNeg)) - ((σ 325 (9 + 10 * t + (6 : Int32)).toNatClampNeg) * (-((x / 4) - (σ 325 (9 + 10 * t + (5 : Int32)).toNatClampNeg))))))) σ))))) ∧ (¬ (bI (isWin x)) = 0 → (0 ≤ (9 + 10 * t + (3 : Int32)) ∧ (9 + 10 * t + (3 : Int32)) < 330) ∧ (((bI (isFwd (x / 4))) = 0 → (0 ≤ (9 + 10 * t + (6 : Int32)) ∧ (9 + 10 * t + (6 : Int32)) < 330) ∧ ((¬ ((x / 4) - (σ 325 (9 + 10 * t + (5 : Int32)).toNatClampNeg)) < 0 → K (some (.int (((4 * (kin (σ 325) t.toNatClampNeg (x / 8))) + (σ 325 (9 + 10 * t + (3 : Int32)).toNatClampNeg)) - ((σ 325 (9 + 10 * t + (6 : Int32)).toNatClampNeg) * ((x / 4) - (σ 325 (9 + 10 * t + (5 : Int32)).toNatClampNeg)))))) σ) ∧ (((x / 4) - (σ 325 (9 + 10 * t + (5 : Int32)).toNatClampNeg)) < 0 → K (some (.int (((4 * (kin (σ 325) t.toNatClampNeg (x / 8))) + (σ 325 (9 + 10 * t + (3 : Int32)).toNatClampNeg)) - ((σ 325 (9 + 10 * t + (6 : Int32)).toNatClampNeg) * (-((x / 4) - (σ 325 (9 + 10 * t + (5 : Int32)).toNatClampNeg))))))) σ))) ∧ (¬ (bI (isFwd (x / 4))) = 0 → (0 ≤ (9 + 10 * t + (4 : Int32)) ∧ (9 + 10 * t + (4 : Int32)) < 330) ∧ (0 ≤ (9 + 10 * t + (6 : Int32)) ∧ (9 + 10 * t + (6 : Int32)) < 330) ∧ ((¬ ((x / 4) - (σ 325 (9 + 10 * t + (5 : Int32)).toNatClampNeg)) < 0 → K (some (.int ((((4 * (kin (σ 325) t.toNatClampNeg (x / 8))) + (σ 325 (9 + 10 * t + (3 : Int32)).toNatClampNeg)) + (σ 325 (9 + 10 * t + (4 : Int32)).toNatClampNeg)) - ((σ 325 (9 + 10 * t + (6 : Int32)).toNatClampNeg) * ((x / 4) - (σ 325 (9 + 10 * t + (5 : Int32)).toNatClampNeg)))))) σ) ∧ (((x / 4) - (σ 325 (9 + 10 * t + (5 : Int32)).toNatClampNeg)) < 0 → K (some (.int ((((4 * (kin (σ 325) t.toNatClampNeg (x / 8))) + (σ 325 (9 + 10 * t + (3 : Int32)).toNatClampNeg)) + (σ 325 (9 + 10 * t + (4 : Int32)).toNatClampNeg)) - ((σ 325 (9 + 10 * t + (6 : Int32)).toNatClampNeg) * (-((x / 4) - (σ 325 (9 + 10 * t + (5 : Int32)).toNatClampNeg))))))) σ))))))) : gE 169 0 [some (.ref 325), some (.int t), some (.int x), none, none] [] σ K :=
  gw_run (cy := 169) (cuts := []) (inl := []) (pf := gpfB) gpfB_ok 400 (by decide) h
theorem s169_325 {σ : gS} {K : gK} {t x : Int32} (hc : (0 ≤ t ∧ t < 20) ∧ 0 ≤ σ 325 3 ∧ σ 325 3 ≤ 20) (hK : K (some (.int (fJoy (σ 325) t.toNatClampNeg x))) σ) : gE 169 0 [some (.ref 325), some (.int t), some (.int x), none, none] [] σ K := by
  obtain ⟨ht, hc⟩ := hc
  obtain ⟨e1, e2⟩ := t20 ht
  obtain ⟨m, hm⟩ : ∃ m, t.toNatClampNeg = m := ⟨_, rfl⟩
  rw [hm] at e1 e2 hK
  subst e1
  refine w169_325 ?_
  rw [ix3 e2, ix4 e2, ix5 e2, ix6 e2]
  have b3 := ixb3 e2
  have b4 := ixb4 e2
  have b5 := ixb5 e2
  have b6 := ixb6 e2
  have h4 : (4 : Int32) ≠ 0 := by decide
  have hn : (iN m).toNatClampNeg = m := iN_nat (by omega)
  unfold fJoy fld at hK
  rw [hn]
  simp only [bI_0, Int32.zero_add]
  grind
set_option maxRecDepth 20000 in
theorem w169_326 {σ : gS} {K : gK} {t x : Int32} (h : ((0 ≤ t ∧ t < 20) ∧ 0 ≤ σ 326 3 ∧ σ 326 3 ≤ 20) ∧ (0 ≤ (9 + 10 * t + (5 : Int32)) ∧ (9 + 10 * t + (5 : Int32)) < 330) ∧ (((bI (isWin x)) = 0 → (((bI (isFwd (x / 4))) = 0 → (0 ≤ (9 + 10 * t + (6 : Int32)) ∧ (9 + 10 * t + (6 : Int32)) < 330) ∧ ((¬ ((x / 4) - (σ 326 (9 + 10 * t + (5 : Int32)).toNatClampNeg)) < 0 → K (some (.int ((4 * (kin (σ 326) t.toNatClampNeg (x / 8))) - ((σ 326 (9 + 10 * t + (6 : Int32)).toNatClampNeg) * ((x / 4) - (σ 326 (9 + 10 * t + (5 : Int32)).toNatClampNeg)))))) σ) ∧ (((x / 4) - (σ 326 (9 + 10 * t + (5 : Int32)).toNatClampNeg)) < 0 → K (some (.int ((4 * (kin (σ 326) t.toNatClampNeg (x / 8))) - ((σ 326 (9 + 10 * t + (6 : Int32)).toNatClampNeg) * (-((x / 4) - (σ 326 (9 + 10 * t + (5 : Int32)).toNatClampNeg))))))) σ))) ∧ (¬ (bI (isFwd (x / 4))) = 0 → (0 ≤ (9 + 10 * t + (4 : Int32)) ∧ (9 + 10 * t + (4 : Int32)) < 330) ∧ (0 ≤ (9 + 10 * t + (6 : Int32)) ∧ (9 + 10 * t + (6 : Int32)) < 330) ∧ ((¬ ((x / 4) - (σ 326 (9 + 10 * t + (5 : Int32)).toNatClampNeg)) < 0 → K (some (.int (((4 * (kin (σ 326) t.toNatClampNeg (x / 8))) + (σ 326 (9 + 10 * t + (4 : Int32)).toNatClampNeg)) - ((σ 326 (9 + 10 * t + (6 : Int32)).toNatClampNeg) * ((x / 4) - (σ 326 (9 + 10 * t + (5 : Int32)).toNatClampNeg)))))) σ) ∧ (((x / 4) - (σ 326 (9 + 10 * t + (5 : Int32)).toNatClampNeg)) < 0 → K (some (.int (((4 * (kin (σ 326) t.toNatClampNeg (x / 8))) + (σ 326 (9 + 10 * t + (4 : Int32)).toNatClampNeg)) - ((σ 326 (9 + 10 * t + (6 : Int32)).toNatClampNeg) * (-((x / 4) - (σ 326 (9 + 10 * t + (5 : Int32)).toNatClampNeg))))))) σ))))) ∧ (¬ (bI (isWin x)) = 0 → (0 ≤ (9 + 10 * t + (3 : Int32)) ∧ (9 + 10 * t + (3 : Int32)) < 330) ∧ (((bI (isFwd (x / 4))) = 0 → (0 ≤ (9 + 10 * t + (6 : Int32)) ∧ (9 + 10 * t + (6 : Int32)) < 330) ∧ ((¬ ((x / 4) - (σ 326 (9 + 10 * t + (5 : Int32)).toNatClampNeg)) < 0 → K (some (.int (((4 * (kin (σ 326) t.toNatClampNeg (x / 8))) + (σ 326 (9 + 10 * t + (3 : Int32)).toNatClampNeg)) - ((σ 326 (9 + 10 * t + (6 : Int32)).toNatClampNeg) * ((x / 4) - (σ 326 (9 + 10 * t + (5 : Int32)).toNatClampNeg)))))) σ) ∧ (((x / 4) - (σ 326 (9 + 10 * t + (5 : Int32)).toNatClampNeg)) < 0 → K (some (.int (((4 * (kin (σ 326) t.toNatClampNeg (x / 8))) + (σ 326 (9 + 10 * t + (3 : Int32)).toNatClampNeg)) - ((σ 326 (9 + 10 * t + (6 : Int32)).toNatClampNeg) * (-((x / 4) - (σ 326 (9 + 10 * t + (5 : Int32)).toNatClampNeg))))))) σ))) ∧ (¬ (bI (isFwd (x / 4))) = 0 → (0 ≤ (9 + 10 * t + (4 : Int32)) ∧ (9 + 10 * t + (4 : Int32)) < 330) ∧ (0 ≤ (9 + 10 * t + (6 : Int32)) ∧ (9 + 10 * t + (6 : Int32)) < 330) ∧ ((¬ ((x / 4) - (σ 326 (9 + 10 * t + (5 : Int32)).toNatClampNeg)) < 0 → K (some (.int ((((4 * (kin (σ 326) t.toNatClampNeg (x / 8))) + (σ 326 (9 + 10 * t + (3 : Int32)).toNatClampNeg)) + (σ 326 (9 + 10 * t + (4 : Int32)).toNatClampNeg)) - ((σ 326 (9 + 10 * t + (6 : Int32)).toNatClampNeg) * ((x / 4) - (σ 326 (9 + 10 * t + (5 : Int32)).toNatClampNeg)))))) σ) ∧ (((x / 4) - (σ 326 (9 + 10 * t + (5 : Int32)).toNatClampNeg)) < 0 → K (some (.int ((((4 * (kin (σ 326) t.toNatClampNeg (x / 8))) + (σ 326 (9 + 10 * t + (3 : Int32)).toNatClampNeg)) + (σ 326 (9 + 10 * t + (4 : Int32)).toNatClampNeg)) - ((σ 326 (9 + 10 * t + (6 : Int32)).toNatClampNeg) * (-((x / 4) - (σ 326 (9 + 10 * t + (5 : Int32)).toNatClampNeg))))))) σ))))))) : gE 169 0 [some (.ref 326), some (.int t), some (.int x), none, none] [] σ K :=
  gw_run (cy := 169) (cuts := []) (inl := []) (pf := gpfB) gpfB_ok 400 (by decide) h
theorem s169_326 {σ : gS} {K : gK} {t x : Int32} (hc : (0 ≤ t ∧ t < 20) ∧ 0 ≤ σ 326 3 ∧ σ 326 3 ≤ 20) (hK : K (some (.int (fJoy (σ 326) t.toNatClampNeg x))) σ) : gE 169 0 [some (.ref 326), some (.int t), some (.int x), none, none] [] σ K := by
  obtain ⟨ht, hc⟩ := hc
  obtain ⟨e1, e2⟩ := t20 ht
  obtain ⟨m, hm⟩ : ∃ m, t.toNatClampNeg = m := ⟨_, rfl⟩
  rw [hm] at e1 e2 hK
  subst e1
  refine w169_326 ?_
  rw [ix3 e2, ix4 e2, ix5 e2, ix6 e2]
  have b3 := ixb3 e2
  have b4 := ixb4 e2
  have b5 := ixb5 e2
  have b6 := ixb6 e2
  have h4 : (4 : Int32) ≠ 0 := by decide
  have hn : (iN m).toNatClampNeg = m := iN_nat (by omega)
  unfold fJoy fld at hK
  rw [hn]
  simp only [bI_0, Int32.zero_add]
  grind
noncomputable def f169 : gD := fun Lv σ => match Lv with
  | [some (.ref p), some (.int t), some (.int x), none, none] => cond (Nat.beq p 324 || Nat.beq p 325 || Nat.beq p 326) (some (some ((0 ≤ t ∧ t < 20) ∧ 0 ≤ σ p 3 ∧ σ p 3 ≤ 20), some (.int (fJoy (σ p) t.toNatClampNeg x)), σ)) none
  | _ => none
theorem ok169 : gFok 169 f169 := by
  intro Lv σ q h hc K hK
  unfold f169 at h
  split at h
  · rename_i p t x
    obtain ⟨hb, h⟩ := c_no h
    have hb0 := hb
    rcases s_or hb0 with hb0 | hb0
    · rcases s_or hb0 with hb0 | hb0
      · have e := b_eq hb0
        subst e
        cases h
        exact s169_324 (hc _ rfl) hK
      · have e := b_eq hb0
        subst e
        cases h
        exact s169_325 (hc _ rfl) hK
    · have e := b_eq hb0
      subst e
      cases h
      exact s169_326 (hc _ rfl) hK
  · cases h
