-- text 49
/-! THE CLASS: tokens -/
def cKd (w : Int32) : Int32 := if 97 ≤ w ∧ w ≤ 122 then 2 else if 48 ≤ w ∧ w ≤ 57 then 3 else if w = 32 ∨ w = 10 then 1 else if w = -1 then 0 else 4
set_option maxRecDepth 20000 in
theorem w13 {σ : gS} {K : gK} {w : Int32} (h : ((w < 97 → ((w < 48 → ((w = 32 → K (some (.int 1)) σ) ∧ (¬ w = 32 → ((¬ w = 10 → ((¬ w = (-1) → K (some (.int 4)) σ) ∧ (w = (-1) → K (some (.int 0)) σ))) ∧ (w = 10 → K (some (.int 1)) σ))))) ∧ (¬ w < 48 → ((57 < w → ((w = 32 → K (some (.int 1)) σ) ∧ (¬ w = 32 → ((¬ w = 10 → ((¬ w = (-1) → K (some (.int 4)) σ) ∧ (w = (-1) → K (some (.int 0)) σ))) ∧ (w = 10 → K (some (.int 1)) σ))))) ∧ (¬ 57 < w → K (some (.int 3)) σ))))) ∧ (¬ w < 97 → ((122 < w → ((w < 48 → ((w = 32 → K (some (.int 1)) σ) ∧ (¬ w = 32 → ((¬ w = 10 → ((¬ w = (-1) → K (some (.int 4)) σ) ∧ (w = (-1) → K (some (.int 0)) σ))) ∧ (w = 10 → K (some (.int 1)) σ))))) ∧ (¬ w < 48 → ((57 < w → ((w = 32 → K (some (.int 1)) σ) ∧ (¬ w = 32 → ((¬ w = 10 → ((¬ w = (-1) → K (some (.int 4)) σ) ∧ (w = (-1) → K (some (.int 0)) σ))) ∧ (w = 10 → K (some (.int 1)) σ))))) ∧ (¬ 57 < w → K (some (.int 3)) σ))))) ∧ (¬ 122 < w → K (some (.int 2)) σ))))) : gE 13 0 [some (.int w)] [] σ K :=
  gw_run (cy := 13) (cuts := []) (inl := []) (pf := gpdf) gpdf_ok 400 (by decide) h
theorem s13 {σ : gS} {K : gK} {w : Int32} (hK : K (some (.int (cKd w))) σ) : gE 13 0 [some (.int w)] [] σ K := by
  unfold cKd at hK
  refine w13 ?_
  grind (splits := 40)
noncomputable def f13 : gD := fun Lv σ => match Lv with
  | [some (.int w)] => some (none, some (.int (cKd w)), σ)
  | _ => none
theorem ok13 : gFok 13 f13 := by
  intro Lv σ q h hc K hK
  unfold f13 at h
  split at h
  · rename_i w
    cases h
    exact s13 hK
  · cases h
noncomputable def gpdg_l : List (Nat × gD) := (13, f13) :: (108, f108) :: (109, f109) :: (111, f111) :: gpdf_l
noncomputable def gpdg : gP := gpl0 gpdg_l
theorem gpdg_ok : gPok gpdg := gpl0_cons ok13 (gpl0_cons ok108 (gpl0_cons ok109 (gpl0_cons ok111 (gpdf_ok))))
-- text 50
/-! THE CLASS: the next token -/
theorem gup_tw {σ : gS} {p j : Nat} {x y : Int32} : gup (gup σ p j x) p j y = gup σ p j y := by
  funext q i
  unfold gup
  split
  · rfl
  · rename_i h; rfl
/-- the byte at i, or none -/
def cBy (T : gW) (L i : Nat) : Int32 := if i < L then T i else -1
/-- how far a run reaches -/
def skp (P : Nat → Bool) : Nat → Nat → Nat
  | 0, s => s
  | d + 1, s => if P s = true then skp P d (s + 1) else s
def tkS (T : gW) (L n : Nat) : Nat := skp (fun i => decide (cKd (T i) = 1)) (L - n) n
def tkK (T : gW) (L n : Nat) : Int32 := cKd (cBy T L (tkS T L n))
def tkE (T : gW) (L n : Nat) : Nat := if tkK T L n = 2 ∨ tkK T L n = 3 then skp (fun i => decide (cKd (T i) = tkK T L n)) (L - (tkS T L n + 1)) (tkS T L n + 1) else tkS T L n + 1
def cTk4 (σ : gS) (s : Nat) (k : Int32) (e : Nat) : gS := gup (gup (gup σ 1 2 (iN s)) 1 4 k) 1 3 (iN e)
/-- the next token stands -/
def cTok (σ : gS) : gS := cTk4 σ (tkS (σ 3) (σ 2 1).toNatClampNeg (σ 1 3).toNatClampNeg) (tkK (σ 3) (σ 2 1).toNatClampNeg (σ 1 3).toNatClampNeg) (tkE (σ 3) (σ 2 1).toNatClampNeg (σ 1 3).toNatClampNeg)
abbrev RD (σ : gS) : Prop := (0 ≤ σ 2 1 ∧ σ 2 1 ≤ 1000) ∧ (0 ≤ σ 1 3 ∧ σ 1 3 ≤ σ 2 1)
theorem RD_n {σ : gS} (h : RD σ) : ∃ L n, σ 2 1 = iN L ∧ σ 1 3 = iN n ∧ L ≤ 1000 ∧ n ≤ L ∧ (σ 2 1).toNatClampNeg = L ∧ (σ 1 3).toNatClampNeg = n := by
  obtain ⟨eL, lL⟩ := l1000 h.1
  obtain ⟨en, ln⟩ := l1000 (x := σ 1 3) ⟨h.2.1, by have := h.2.2; have := h.1.2; grind⟩
  refine ⟨_, _, eL, en, lL, ?_, rfl, rfl⟩
  have h2 := h.2.2
  rw [eL, en] at h2
  exact (iN_le (by omega) (by omega)).mp h2
theorem cBy_e {T : gW} {L s : Nat} (hL : L ≤ 1000) (hs : s ≤ 1001) : (if 0 ≤ iN s ∧ iN s < iN L then T (iN s).toNatClampNeg else -1) = cBy T L s := by
  rw [iN_nat (by omega)]
  unfold cBy
  have e : (0 ≤ iN s ∧ iN s < iN L) ↔ s < L := by
    rw [iN_lt (by omega) (by omega)]
    exact ⟨fun h => h.2, fun h => ⟨(iN_le (k := 0) (by decide) (by omega)).mpr (by omega), h⟩⟩
  simp only [e]
theorem skp_b {P : Nat → Bool} : ∀ {d s : Nat}, s ≤ skp P d s ∧ skp P d s ≤ s + d
  | 0, s => ⟨Nat.le_refl _, Nat.le_refl _⟩
  | d + 1, s => by
    unfold skp
    split
    · have := skp_b (P := P) (d := d) (s := s + 1)
      omega
    · omega
set_option maxRecDepth 20000 in
theorem w15 {σ : gS} {K : gK} (h : gE 15 8 [some (.ref 1), none] [] (gup σ 1 2 (σ 1 3)) K) : gE 15 0 [some (.ref 1), none] [] σ K :=
  gw_run (cy := 15) (cuts := [8, 53, 103]) (inl := []) (pf := gpdg) gpdg_ok 400 (by decide) h
set_option maxRecDepth 20000 in
theorem v15_8 {σ : gS} {K : gK} (h : ((¬ (σ 1 2) < (σ 2 1) → gE 15 53 [some (.ref 1), none] [] σ K) ∧ ((σ 1 2) < (σ 2 1) → (σ 2 1 ≤ 1000) ∧ ((¬ (cKd (if 0 ≤ (σ 1 2) ∧ (σ 1 2) < σ 2 1 then σ 3 (σ 1 2).toNatClampNeg else -1)) = 1 → gE 15 53 [some (.ref 1), none] [] σ K) ∧ ((cKd (if 0 ≤ (σ 1 2) ∧ (σ 1 2) < σ 2 1 then σ 3 (σ 1 2).toNatClampNeg else -1)) = 1 → gE 15 8 [some (.ref 1), none] [] (gup σ 1 2 ((σ 1 2) + 1)) K))))) : gE 15 8 [some (.ref 1), none] [] σ K :=
  gw_run (cy := 15) (cuts := [8, 53, 103]) (inl := []) (pf := gpdg) gpdg_ok 400 (by decide) h
set_option maxRecDepth 20000 in
theorem v15_53 {σ : gS} {K : gK} (h : (σ 2 1 ≤ 1000) ∧ ((((gup (gup σ 1 4 (cKd (if 0 ≤ (σ 1 2) ∧ (σ 1 2) < σ 2 1 then σ 3 (σ 1 2).toNatClampNeg else -1))) 1 3 (((gup σ 1 4 (cKd (if 0 ≤ (σ 1 2) ∧ (σ 1 2) < σ 2 1 then σ 3 (σ 1 2).toNatClampNeg else -1))) 1 2) + 1)) 1 4) = 2 → gE 15 103 [some (.ref 1), some (.int 1)] [] (gup (gup σ 1 4 (cKd (if 0 ≤ (σ 1 2) ∧ (σ 1 2) < σ 2 1 then σ 3 (σ 1 2).toNatClampNeg else -1))) 1 3 (((gup σ 1 4 (cKd (if 0 ≤ (σ 1 2) ∧ (σ 1 2) < σ 2 1 then σ 3 (σ 1 2).toNatClampNeg else -1))) 1 2) + 1)) K) ∧ (¬ ((gup (gup σ 1 4 (cKd (if 0 ≤ (σ 1 2) ∧ (σ 1 2) < σ 2 1 then σ 3 (σ 1 2).toNatClampNeg else -1))) 1 3 (((gup σ 1 4 (cKd (if 0 ≤ (σ 1 2) ∧ (σ 1 2) < σ 2 1 then σ 3 (σ 1 2).toNatClampNeg else -1))) 1 2) + 1)) 1 4) = 2 → ((¬ ((gup (gup σ 1 4 (cKd (if 0 ≤ (σ 1 2) ∧ (σ 1 2) < σ 2 1 then σ 3 (σ 1 2).toNatClampNeg else -1))) 1 3 (((gup σ 1 4 (cKd (if 0 ≤ (σ 1 2) ∧ (σ 1 2) < σ 2 1 then σ 3 (σ 1 2).toNatClampNeg else -1))) 1 2) + 1)) 1 4) = 3 → gE 15 103 [some (.ref 1), some (.int 0)] [] (gup (gup σ 1 4 (cKd (if 0 ≤ (σ 1 2) ∧ (σ 1 2) < σ 2 1 then σ 3 (σ 1 2).toNatClampNeg else -1))) 1 3 (((gup σ 1 4 (cKd (if 0 ≤ (σ 1 2) ∧ (σ 1 2) < σ 2 1 then σ 3 (σ 1 2).toNatClampNeg else -1))) 1 2) + 1)) K) ∧ (((gup (gup σ 1 4 (cKd (if 0 ≤ (σ 1 2) ∧ (σ 1 2) < σ 2 1 then σ 3 (σ 1 2).toNatClampNeg else -1))) 1 3 (((gup σ 1 4 (cKd (if 0 ≤ (σ 1 2) ∧ (σ 1 2) < σ 2 1 then σ 3 (σ 1 2).toNatClampNeg else -1))) 1 2) + 1)) 1 4) = 3 → gE 15 103 [some (.ref 1), some (.int 1)] [] (gup (gup σ 1 4 (cKd (if 0 ≤ (σ 1 2) ∧ (σ 1 2) < σ 2 1 then σ 3 (σ 1 2).toNatClampNeg else -1))) 1 3 (((gup σ 1 4 (cKd (if 0 ≤ (σ 1 2) ∧ (σ 1 2) < σ 2 1 then σ 3 (σ 1 2).toNatClampNeg else -1))) 1 2) + 1)) K))))) : gE 15 53 [some (.ref 1), none] [] σ K :=
  gw_run (cy := 15) (cuts := [8, 53, 103]) (inl := []) (pf := gpdg) gpdg_ok 400 (by decide) h
set_option maxRecDepth 20000 in
theorem v15_103 {σ : gS} {K : gK} {r : Int32} (h : ((r = 0 → K none σ) ∧ (¬ r = 0 → ((¬ (σ 1 3) < (σ 2 1) → K none σ) ∧ ((σ 1 3) < (σ 2 1) → (σ 2 1 ≤ 1000) ∧ ((¬ (cKd (if 0 ≤ (σ 1 3) ∧ (σ 1 3) < σ 2 1 then σ 3 (σ 1 3).toNatClampNeg else -1)) = (σ 1 4) → K none σ) ∧ ((cKd (if 0 ≤ (σ 1 3) ∧ (σ 1 3) < σ 2 1 then σ 3 (σ 1 3).toNatClampNeg else -1)) = (σ 1 4) → gE 15 103 [some (.ref 1), some (.int r)] [] (gup σ 1 3 ((σ 1 3) + 1)) K))))))) : gE 15 103 [some (.ref 1), some (.int r)] [] σ K :=
  gw_run (cy := 15) (cuts := [8, 53, 103]) (inl := []) (pf := gpdg) gpdg_ok 400 (by decide) h
theorem s15 {σ : gS} {K : gK} (hc : RD σ) (hK : K none (cTok σ)) : gE 15 0 [some (.ref 1), none] [] σ K := by
  obtain ⟨L, n, eL, en, lL, ln, nL, nn⟩ := RD_n hc
  unfold cTok at hK
  rw [nL, nn] at hK
  -- the run
  have k2 : ∀ (s : Nat) (k : Int32) (d e : Nat), e + d = L ∨ (d = 0 ∧ L ≤ e ∧ e ≤ 1001) → K none (cTk4 σ s k (skp (fun i => decide (cKd (σ 3 i) = k)) d e)) → gE 15 103 [some (.ref 1), some (.int 1)] [] (cTk4 σ s k e) K := by
    intro s k d
    induction d with
    | zero =>
      intro e he hK
      have f1 : cTk4 σ s k e 1 3 = iN e := gup_at _ _ _
      have f2 : cTk4 σ s k e 2 1 = iN L := by unfold cTk4; rw [gup_ne (by omega), gup_ne (by omega), gup_ne (by omega)]; exact eL
      refine v15_103 ⟨fun h => absurd h (by decide), fun _ => ⟨fun _ => hK, fun h => ?_⟩⟩
      rw [f1, f2] at h
      exact absurd ((iN_lt (by omega) (by omega)).mp h) (by omega)
    | succ d ih =>
      intro e he hK
      have heL : e < L := by omega
      have f1 : cTk4 σ s k e 1 3 = iN e := gup_at _ _ _
      have f2 : cTk4 σ s k e 2 1 = iN L := by unfold cTk4; rw [gup_ne (by omega), gup_ne (by omega), gup_ne (by omega)]; exact eL
      have f3 : ∀ i, cTk4 σ s k e 3 i = σ 3 i := fun i => by unfold cTk4; rw [gup_ne (by omega), gup_ne (by omega), gup_ne (by omega)]
      have f4 : cTk4 σ s k e 1 4 = k := by unfold cTk4; rw [gup_ne (by omega), gup_at]
      have f5 : gup (cTk4 σ s k e) 1 3 (iN e + 1) = cTk4 σ s k (e + 1) := by
        unfold cTk4
        rw [gup_tw, iN_one]
      have f6 : cTk4 σ s k e 3 = σ 3 := funext f3
      refine v15_103 ⟨fun h => absurd h (by decide), fun _ => ⟨fun h => ?_, fun h => ⟨?_, fun h2 => ?_, fun h2 => ?_⟩⟩⟩
      · rw [f1, f2] at h
        exact absurd ((iN_lt (by omega) (by omega)).mpr heL) h
      · rw [f2]; exact (iN_le (m := 1000) (by omega) (by decide)).mpr lL
      · rw [f1, f2, f6, cBy_e lL (by omega), f4] at h2
        unfold cBy at h2
        rw [if_pos heL] at h2
        unfold skp at hK
        rw [if_neg (by simp only [decide_eq_true_eq]; exact h2)] at hK
        exact hK
      · rw [f1, f2, f6, cBy_e lL (by omega), f4] at h2
        unfold cBy at h2
        rw [if_pos heL] at h2
        unfold skp at hK
        rw [if_pos (by simp only [decide_eq_true_eq]; exact h2)] at hK
        rw [f1, f5]
        exact ih (e + 1) (by omega) hK
  -- behind the white
  obtain ⟨s, hs⟩ : ∃ s, tkS (σ 3) L n = s := ⟨_, rfl⟩
  have sL : s ≤ L := by
    rw [← hs]
    have := (skp_b (P := fun i => decide (cKd (σ 3 i) = 1)) (d := L - n) (s := n)).2
    unfold tkS
    omega
  have k53 : gE 15 53 [some (.ref 1), none] [] (gup σ 1 2 (iN s)) K := by
    have f1 : gup σ 1 2 (iN s) 1 2 = iN s := gup_at _ _ _
    have f2 : gup σ 1 2 (iN s) 2 1 = iN L := by rw [gup_ne (by omega)]; exact eL
    have f6 : gup σ 1 2 (iN s) 3 = σ 3 := funext fun i => gup_ne (by omega)
    have eK : tkK (σ 3) L n = cKd (cBy (σ 3) L s) := by unfold tkK; rw [hs]
    have g0 : ∀ k : Int32, gup (gup (gup σ 1 2 (iN s)) 1 4 k) 1 3 (gup (gup σ 1 2 (iN s)) 1 4 k 1 2 + 1) = cTk4 σ s k (s + 1) := by
      intro k
      rw [gup_ne (by omega), f1, iN_one]
      rfl
    unfold tkE at hK
    rw [hs, eK] at hK
    obtain ⟨k, hk⟩ : ∃ k, cKd (cBy (σ 3) L s) = k := ⟨_, rfl⟩
    rw [hk] at hK
    have f4 : cTk4 σ s k (s + 1) 1 4 = k := by unfold cTk4; rw [gup_ne (by omega), gup_at]
    have run : k = 2 ∨ k = 3 → gE 15 103 [some (.ref 1), some (.int 1)] [] (cTk4 σ s k (s + 1)) K := by
      intro h
      rw [if_pos h] at hK
      exact k2 s k (L - (s + 1)) (s + 1) (by omega) hK
    refine v15_53 ⟨by rw [f2]; exact (iN_le (m := 1000) (by omega) (by decide)).mpr lL, ?_⟩
    rw [f1, f2, f6, cBy_e lL (by omega), hk, g0, f4]
    refine ⟨fun h => run (Or.inl h), fun h => ⟨fun h2 => ?_, fun h2 => run (Or.inr h2)⟩⟩
    rw [if_neg (fun q => q.elim h h2)] at hK
    exact v15_103 ⟨fun _ => hK, fun h => absurd rfl h⟩
  have key : ∀ d s', s' + d = L → skp (fun i => decide (cKd (σ 3 i) = 1)) d s' = s → gE 15 8 [some (.ref 1), none] [] (gup σ 1 2 (iN s')) K := by
    intro d
    induction d with
    | zero =>
      intro s' hd hq
      have : s' = s := hq
      subst this
      have f1 : gup σ 1 2 (iN s') 1 2 = iN s' := gup_at _ _ _
      have f2 : gup σ 1 2 (iN s') 2 1 = iN L := by rw [gup_ne (by omega)]; exact eL
      refine v15_8 ⟨fun _ => k53, fun h => ?_⟩
      rw [f1, f2] at h
      exact absurd ((iN_lt (by omega) (by omega)).mp h) (by omega)
    | succ d ih =>
      intro s' hd hq
      have f1 : gup σ 1 2 (iN s') 1 2 = iN s' := gup_at _ _ _
      have f2 : gup σ 1 2 (iN s') 2 1 = iN L := by rw [gup_ne (by omega)]; exact eL
      have f6 : gup σ 1 2 (iN s') 3 = σ 3 := funext fun i => gup_ne (by omega)
      unfold skp at hq
      refine v15_8 ⟨fun h => ?_, fun h => ⟨?_, fun h2 => ?_, fun h2 => ?_⟩⟩
      · rw [f1, f2] at h
        exact absurd ((iN_lt (by omega) (by omega)).mpr (by omega)) h
      · rw [f2]; exact (iN_le (m := 1000) (by omega) (by decide)).mpr lL
      · rw [f1, f2, f6, cBy_e lL (by omega)] at h2
        unfold cBy at h2
        rw [if_pos (by omega)] at h2
        rw [if_neg (by simp only [decide_eq_true_eq]; exact h2)] at hq
        subst hq
        exact k53
      · rw [f1, f2, f6, cBy_e lL (by omega)] at h2
        unfold cBy at h2
        rw [if_pos (by omega)] at h2
        rw [if_pos (by simp only [decide_eq_true_eq]; exact h2)] at hq
        rw [f1, gup_tw, iN_one]
        exact ih (s' + 1) (by omega) hq
  refine w15 ?_
  rw [en]
  exact key (L - n) n (by omega) hs
noncomputable def f15 : gD := fun Lv σ => match Lv with
  | [some (.ref q0), none] => cond (Nat.beq q0 1) (some (some (RD σ), none, cTok σ)) none
  | _ => none
theorem ok15 : gFok 15 f15 := by
  intro Lv σ q h hc K hK
  unfold f15 at h
  split at h
  · rename_i q0
    obtain ⟨hb, h⟩ := c_no h
    have hb0 := hb
    have e0 := b_eq hb0
    subst e0
    cases h
    exact s15 (hc _ rfl) hK
  · cases h
noncomputable def gpdh_l : List (Nat × gD) := (15, f15) :: gpdg_l
noncomputable def gpdh : gP := gpl0 gpdh_l
theorem gpdh_ok : gPok gpdh := gpl0_cons ok15 (gpdg_ok)
