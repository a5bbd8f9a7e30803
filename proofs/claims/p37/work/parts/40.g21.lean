section
-- text 21
/-! THE REFERENCE: the tape -/
abbrev isSm (x : Int32) : Prop := 97 ≤ x ∧ x ≤ 122
abbrev isDg (x : Int32) : Prop := 48 ≤ x ∧ x ≤ 57
abbrev RT (σ : gS) : Prop := 0 ≤ σ 323 8 ∧ σ 323 8 ≤ 1000
set_option maxRecDepth 20000 in
theorem w187 {σ : gS} {K : gK} {k : Int32} (h : ((¬ k < (σ 323 8) → ((0 : Int32) = 0 ∨ (0 : Int32) = 1) ∧ K (some (.int 0)) σ) ∧ (k < (σ 323 8) → (0 ≤ k ∧ k < 1000) ∧ (((σ 330 k.toNatClampNeg) < 97 → ((0 : Int32) = 0 ∨ (0 : Int32) = 1) ∧ K (some (.int 0)) σ) ∧ (¬ (σ 330 k.toNatClampNeg) < 97 → (0 ≤ k ∧ k < 1000) ∧ ((122 < (σ 330 k.toNatClampNeg) → ((0 : Int32) = 0 ∨ (0 : Int32) = 1) ∧ K (some (.int 0)) σ) ∧ (¬ 122 < (σ 330 k.toNatClampNeg) → ((1 : Int32) = 0 ∨ (1 : Int32) = 1) ∧ K (some (.int 1)) σ))))))) : gE 187 0 [some (.ref 323), some (.int k)] [] σ K :=
  gw_run (cy := 187) (cuts := []) (inl := []) (pf := gpfR) gpfR_ok 400 (by decide) h
theorem s187 {σ : gS} {K : gK} {k : Int32} (hc : (0 ≤ k) ∧ RT σ) (hK : K (some (.int (bI (k < σ 323 8 ∧ isSm (σ 330 k.toNatClampNeg))))) σ) : gE 187 0 [some (.ref 323), some (.int k)] [] σ K := by
  obtain ⟨h0, h1, h2⟩ := hc
  refine w187 ?_
  grind [bI]
noncomputable def f187 : gD := fun Lv σ => match Lv with
  | [some (.ref q0), some (.int k)] => cond (Nat.beq q0 323) (some (some ((0 ≤ k) ∧ RT σ), some (.int (bI (k < σ 323 8 ∧ isSm (σ 330 k.toNatClampNeg)))), σ)) none
  | _ => none
theorem ok187 : gFok 187 f187 := by
  intro Lv σ q h hc K hK
  unfold f187 at h
  split at h
  · rename_i q0 k
    obtain ⟨hb, h⟩ := c_no h
    have hb0 := hb
    have e0 := b_eq hb0
    subst e0
    cases h
    exact s187 (hc _ rfl) hK
  · cases h
set_option maxRecDepth 20000 in
theorem w188 {σ : gS} {K : gK} {k : Int32} (h : ((¬ k < (σ 323 8) → ((0 : Int32) = 0 ∨ (0 : Int32) = 1) ∧ K (some (.int 0)) σ) ∧ (k < (σ 323 8) → (0 ≤ k ∧ k < 1000) ∧ (((σ 330 k.toNatClampNeg) < 48 → ((0 : Int32) = 0 ∨ (0 : Int32) = 1) ∧ K (some (.int 0)) σ) ∧ (¬ (σ 330 k.toNatClampNeg) < 48 → (0 ≤ k ∧ k < 1000) ∧ ((57 < (σ 330 k.toNatClampNeg) → ((0 : Int32) = 0 ∨ (0 : Int32) = 1) ∧ K (some (.int 0)) σ) ∧ (¬ 57 < (σ 330 k.toNatClampNeg) → ((1 : Int32) = 0 ∨ (1 : Int32) = 1) ∧ K (some (.int 1)) σ))))))) : gE 188 0 [some (.ref 323), some (.int k)] [] σ K :=
  gw_run (cy := 188) (cuts := []) (inl := []) (pf := gpfR) gpfR_ok 400 (by decide) h
theorem s188 {σ : gS} {K : gK} {k : Int32} (hc : (0 ≤ k) ∧ RT σ) (hK : K (some (.int (bI (k < σ 323 8 ∧ isDg (σ 330 k.toNatClampNeg))))) σ) : gE 188 0 [some (.ref 323), some (.int k)] [] σ K := by
  obtain ⟨h0, h1, h2⟩ := hc
  refine w188 ?_
  grind [bI]
noncomputable def f188 : gD := fun Lv σ => match Lv with
  | [some (.ref q0), some (.int k)] => cond (Nat.beq q0 323) (some (some ((0 ≤ k) ∧ RT σ), some (.int (bI (k < σ 323 8 ∧ isDg (σ 330 k.toNatClampNeg)))), σ)) none
  | _ => none
theorem ok188 : gFok 188 f188 := by
  intro Lv σ q h hc K hK
  unfold f188 at h
  split at h
  · rename_i q0 k
    obtain ⟨hb, h⟩ := c_no h
    have hb0 := hb
    have e0 := b_eq hb0
    subst e0
    cases h
    exact s188 (hc _ rfl) hK
  · cases h
noncomputable def gpfS_l : List (Nat × gD) := (187, f187) :: (188, f188) :: gpfR_l
noncomputable def gpfS : gP := gpl0 gpfS_l
theorem gpfS_ok : gPok gpfS := gpl0_cons ok187 (gpl0_cons ok188 (gpfR_ok))
/-- k zeros from a on -/
def zsh (R : gW) (a k : Nat) : gW := fun j => if a ≤ j ∧ j < a + k then 0 else R j
theorem zsh_0 (R : gW) (a : Nat) : zsh R a 0 = R := by funext j; unfold zsh; rw [if_neg (by omega)]
theorem zsh_s (R : gW) (a k : Nat) : rup (zsh R a k) (a + k) 0 = zsh R a (k + 1) := by
  funext j
  unfold rup zsh
  by_cases h : j = a + k
  · rw [if_pos h, if_pos (by omega)]
  · rw [if_neg h]
    by_cases h2 : a ≤ j ∧ j < a + k
    · rw [if_pos h2, if_pos (by omega)]
    · rw [if_neg h2, if_neg (by omega)]
/-- a new traveller begun -/
def fNew (R : gW) (x w : Int32) : gW := rup (rup (rup (zsh R (9 + 10 * nM R) 10) (9 + 10 * nM R + 0) x) (9 + 10 * nM R + 9) w) (9 + 10 * nM R + 8) 99
set_option maxRecDepth 20000 in
theorem w201_324 {σ : gS} {K : gK} {x w : Int32} (h : (0 ≤ (3 : Int32) ∧ (3 : Int32) < 330) ∧ gE 201 7 [some (.ref 324), some (.int x), some (.int w), some (.int (σ 324 3)), some (.int 0)] [] σ K) : gE 201 0 [some (.ref 324), some (.int x), some (.int w), none, none] [] σ K :=
  gw_run (cy := 201) (cuts := [7]) (inl := []) (pf := gpfS) gpfS_ok 400 (by decide) h
set_option maxRecDepth 20000 in
theorem c324_201_7 {σ : gS} {K : gK} {l1 l2 l3 l4 : Int32} (h : ((¬ l4 < 10 → (0 ≤ (9 + 10 * l3 + (0 : Int32)) ∧ (9 + 10 * l3 + (0 : Int32)) < 330) ∧ (0 ≤ (9 + 10 * l3 + (9 : Int32)) ∧ (9 + 10 * l3 + (9 : Int32)) < 330) ∧ (0 ≤ (9 + 10 * l3 + (8 : Int32)) ∧ (9 + 10 * l3 + (8 : Int32)) < 330) ∧ K none (gup (gup (gup σ 324 (9 + 10 * l3 + (0 : Int32)).toNatClampNeg l1) 324 (9 + 10 * l3 + (9 : Int32)).toNatClampNeg l2) 324 (9 + 10 * l3 + (8 : Int32)).toNatClampNeg 99)) ∧ (l4 < 10 → (0 ≤ (9 + 10 * l3 + l4) ∧ (9 + 10 * l3 + l4) < 330) ∧ gE 201 7 [some (.ref 324), some (.int l1), some (.int l2), some (.int l3), some (.int (l4 + 1))] [] (gup σ 324 (9 + 10 * l3 + l4).toNatClampNeg 0) K))) : gE 201 7 [some (.ref 324), some (.int l1), some (.int l2), some (.int l3), some (.int l4)] [] σ K :=
  gw_run (cy := 201) (cuts := [7]) (inl := []) (pf := gpfS) gpfS_ok 400 (by decide) h
theorem s201_324 {σ : gS} {K : gK} {x w : Int32} (hc : 0 ≤ σ 324 3 ∧ σ 324 3 < 20) (hK : K none (grow σ 324 (fNew (σ 324) x w))) : gE 201 0 [some (.ref 324), some (.int x), some (.int w), none, none] [] σ K := by
  obtain ⟨e3, l3⟩ := t20 hc
  obtain ⟨n, hn⟩ : ∃ n, nM (σ 324) = n := ⟨_, rfl⟩
  have hn' : (σ 324 3).toNatClampNeg = n := hn
  rw [hn'] at e3 l3
  unfold fNew at hK
  rw [hn] at hK
  refine w201_324 ⟨by decide, ?_⟩
  rw [e3]
  have main := g_forI (y := 201) (pc := 7) (K := K) 10 (fun k => [some (.ref 324), some (.int x), some (.int w), some (.int (iN n)), some (.int (iN k))]) (fun k => grow σ 324 (zsh (σ 324) (9 + 10 * n) k)) (fun _ => True) (fun _ => by
    refine c324_201_7 ⟨fun _ => ⟨ixb0 l3, ixb9 l3, ixb8 l3, ?_⟩, fun h => absurd h (by decide)⟩
    rw [ix0 l3, ix8 l3, ix9 l3]
    simp (disch := decide) only [gup_grow, grow_grow, grow_at]
    exact hK) (fun k hk _ ih => by
    refine c324_201_7 ⟨fun h => ?_, fun h => ⟨ixbn k n l3 (by omega), ?_⟩⟩
    · exact absurd ((iN_lt (m := 10) (by omega) (by decide)).mpr hk) h
    · rw [ixn k n l3 (by omega), gup_grow, grow_grow, grow_at, zsh_s, iN_one]
      exact ih trivial) 0 (Nat.zero_le _) trivial
  rw [zsh_0, grow_id] at main
  exact main
set_option maxRecDepth 20000 in
theorem w201_325 {σ : gS} {K : gK} {x w : Int32} (h : (0 ≤ (3 : Int32) ∧ (3 : Int32) < 330) ∧ gE 201 7 [some (.ref 325), some (.int x), some (.int w), some (.int (σ 325 3)), some (.int 0)] [] σ K) : gE 201 0 [some (.ref 325), some (.int x), some (.int w), none, none] [] σ K :=
  gw_run (cy := 201) (cuts := [7]) (inl := []) (pf := gpfS) gpfS_ok 400 (by decide) h
set_option maxRecDepth 20000 in
theorem c325_201_7 {σ : gS} {K : gK} {l1 l2 l3 l4 : Int32} (h : ((¬ l4 < 10 → (0 ≤ (9 + 10 * l3 + (0 : Int32)) ∧ (9 + 10 * l3 + (0 : Int32)) < 330) ∧ (0 ≤ (9 + 10 * l3 + (9 : Int32)) ∧ (9 + 10 * l3 + (9 : Int32)) < 330) ∧ (0 ≤ (9 + 10 * l3 + (8 : Int32)) ∧ (9 + 10 * l3 + (8 : Int32)) < 330) ∧ K none (gup (gup (gup σ 325 (9 + 10 * l3 + (0 : Int32)).toNatClampNeg l1) 325 (9 + 10 * l3 + (9 : Int32)).toNatClampNeg l2) 325 (9 + 10 * l3 + (8 : Int32)).toNatClampNeg 99)) ∧ (l4 < 10 → (0 ≤ (9 + 10 * l3 + l4) ∧ (9 + 10 * l3 + l4) < 330) ∧ gE 201 7 [some (.ref 325), some (.int l1), some (.int l2), some (.int l3), some (.int (l4 + 1))] [] (gup σ 325 (9 + 10 * l3 + l4).toNatClampNeg 0) K))) : gE 201 7 [some (.ref 325), some (.int l1), some (.int l2), some (.int l3), some (.int l4)] [] σ K :=
  gw_run (cy := 201) (cuts := [7]) (inl := []) (pf := gpfS) gpfS_ok 400 (by decide) h
theorem s201_325 {σ : gS} {K : gK} {x w : Int32} (hc : 0 ≤ σ 325 3 ∧ σ 325 3 < 20) (hK : K none (grow σ 325 (fNew (σ 325) x w))) : gE 201 0 [some (.ref 325), some (.int x), some (.int w), none, none] [] σ K := by
  obtain ⟨e3, l3⟩ := t20 hc
  obtain ⟨n, hn⟩ : ∃ n, nM (σ 325) = n := ⟨_, rfl⟩
  have hn' : (σ 325 3).toNatClampNeg = n := hn
  rw [hn'] at e3 l3
  unfold fNew at hK
  rw [hn] at hK
  refine w201_325 ⟨by decide, ?_⟩
  rw [e3]
  have main := g_forI (y := 201) (pc := 7) (K := K) 10 (fun k => [some (.ref 325), some (.int x), some (.int w), some (.int (iN n)), some (.int (iN k))]) (fun k => grow σ 325 (zsh (σ 325) (9 + 10 * n) k)) (fun _ => True) (fun _ => by
    refine c325_201_7 ⟨fun _ => ⟨ixb0 l3, ixb9 l3, ixb8 l3, ?_⟩, fun h => absurd h (by decide)⟩
    rw [ix0 l3, ix8 l3, ix9 l3]
    simp (disch := decide) only [gup_grow, grow_grow, grow_at]
    exact hK) (fun k hk _ ih => by
    refine c325_201_7 ⟨fun h => ?_, fun h => ⟨ixbn k n l3 (by omega), ?_⟩⟩
    · exact absurd ((iN_lt (m := 10) (by omega) (by decide)).mpr hk) h
    · rw [ixn k n l3 (by omega), gup_grow, grow_grow, grow_at, zsh_s, iN_one]
      exact ih trivial) 0 (Nat.zero_le _) trivial
  rw [zsh_0, grow_id] at main
  exact main
noncomputable def f201 : gD := fun Lv σ => match Lv with
  | [some (.ref p), some (.int x), some (.int w), none, none] => cond (Nat.beq p 324 || Nat.beq p 325) (some (some (0 ≤ σ p 3 ∧ σ p 3 < 20), none, grow σ p (fNew (σ p) x w))) none
  | _ => none
theorem ok201 : gFok 201 f201 := by
  intro Lv σ q h hc K hK
  unfold f201 at h
  split at h
  · rename_i p x w
    obtain ⟨hb, h⟩ := c_no h
    have hb0 := hb
    rcases s_or hb0 with hb0 | hb0
    · have e := b_eq hb0
      subst e
      cases h
      exact s201_324 (hc _ rfl) hK
    · have e := b_eq hb0
      subst e
      cases h
      exact s201_325 (hc _ rfl) hK
  · cases h
/-- the number of the first k letters -/
def tnm (T : gW) : Nat → Int32
  | 0 => 0
  | k + 1 => 27 * tnm T k + T k - 96
abbrev smA (T : gW) (k : Nat) : Prop := ∀ j, j < k → isSm (T j)
theorem tnm_b {T : gW} : ∀ {k : Nat}, k ≤ 6 → smA T k → ∃ n : Nat, tnm T k = iN n ∧ n < 27 ^ k
  | 0, _, _ => ⟨0, rfl, by decide⟩
  | k + 1, hk, h => by
    obtain ⟨n, e, l⟩ := tnm_b (show k ≤ 6 by omega) (fun j hj => h j (by omega))
    obtain ⟨h1, h2⟩ := h k (by omega)
    obtain ⟨e2, l2⟩ := iN_of (show 0 ≤ T k by grind)
    obtain ⟨m, hm⟩ : ∃ m, (T k).toNatClampNeg = m := ⟨_, rfl⟩
    rw [hm] at e2 l2
    have h1 : 97 ≤ m := by
      rw [e2] at h1
      exact (iN_le (k := 97) (by decide) l2).mp h1
    have h2 : m ≤ 122 := by
      rw [e2] at h2
      exact (iN_le (m := 122) l2 (by decide)).mp h2
    have lp : 27 ^ k ≤ 27 ^ 5 := Nat.pow_le_pow_right (by decide) (by omega)
    have lp : 27 ^ k ≤ 14348907 := lp
    refine ⟨27 * n + m - 96, ?_, ?_⟩
    · show 27 * tnm T k + T k - 96 = _
      rw [e, e2, show (27 : Int32) = iN 27 from rfl, show (96 : Int32) = iN 96 from rfl, iN_mul, iN_add]
      exact iN_sub (by omega) (by omega)
    · rw [Nat.pow_succ]
      omega
def fTn (T : gW) (L : Int32) : Int32 := if (1 ≤ L ∧ L ≤ 5) ∧ smA T L.toNatClampNeg ∧ nsz (tnm T L.toNatClampNeg) ≤ 5 ∧ ¬ isKey (tnm T L.toNatClampNeg) then tnm T L.toNatClampNeg else -1
set_option maxRecDepth 20000 in
theorem w207 {σ : gS} {K : gK} (h : gE 207 14 [some (.ref 323), some (.int 0), some (.int (bI ((1 : Int32) ≤ (σ 323 8) ∧ (σ 323 8) ≤ (5 : Int32)))), some (.int 0)] [] σ K) : gE 207 0 [some (.ref 323), none, none, none] [] σ K :=
  gw_run (cy := 207) (cuts := [14]) (inl := []) (pf := gpfS) gpfS_ok 400 (by decide) h
set_option maxRecDepth 20000 in
theorem c207_14 {σ : gS} {K : gK} {l1 l2 l3 : Int32} (h : ((¬ l3 < (σ 323 8) → ((l2 = 0 → K (some (.int (-1))) σ) ∧ (¬ l2 = 0 → (0 ≤ l1) ∧ (((bI (nsz l1 ≤ 5 ∧ ¬ isKey l1)) = 0 → K (some (.int (-1))) σ) ∧ (¬ (bI (nsz l1 ≤ 5 ∧ ¬ isKey l1)) = 0 → K (some (.int l1)) σ))))) ∧ (l3 < (σ 323 8) → ((l2 = 0 → ((l2 = 0 → K (some (.int (-1))) σ) ∧ (¬ l2 = 0 → (0 ≤ l1) ∧ (((bI (nsz l1 ≤ 5 ∧ ¬ isKey l1)) = 0 → K (some (.int (-1))) σ) ∧ (¬ (bI (nsz l1 ≤ 5 ∧ ¬ isKey l1)) = 0 → K (some (.int l1)) σ))))) ∧ (¬ l2 = 0 → ((0 ≤ l3) ∧ RT σ) ∧ (0 ≤ l3 ∧ l3 < 1000) ∧ gE 207 14 [some (.ref 323), some (.int (((27 * l1) + (σ 330 l3.toNatClampNeg)) - 96)), some (.int (bI (l3 < σ 323 8 ∧ isSm (σ 330 l3.toNatClampNeg)))), some (.int (l3 + 1))] [] σ K))))) : gE 207 14 [some (.ref 323), some (.int l1), some (.int l2), some (.int l3)] [] σ K :=
  gw_run (cy := 207) (cuts := [14]) (inl := []) (pf := gpfS) gpfS_ok 400 (by decide) h
theorem s207 {σ : gS} {K : gK} (hc : RT σ) (hK : K (some (.int (fTn (σ 330) (σ 323 8)))) σ) : gE 207 0 [some (.ref 323), none, none, none] [] σ K := by
  obtain ⟨h0, h1⟩ := hc
  have no : ∀ n i, ¬ ((1 ≤ σ 323 8 ∧ σ 323 8 ≤ 5) ∧ smA (σ 330) (σ 323 8).toNatClampNeg) → gE 207 14 [some (.ref 323), some (.int n), some (.int 0), some (.int i)] [] σ K := by
    intro n i h
    have e : fTn (σ 330) (σ 323 8) = -1 := if_neg (fun q => h ⟨q.1, q.2.1⟩)
    rw [e] at hK
    exact c207_14 ⟨fun _ => ⟨fun _ => hK, fun h => absurd rfl h⟩, fun _ => ⟨fun _ => ⟨fun _ => hK, fun h => absurd rfl h⟩, fun h => absurd rfl h⟩⟩
  refine w207 ?_
  by_cases hL : 1 ≤ σ 323 8 ∧ σ 323 8 ≤ 5
  · rw [bI_t hL]
    obtain ⟨e, l⟩ := iN_of h0
    obtain ⟨L, hl⟩ : ∃ L, (σ 323 8).toNatClampNeg = L := ⟨_, rfl⟩
    rw [hl] at e l
    have l5 : L ≤ 5 := by
      have h := hL.2
      rw [e] at h
      exact (iN_le (m := 5) l (by decide)).mp h
    refine g_forI (y := 207) (pc := 14) (K := K) L (fun k => [some (.ref 323), some (.int (tnm (σ 330) k)), some (.int 1), some (.int (iN k))]) (fun _ => σ) (fun k => smA (σ 330) k) (fun hi => ?_) (fun k hk hi ih => ?_) 0 (Nat.zero_le _) (fun j hj => absurd hj (Nat.not_lt_zero j))
    · obtain ⟨n, en, ln⟩ := tnm_b (show L ≤ 6 by omega) hi
      have ln : n < 14348907 := Nat.lt_of_lt_of_le ln (show 27 ^ L ≤ 27 ^ 5 from Nat.pow_le_pow_right (by decide) l5)
      have hn0 : 0 ≤ tnm (σ 330) L := by
        rw [en]
        exact (iN_le (k := 0) (by decide) (by omega)).mpr (by omega)
      have ef : fTn (σ 330) (σ 323 8) = if nsz (tnm (σ 330) L) ≤ 5 ∧ ¬ isKey (tnm (σ 330) L) then tnm (σ 330) L else -1 := by
        unfold fTn
        rw [hl]
        by_cases h : nsz (tnm (σ 330) L) ≤ 5 ∧ ¬ isKey (tnm (σ 330) L)
        · rw [if_pos h, if_pos ⟨hL, hi, h⟩]
        · rw [if_neg h, if_neg (fun q => h q.2.2)]
      rw [ef] at hK
      refine c207_14 ⟨fun _ => ⟨fun h => absurd h (by decide), fun _ => ⟨hn0, ?_⟩⟩, fun h => ?_⟩
      · rw [bI_0]
        refine ⟨fun h => ?_, fun h => ?_⟩
        · rw [if_neg h] at hK; exact hK
        · rw [if_pos (Decidable.not_not.mp h)] at hK; exact hK
      · rw [e, iN_lt (by omega) (by omega)] at h; omega
    · refine c207_14 ⟨fun h => ?_, fun h => ⟨fun h => absurd h (by decide), fun _ => ?_⟩⟩
      · rw [e, iN_lt (by omega) (by omega)] at h; omega
      · have hk0 : 0 ≤ iN k := (iN_le (k := 0) (by decide) (by omega)).mpr (by omega)
        refine ⟨⟨hk0, h0, h1⟩, ⟨hk0, (iN_lt (m := 1000) (by omega) (by decide)).mpr (by omega)⟩, ?_⟩
        rw [iN_nat (by omega), iN_one]
        by_cases hs : isSm (σ 330 k)
        · rw [bI_t ⟨h, hs⟩]
          refine ih (fun j hj => ?_)
          rcases Nat.lt_or_ge j k with q | q
          · exact hi j q
          · have : j = k := by omega
            subst this
            exact hs
        · rw [bI_f (fun q => hs q.2)]
          refine no _ _ (fun q => hs (q.2 k ?_))
          rw [hl]; exact hk
  · rw [bI_f hL]
    exact no _ _ (fun q => hL q.1)
noncomputable def f207 : gD := fun Lv σ => match Lv with
  | [some (.ref q0), none, none, none] => cond (Nat.beq q0 323) (some (some (RT σ), some (.int (fTn (σ 330) (σ 323 8))), σ)) none
  | _ => none
theorem ok207 : gFok 207 f207 := by
  intro Lv σ q h hc K hK
  unfold f207 at h
  split at h
  · rename_i q0
    obtain ⟨hb, h⟩ := c_no h
    have hb0 := hb
    have e0 := b_eq hb0
    subst e0
    cases h
    exact s207 (hc _ rfl) hK
  · cases h
noncomputable def gpfT_l : List (Nat × gD) := (201, f201) :: (207, f207) :: gpfS_l
noncomputable def gpfT : gP := gpl0 gpfT_l
theorem gpfT_ok : gPok gpfT := gpl0_cons ok201 (gpl0_cons ok207 (gpfS_ok))
-- text 22
/-! THE REFERENCE: append, truncate, come -/
def wrd (a b c d e : Int32) (k : Nat) : Int32 := if k < 4 then a else if k < 8 then b else if k < 12 then c else if k < 16 then d else e
def byt (a b c d e : Int32) (k : Nat) : Int32 := wrd a b c d e k >>> iN (24 - 8 * (k % 4)) &&& 255
theorem sh20 : ∀ k, k < 20 → (24 - (8 * (iN k - iN k / 4 * 4))) &&& 31 = iN (24 - 8 * (k % 4)) := by decide +kernel
/-- k of the bytes behind n of the tape's -/
def fAp (T : gW) (n : Nat) (B : Nat → Int32) (k : Nat) : gW := fun j => if n ≤ j ∧ j < n + k then B (j - n) else T j
theorem fAp_0 (T : gW) (n : Nat) (B : Nat → Int32) : fAp T n B 0 = T := by funext j; unfold fAp; rw [if_neg (by omega)]
theorem fAp_s (T : gW) (n : Nat) (B : Nat → Int32) (k : Nat) : rup (fAp T n B k) (n + k) (B k) = fAp T n B (k + 1) := by
  funext j
  unfold rup fAp
  by_cases h : j = n + k
  · rw [if_pos h, if_pos (by omega), h, show n + k - n = k by omega]
  · rw [if_neg h]
    by_cases h2 : n ≤ j ∧ j < n + k
    · rw [if_pos h2, if_pos (by omega)]
    · rw [if_neg h2, if_neg (by omega)]
def hAp (σ : gS) (B : Nat → Int32) : gS := if 1000 < σ 323 8 + 20 then σ else grow (grow σ 330 (fAp (σ 330) (σ 323 8).toNatClampNeg B 20)) 323 (rup (σ 323) 8 (σ 323 8 + 20))
theorem l1000 {x : Int32} (h : 0 ≤ x ∧ x ≤ 1000) : x = iN x.toNatClampNeg ∧ x.toNatClampNeg ≤ 1000 := by
  obtain ⟨e, l⟩ := iN_of h.1
  refine ⟨e, ?_⟩
  have h2 := h.2
  rw [e] at h2
  exact (iN_le (m := 1000) l (by decide)).mp h2
set_option maxRecDepth 20000 in
theorem w184 {σ : gS} {K : gK} {a b c d e : Int32} (h : ((¬ 1000 < ((σ 323 8) + 20) → gE 184 18 [some (.ref 323), some (.int a), some (.int b), some (.int c), some (.int d), some (.int e), some (.int 0), none] [] σ K) ∧ (1000 < ((σ 323 8) + 20) → K (some (.int (-1))) σ))) : gE 184 0 [some (.ref 323), some (.int a), some (.int b), some (.int c), some (.int d), some (.int e), none, none] [] σ K :=
  gw_run (cy := 184) (cuts := [18]) (inl := []) (pf := gpfT) gpfT_ok 400 (by decide) h
set_option maxRecDepth 20000 in
theorem c184_18 {σ : gS} {K : gK} {l1 l2 l3 l4 l5 l6 : Int32} {l7 : Option Value} (h : ((¬ l6 < 20 → K (some (.int (σ 323 8))) σ) ∧ (l6 < 20 → ((¬ l6 < 4 → ((¬ l6 < 8 → ((¬ l6 < 12 → ((¬ l6 < 16 → (4 : Int32) ≠ 0 ∧ (0 ≤ (σ 323 8) ∧ (σ 323 8) < 1000) ∧ gE 184 18 [some (.ref 323), some (.int l1), some (.int l2), some (.int l3), some (.int l4), some (.int l5), some (.int (l6 + 1)), some (.int l5)] [] (gup (gup σ 330 (σ 323 8).toNatClampNeg ((l5 >>> ((24 - (8 * (l6 - l6 / 4 * 4))) &&& 31)) &&& 255)) 323 8 (((gup σ 330 (σ 323 8).toNatClampNeg ((l5 >>> ((24 - (8 * (l6 - l6 / 4 * 4))) &&& 31)) &&& 255)) 323 8) + 1)) K) ∧ (l6 < 16 → (4 : Int32) ≠ 0 ∧ (0 ≤ (σ 323 8) ∧ (σ 323 8) < 1000) ∧ gE 184 18 [some (.ref 323), some (.int l1), some (.int l2), some (.int l3), some (.int l4), some (.int l5), some (.int (l6 + 1)), some (.int l4)] [] (gup (gup σ 330 (σ 323 8).toNatClampNeg ((l4 >>> ((24 - (8 * (l6 - l6 / 4 * 4))) &&& 31)) &&& 255)) 323 8 (((gup σ 330 (σ 323 8).toNatClampNeg ((l4 >>> ((24 - (8 * (l6 - l6 / 4 * 4))) &&& 31)) &&& 255)) 323 8) + 1)) K))) ∧ (l6 < 12 → (4 : Int32) ≠ 0 ∧ (0 ≤ (σ 323 8) ∧ (σ 323 8) < 1000) ∧ gE 184 18 [some (.ref 323), some (.int l1), some (.int l2), some (.int l3), some (.int l4), some (.int l5), some (.int (l6 + 1)), some (.int l3)] [] (gup (gup σ 330 (σ 323 8).toNatClampNeg ((l3 >>> ((24 - (8 * (l6 - l6 / 4 * 4))) &&& 31)) &&& 255)) 323 8 (((gup σ 330 (σ 323 8).toNatClampNeg ((l3 >>> ((24 - (8 * (l6 - l6 / 4 * 4))) &&& 31)) &&& 255)) 323 8) + 1)) K))) ∧ (l6 < 8 → (4 : Int32) ≠ 0 ∧ (0 ≤ (σ 323 8) ∧ (σ 323 8) < 1000) ∧ gE 184 18 [some (.ref 323), some (.int l1), some (.int l2), some (.int l3), some (.int l4), some (.int l5), some (.int (l6 + 1)), some (.int l2)] [] (gup (gup σ 330 (σ 323 8).toNatClampNeg ((l2 >>> ((24 - (8 * (l6 - l6 / 4 * 4))) &&& 31)) &&& 255)) 323 8 (((gup σ 330 (σ 323 8).toNatClampNeg ((l2 >>> ((24 - (8 * (l6 - l6 / 4 * 4))) &&& 31)) &&& 255)) 323 8) + 1)) K))) ∧ (l6 < 4 → (4 : Int32) ≠ 0 ∧ (0 ≤ (σ 323 8) ∧ (σ 323 8) < 1000) ∧ gE 184 18 [some (.ref 323), some (.int l1), some (.int l2), some (.int l3), some (.int l4), some (.int l5), some (.int (l6 + 1)), some (.int l1)] [] (gup (gup σ 330 (σ 323 8).toNatClampNeg ((l1 >>> ((24 - (8 * (l6 - l6 / 4 * 4))) &&& 31)) &&& 255)) 323 8 (((gup σ 330 (σ 323 8).toNatClampNeg ((l1 >>> ((24 - (8 * (l6 - l6 / 4 * 4))) &&& 31)) &&& 255)) 323 8) + 1)) K))))) : gE 184 18 [some (.ref 323), some (.int l1), some (.int l2), some (.int l3), some (.int l4), some (.int l5), some (.int l6), l7] [] σ K :=
  gw_run (cy := 184) (cuts := [18]) (inl := []) (pf := gpfT) gpfT_ok 400 (by decide) h
theorem s184 {σ : gS} {K : gK} {a b c d e : Int32} (hc : RT σ) (hK : K (some (.int (if 1000 < σ 323 8 + 20 then -1 else σ 323 8 + 20))) (hAp σ (byt a b c d e))) : gE 184 0 [some (.ref 323), some (.int a), some (.int b), some (.int c), some (.int d), some (.int e), none, none] [] σ K := by
  unfold hAp at hK
  refine w184 ⟨fun h => ?_, fun h => ?_⟩
  · rw [if_neg h, if_neg h] at hK
    obtain ⟨e0, l0⟩ := l1000 hc
    obtain ⟨n, hn⟩ : ∃ n, (σ 323 8).toNatClampNeg = n := ⟨_, rfl⟩
    rw [hn] at e0 l0 hK
    have n980 : n ≤ 980 := by
      rw [e0, show (20 : Int32) = iN 20 from rfl, iN_add, show (1000 : Int32) = iN 1000 from rfl, iN_lt (by omega) (by omega)] at h
      omega
    rw [e0, show (20 : Int32) = iN 20 from rfl, iN_add] at hK
    have main := g_forJ (y := 184) (pc := 18) (K := K) 20 (fun k u => [some (.ref 323), some (.int a), some (.int b), some (.int c), some (.int d), some (.int e), some (.int (iN k)), u]) (fun k => grow (grow σ 330 (fAp (σ 330) n (byt a b c d e) k)) 323 (rup (σ 323) 8 (iN (n + k)))) (fun _ => True) (fun _ u => by
      refine c184_18 ⟨fun _ => ?_, fun h => absurd h (by decide)⟩
      rw [grow_at, rup_at]
      exact hK) (fun k hk _ ih u => by
      have ih := ih trivial
      have hs : grow (grow σ 330 (fAp (σ 330) n (byt a b c d e) k)) 323 (rup (σ 323) 8 (iN (n + k))) 323 8 = iN (n + k) := by rw [grow_at, rup_at]
      have fin : ∀ w, w = wrd a b c d e k → gE 184 18 [some (.ref 323), some (.int a), some (.int b), some (.int c), some (.int d), some (.int e), some (.int (iN k + 1)), some (.int w)] [] (gup (gup (grow (grow σ 330 (fAp (σ 330) n (byt a b c d e) k)) 323 (rup (σ 323) 8 (iN (n + k)))) 330 (grow (grow σ 330 (fAp (σ 330) n (byt a b c d e) k)) 323 (rup (σ 323) 8 (iN (n + k))) 323 8).toNatClampNeg ((w >>> ((24 - (8 * (iN k - iN k / 4 * 4))) &&& 31)) &&& 255)) 323 8 (((gup (grow (grow σ 330 (fAp (σ 330) n (byt a b c d e) k)) 323 (rup (σ 323) 8 (iN (n + k)))) 330 (grow (grow σ 330 (fAp (σ 330) n (byt a b c d e) k)) 323 (rup (σ 323) 8 (iN (n + k))) 323 8).toNatClampNeg ((w >>> ((24 - (8 * (iN k - iN k / 4 * 4))) &&& 31)) &&& 255)) 323 8) + 1)) K := by
        intro w hw
        rw [hs, iN_nat (by omega), sh20 k hk]
        have hb : (w >>> iN (24 - 8 * (k % 4)) &&& 255) = byt a b c d e k := by rw [hw]; rfl
        rw [hb]
        have eh : gup (gup (grow (grow σ 330 (fAp (σ 330) n (byt a b c d e) k)) 323 (rup (σ 323) 8 (iN (n + k)))) 330 (n + k) (byt a b c d e k)) 323 8 (((gup (grow (grow σ 330 (fAp (σ 330) n (byt a b c d e) k)) 323 (rup (σ 323) 8 (iN (n + k)))) 330 (n + k) (byt a b c d e k)) 323 8) + 1) = grow (grow σ 330 (fAp (σ 330) n (byt a b c d e) (k + 1))) 323 (rup (σ 323) 8 (iN (n + (k + 1)))) := by
          rw [← fAp_s]
          simp (disch := decide) only [gup_grow, grow_at, grow_ne, rup_at]
          rw [iN_one, Nat.add_assoc]
          funext p j
          unfold grow rup
          grind
        rw [eh, iN_one]
        exact ih _
      have bd : 0 ≤ iN (n + k) ∧ iN (n + k) < 1000 := ⟨(iN_le (k := 0) (by decide) (by omega)).mpr (by omega), (iN_lt (m := 1000) (by omega) (by decide)).mpr (by omega)⟩
      have lt : ∀ m : Nat, m < 100 → (iN k < iN m ↔ k < m) := fun m hm => iN_lt (by omega) (by omega)
      refine c184_18 ⟨fun h => absurd ((lt 20 (by decide)).mpr hk) h, fun _ => ⟨fun h4 => ⟨fun h8 => ⟨fun h12 => ⟨fun h16 => ⟨by decide, by rw [hs]; exact bd, fin _ ?_⟩, fun h16 => ⟨by decide, by rw [hs]; exact bd, fin _ ?_⟩⟩, fun h12 => ⟨by decide, by rw [hs]; exact bd, fin _ ?_⟩⟩, fun h8 => ⟨by decide, by rw [hs]; exact bd, fin _ ?_⟩⟩, fun h4 => ⟨by decide, by rw [hs]; exact bd, fin _ ?_⟩⟩⟩ <;> unfold wrd
      · have h4 := fun q => h4 ((lt 4 (by decide)).mpr q)
        have h8 := fun q => h8 ((lt 8 (by decide)).mpr q)
        have h12 := fun q => h12 ((lt 12 (by decide)).mpr q)
        have h16 := fun q => h16 ((lt 16 (by decide)).mpr q)
        rw [if_neg h4, if_neg h8, if_neg h12, if_neg h16]
      · have h4 := fun q => h4 ((lt 4 (by decide)).mpr q)
        have h8 := fun q => h8 ((lt 8 (by decide)).mpr q)
        have h12 := fun q => h12 ((lt 12 (by decide)).mpr q)
        rw [if_neg h4, if_neg h8, if_neg h12, if_pos ((lt 16 (by decide)).mp h16)]
      · have h4 := fun q => h4 ((lt 4 (by decide)).mpr q)
        have h8 := fun q => h8 ((lt 8 (by decide)).mpr q)
        rw [if_neg h4, if_neg h8, if_pos ((lt 12 (by decide)).mp h12)]
      · have h4 := fun q => h4 ((lt 4 (by decide)).mpr q)
        rw [if_neg h4, if_pos ((lt 8 (by decide)).mp h8)]
      · rw [if_pos ((lt 4 (by decide)).mp h4)]) 0 (Nat.zero_le _) trivial none
    have e00 : grow (grow σ 330 (fAp (σ 330) n (byt a b c d e) 0)) 323 (rup (σ 323) 8 (iN (n + 0))) = σ := by
      rw [fAp_0, grow_id, Nat.add_zero, ← e0]
      have : rup (σ 323) 8 (σ 323 8) = σ 323 := by
        funext j
        unfold rup
        split
        · rename_i h; rw [h]
        · rfl
      rw [this, grow_id]
    rw [e00] at main
    exact main
  · rw [if_pos h, if_pos h] at hK; exact hK
noncomputable def f184 : gD := fun Lv σ => match Lv with
  | [some (.ref q0), some (.int a), some (.int b), some (.int c), some (.int d), some (.int e), none, none] => cond (Nat.beq q0 323) (some (some (RT σ), some (.int (if 1000 < σ 323 8 + 20 then -1 else σ 323 8 + 20)), hAp σ (byt a b c d e))) none
  | _ => none
theorem ok184 : gFok 184 f184 := by
  intro Lv σ q h hc K hK
  unfold f184 at h
  split at h
  · rename_i q0 a b c d e
    obtain ⟨hb, h⟩ := c_no h
    have hb0 := hb
    have e0 := b_eq hb0
    subst e0
    cases h
    exact s184 (hc _ rfl) hK
  · cases h
abbrev gTru (L n : Int32) : Prop := ¬ n < 0 ∧ ¬ L < n
set_option maxRecDepth 20000 in
theorem w185 {σ : gS} {K : gK} {n : Int32} (h : ((n < 0 → K (some (.int (-1))) σ) ∧ (¬ n < 0 → ((¬ (σ 323 8) < n → K (some (.int ((gup σ 323 8 ((σ 323 8) - n)) 323 8))) (gup σ 323 8 ((σ 323 8) - n))) ∧ ((σ 323 8) < n → K (some (.int (-1))) σ))))) : gE 185 0 [some (.ref 323), some (.int n)] [] σ K :=
  gw_run (cy := 185) (cuts := []) (inl := []) (pf := gpfT) gpfT_ok 400 (by decide) h
theorem s185 {σ : gS} {K : gK} {n : Int32} (hK : K (some (.int (if gTru (σ 323 8) n then σ 323 8 - n else -1))) (if gTru (σ 323 8) n then grow σ 323 (rup (σ 323) 8 (σ 323 8 - n)) else σ)) : gE 185 0 [some (.ref 323), some (.int n)] [] σ K := by
  refine w185 ⟨fun h => ?_, fun h => ⟨fun h2 => ?_, fun h2 => ?_⟩⟩
  · rw [if_neg (fun q => q.1 h), if_neg (fun q => q.1 h)] at hK; exact hK
  · rw [if_pos ⟨h, h2⟩, if_pos ⟨h, h2⟩] at hK
    rw [gup_grow, grow_at, rup_at]
    exact hK
  · rw [if_neg (fun q => q.2 h2), if_neg (fun q => q.2 h2)] at hK; exact hK
noncomputable def f185 : gD := fun Lv σ => match Lv with
  | [some (.ref q0), some (.int n)] => cond (Nat.beq q0 323) (some (none, some (.int (if gTru (σ 323 8) n then σ 323 8 - n else -1)), if gTru (σ 323 8) n then grow σ 323 (rup (σ 323) 8 (σ 323 8 - n)) else σ)) none
  | _ => none
theorem ok185 : gFok 185 f185 := by
  intro Lv σ q h hc K hK
  unfold f185 at h
  split at h
  · rename_i q0 n
    obtain ⟨hb, h⟩ := c_no h
    have hb0 := hb
    have e0 := b_eq hb0
    subst e0
    cases h
    exact s185 hK
  · cases h
set_option maxRecDepth 20000 in
theorem w186 {σ : gS} {K : gK} (h : K (some (.int (σ 323 9))) σ) : gE 186 0 [some (.ref 323)] [] σ K :=
  gw_run (cy := 186) (cuts := []) (inl := []) (pf := gpfT) gpfT_ok 400 (by decide) h
theorem s186 {σ : gS} {K : gK} (hK : K (some (.int (σ 323 9))) σ) : gE 186 0 [some (.ref 323)] [] σ K := by
  exact w186 hK
noncomputable def f186 : gD := fun Lv σ => match Lv with
  | [some (.ref q0)] => cond (Nat.beq q0 323) (some (none, some (.int (σ 323 9)), σ)) none
  | _ => none
theorem ok186 : gFok 186 f186 := by
  intro Lv σ q h hc K hK
  unfold f186 at h
  split at h
  · rename_i q0
    obtain ⟨hb, h⟩ := c_no h
    have hb0 := hb
    have e0 := b_eq hb0
    subst e0
    cases h
    exact s186 hK
  · cases h
/-- what come asks of its numbers -/
abbrev okC (σ : gS) (x k f w s : Int32) : Prop := (((((isS (σ 324) x ∧ (0 ≤ k ∧ k ≤ 1)) ∧ (0 ≤ f ∧ f ≤ 9)) ∧ (0 ≤ w ∧ w ≤ 99)) ∧ (1 ≤ s ∧ s ≤ 99)) ∧ ¬ fTn (σ 330) (σ 323 8) < 0)
abbrev gCom (σ : gS) (x k f w s : Int32) : Prop := (okC σ x k f w s ∧ ¬ σ 324 3 = 20) ∧ (fWho (σ 324) x < 0 ∧ (k = 1 ∨ σ 324 1 ≤ x / 4))
def aCom (σ : gS) (x k f w s : Int32) : Int32 := if okC σ x k f w s then (if σ 324 3 = 20 then -3 else if fWho (σ 324) x < 0 ∧ (k = 1 ∨ σ 324 1 ≤ x / 4) then σ 324 3 else -4) else -1
def nCom (R : gW) (x k f w s nm : Int32) : gW := fTe (radd (rup (rup (rup (rup (fNew R x nm) (9 + 10 * nM R + 1) k) (9 + 10 * nM R + 2) f) (9 + 10 * nM R + 7) w) (9 + 10 * nM R + 8) s) 3 1) 0 (R 3) x
def hCom (σ : gS) (x k f w s : Int32) : gS := if gCom σ x k f w s then grow (grow (hKe σ) 323 (rup (hKe σ 323) 8 0)) 324 (nCom (σ 324) x k f w s (fTn (σ 330) (σ 323 8))) else σ
theorem fNew_ne {R : gW} {x w : Int32} {j : Nat} (h : j < 9 + 10 * nM R ∨ 9 + 10 * nM R + 10 ≤ j) : fNew R x w j = R j := by
  unfold fNew
  rw [rup_ne (by omega), rup_ne (by omega), rup_ne (by omega)]
  unfold zsh
  rw [if_neg (by omega)]
set_option maxRecDepth 20000 in
theorem w208 {σ : gS} {K : gK} {x k f w s : Int32} (h : (RT σ) ∧ (((bI (isS (σ 324) x)) = 0 → K (some (.int (-1))) σ) ∧ (¬ (bI (isS (σ 324) x)) = 0 → (((bI ((0 : Int32) ≤ k ∧ k ≤ (1 : Int32))) = 0 → K (some (.int (-1))) σ) ∧ (¬ (bI ((0 : Int32) ≤ k ∧ k ≤ (1 : Int32))) = 0 → (((bI ((0 : Int32) ≤ f ∧ f ≤ (9 : Int32))) = 0 → K (some (.int (-1))) σ) ∧ (¬ (bI ((0 : Int32) ≤ f ∧ f ≤ (9 : Int32))) = 0 → (((bI ((0 : Int32) ≤ w ∧ w ≤ (99 : Int32))) = 0 → K (some (.int (-1))) σ) ∧ (¬ (bI ((0 : Int32) ≤ w ∧ w ≤ (99 : Int32))) = 0 → (((bI ((1 : Int32) ≤ s ∧ s ≤ (99 : Int32))) = 0 → K (some (.int (-1))) σ) ∧ (¬ (bI ((1 : Int32) ≤ s ∧ s ≤ (99 : Int32))) = 0 → ((¬ (fTn (σ 330) (σ 323 8)) < 0 → (0 ≤ (3 : Int32) ∧ (3 : Int32) < 330) ∧ ((¬ (σ 324 3) = 20 → (0 ≤ σ 324 3 ∧ σ 324 3 ≤ 20) ∧ ((¬ (fWho (σ 324) x) < 0 → K (some (.int (-4))) σ) ∧ ((fWho (σ 324) x) < 0 → (0 ≤ (1 : Int32) ∧ (1 : Int32) < 330) ∧ ((¬ (bI (k = 1 ∨ (σ 324 1) ≤ x / 4)) = 0 → (0 ≤ σ 323 6 ∧ σ 323 6 ≤ 8) ∧ (0 ≤ (3 : Int32) ∧ (3 : Int32) < 330) ∧ (0 ≤ (gup (hKe σ) 323 8 0) 324 3 ∧ (gup (hKe σ) 323 8 0) 324 3 < 20) ∧ (0 ≤ (9 + 10 * ((gup (hKe σ) 323 8 0) 324 3) + (1 : Int32)) ∧ (9 + 10 * ((gup (hKe σ) 323 8 0) 324 3) + (1 : Int32)) < 330) ∧ gE 208 143 [some (.ref 323), some (.int x), some (.int k), some (.int f), some (.int w), some (.int s), some (.int (fTn (σ 330) (σ 323 8))), some (.int ((gup (hKe σ) 323 8 0) 324 3))] [] (gup (grow (gup (hKe σ) 323 8 0) 324 (fNew ((gup (hKe σ) 323 8 0) 324) x (fTn (σ 330) (σ 323 8)))) 324 (9 + 10 * ((gup (hKe σ) 323 8 0) 324 3) + (1 : Int32)).toNatClampNeg k) K) ∧ ((bI (k = 1 ∨ (σ 324 1) ≤ x / 4)) = 0 → K (some (.int (-4))) σ))))) ∧ ((σ 324 3) = 20 → K (some (.int (-3))) σ))) ∧ ((fTn (σ 330) (σ 323 8)) < 0 → K (some (.int (-1))) σ))))))))))))) : gE 208 0 [some (.ref 323), some (.int x), some (.int k), some (.int f), some (.int w), some (.int s), none, none] [] σ K :=
  gw_run (cy := 208) (cuts := [143, 155, 169, 183, 193]) (inl := []) (pf := gpfT) gpfT_ok 400 (by decide) h
set_option maxRecDepth 20000 in
theorem c208_143 {σ : gS} {K : gK} {l1 l2 l3 l4 l5 l6 l7 : Int32} (h : (0 ≤ (9 + 10 * l7 + (2 : Int32)) ∧ (9 + 10 * l7 + (2 : Int32)) < 330) ∧ gE 208 155 [some (.ref 323), some (.int l1), some (.int l2), some (.int l3), some (.int l4), some (.int l5), some (.int l6), some (.int l7)] [] (gup σ 324 (9 + 10 * l7 + (2 : Int32)).toNatClampNeg l3) K) : gE 208 143 [some (.ref 323), some (.int l1), some (.int l2), some (.int l3), some (.int l4), some (.int l5), some (.int l6), some (.int l7)] [] σ K :=
  gw_run (cy := 208) (cuts := [143, 155, 169, 183, 193]) (inl := []) (pf := gpfT) gpfT_ok 400 (by decide) h
set_option maxRecDepth 20000 in
theorem c208_155 {σ : gS} {K : gK} {l1 l2 l3 l4 l5 l6 l7 : Int32} (h : (0 ≤ (9 + 10 * l7 + (7 : Int32)) ∧ (9 + 10 * l7 + (7 : Int32)) < 330) ∧ gE 208 169 [some (.ref 323), some (.int l1), some (.int l2), some (.int l3), some (.int l4), some (.int l5), some (.int l6), some (.int l7)] [] (gup σ 324 (9 + 10 * l7 + (7 : Int32)).toNatClampNeg l4) K) : gE 208 155 [some (.ref 323), some (.int l1), some (.int l2), some (.int l3), some (.int l4), some (.int l5), some (.int l6), some (.int l7)] [] σ K :=
  gw_run (cy := 208) (cuts := [143, 155, 169, 183, 193]) (inl := []) (pf := gpfT) gpfT_ok 400 (by decide) h
set_option maxRecDepth 20000 in
theorem c208_169 {σ : gS} {K : gK} {l1 l2 l3 l4 l5 l6 l7 : Int32} (h : (0 ≤ (9 + 10 * l7 + (8 : Int32)) ∧ (9 + 10 * l7 + (8 : Int32)) < 330) ∧ gE 208 183 [some (.ref 323), some (.int l1), some (.int l2), some (.int l3), some (.int l4), some (.int l5), some (.int l6), some (.int l7)] [] (gup σ 324 (9 + 10 * l7 + (8 : Int32)).toNatClampNeg l5) K) : gE 208 169 [some (.ref 323), some (.int l1), some (.int l2), some (.int l3), some (.int l4), some (.int l5), some (.int l6), some (.int l7)] [] σ K :=
  gw_run (cy := 208) (cuts := [143, 155, 169, 183, 193]) (inl := []) (pf := gpfT) gpfT_ok 400 (by decide) h
set_option maxRecDepth 20000 in
theorem c208_183 {σ : gS} {K : gK} {l1 l2 l3 l4 l5 l6 l7 : Int32} (h : (0 ≤ (3 : Int32) ∧ (3 : Int32) < 330) ∧ (0 ≤ (3 : Int32) ∧ (3 : Int32) < 330) ∧ gE 208 193 [some (.ref 323), some (.int l1), some (.int l2), some (.int l3), some (.int l4), some (.int l5), some (.int l6), some (.int l7)] [] (gup σ 324 3 ((σ 324 3) + 1)) K) : gE 208 183 [some (.ref 323), some (.int l1), some (.int l2), some (.int l3), some (.int l4), some (.int l5), some (.int l6), some (.int l7)] [] σ K :=
  gw_run (cy := 208) (cuts := [143, 155, 169, 183, 193]) (inl := []) (pf := gpfT) gpfT_ok 400 (by decide) h
set_option maxRecDepth 20000 in
theorem c208_193 {σ : gS} {K : gK} {l1 l2 l3 l4 l5 l6 l7 : Int32} (h : (0 ≤ σ 324 209 ∧ σ 324 209 ≤ 40) ∧ K (some (.int l7)) (grow σ 324 (fTe (σ 324) (0 : Int32) l7 l1))) : gE 208 193 [some (.ref 323), some (.int l1), some (.int l2), some (.int l3), some (.int l4), some (.int l5), some (.int l6), some (.int l7)] [] σ K :=
  gw_run (cy := 208) (cuts := [143, 155, 169, 183, 193]) (inl := []) (pf := gpfT) gpfT_ok 400 (by decide) h
theorem s208 {σ : gS} {K : gK} {x k f w s : Int32} (hc : RS σ ∧ RT σ) (hK : K (some (.int (aCom σ x k f w s))) (hCom σ x k f w s)) : gE 208 0 [some (.ref 323), some (.int x), some (.int k), some (.int f), some (.int w), some (.int s), none, none] [] σ K := by
  obtain ⟨⟨⟨h3, h9⟩, hu⟩, hT⟩ := hc
  unfold aCom hCom at hK
  have no : ¬ okC σ x k f w s → K (some (.int (-1))) σ := by
    intro q
    rw [if_neg q, if_neg (fun e => q e.1.1)] at hK
    exact hK
  refine w208 ⟨hT, ?_⟩
  simp only [bI_0]
  refine ⟨fun h => no (fun q => h q.1.1.1.1.1), fun h => ⟨fun h1 => no (fun q => h1 q.1.1.1.1.2), fun h1 => ⟨fun h2 => no (fun q => h2 q.1.1.1.2), fun h2 => ⟨fun h4 => no (fun q => h4 q.1.1.2), fun h4 => ⟨fun h5 => no (fun q => h5 q.1.2), fun h5 => ⟨fun h6 => ?_, fun h6 => no (fun q => q.2 h6)⟩⟩⟩⟩⟩⟩
  have hok : okC σ x k f w s := ⟨⟨⟨⟨⟨Decidable.not_not.mp h, Decidable.not_not.mp h1⟩, Decidable.not_not.mp h2⟩, Decidable.not_not.mp h4⟩, Decidable.not_not.mp h5⟩, h6⟩
  rw [if_pos hok] at hK
  refine ⟨by decide, fun h7 => ⟨h3, fun h8 => ?_, fun h8 => ⟨by decide, fun h10 => ⟨hu, by decide, ?_⟩, fun h10 => ?_⟩⟩, fun h7 => ?_⟩
  · have n8 : ¬ (fWho (σ 324) x < 0 ∧ (k = 1 ∨ σ 324 1 ≤ x / 4)) := fun q => h8 q.1
    rw [if_neg h7, if_neg n8, if_neg (show ¬ gCom σ x k f w s from fun q => n8 q.2)] at hK; exact hK
  · have h10 := Decidable.not_not.mp h10
    rw [if_neg h7, if_pos ⟨h8, h10⟩, if_pos (show gCom σ x k f w s from ⟨⟨hok, h7⟩, h8, h10⟩)] at hK
    have h20 : 0 ≤ σ 324 3 ∧ σ 324 3 < 20 := ⟨h3.1, by have := h3.2; grind⟩
    obtain ⟨e3, l3⟩ := t20 h20
    obtain ⟨n, hn⟩ : ∃ n, nM (σ 324) = n := ⟨_, rfl⟩
    have hn' : (σ 324 3).toNatClampNeg = n := hn
    rw [hn'] at e3 l3
    have e0 : gup (hKe σ) 323 8 0 324 = σ 324 := by rw [gup_grow, grow_ne (by decide), hKe_324]
    rw [e0]
    refine ⟨h20, by rw [e3]; exact ixb1 l3, ?_⟩
    unfold nCom at hK
    rw [hn] at hK
    rw [e3, ix1 l3]
    refine c208_143 ⟨ixb2 l3, c208_155 ⟨ixb7 l3, c208_169 ⟨ixb8 l3, c208_183 ⟨by decide, by decide, c208_193 ?_⟩⟩⟩⟩
    rw [ix2 l3, ix7 l3, ix8 l3]
    simp (disch := decide) only [gup_grow, grow_grow, grow_at]
    refine ⟨?_, ?_⟩
    · refine bnd209 (by decide) (bnd209 (by omega) (bnd209 (by omega) (bnd209 (by omega) (bnd209 (by omega) ?_))))
      rw [fNew_ne (by omega)]
      exact h9
    · rw [e3] at hK
      exact hK
  · have n8 : ¬ (fWho (σ 324) x < 0 ∧ (k = 1 ∨ σ 324 1 ≤ x / 4)) := fun q => h10 q.2
    rw [if_neg h7, if_neg n8, if_neg (show ¬ gCom σ x k f w s from fun q => n8 q.2)] at hK; exact hK
  · rw [if_pos h7, if_neg (show ¬ gCom σ x k f w s from fun q => q.1.2 h7)] at hK; exact hK
noncomputable def f208 : gD := fun Lv σ => match Lv with
  | [some (.ref q0), some (.int x), some (.int k), some (.int f), some (.int w), some (.int s), none, none] => cond (Nat.beq q0 323) (some (some (RS σ ∧ RT σ), some (.int (aCom σ x k f w s)), hCom σ x k f w s)) none
  | _ => none
theorem ok208 : gFok 208 f208 := by
  intro Lv σ q h hc K hK
  unfold f208 at h
  split at h
  · rename_i q0 x k f w s
    obtain ⟨hb, h⟩ := c_no h
    have hb0 := hb
    have e0 := b_eq hb0
    subst e0
    cases h
    exact s208 (hc _ rfl) hK
  · cases h
end
section
-- text 23
/-! THE CLASS: a train read as a row -/
theorem tv_6 : ∀ k, k < 20 → gTv (6 + 2 + k) := by unfold gTv; decide +kernel
theorem tv_32 : ∀ k, k < 20 → gTv (32 + 2 + k) := by unfold gTv; decide +kernel
/-- the train at place p as a row (names as the class writes them; no log) -/
def cR (σ : gS) (p : Nat) : gW := fun j => if j < 9 then σ p (j + 4) else if j < 209 then (if (j - 9) % 10 < 9 then σ (p + 2 + (j - 9) / 10) ((j - 9) % 10 + 1) else σ (p + 2 + (j - 9) / 10) 0) else 0
theorem cR_h {σ : gS} {p j : Nat} (h : j < 9) : cR σ p j = σ p (j + 4) := if_pos h
theorem cR_f {σ : gS} {p t f : Nat} (ht : t < 20) (hf : f < 9) : fld (cR σ p) t f = σ (p + 2 + t) (f + 1) := by
  unfold fld cR
  have e1 : (9 + 10 * t + f - 9) % 10 = f := by omega
  have e2 : (9 + 10 * t + f - 9) / 10 = t := by omega
  rw [if_neg (by omega), if_pos (by omega), e1, e2, if_pos hf]
theorem cR_3 (σ : gS) (p : Nat) : cR σ p 3 = σ p 7 := cR_h (by decide)
theorem cR_0 (σ : gS) (p : Nat) : cR σ p 0 = σ p 4 := cR_h (by decide)
theorem cR_1 (σ : gS) (p : Nat) : cR σ p 1 = σ p 5 := cR_h (by decide)
set_option maxRecDepth 20000 in
theorem w51_6 {σ : gS} {K : gK} (h : (2 : Int32) ≠ 0 ∧ K (some (.int (((σ 6 4) + 1) / 2))) σ) : gE 51 0 [some (.ref 6)] [] σ K :=
  gw_run (cy := 51) (cuts := []) (inl := []) (pf := gpfT) gpfT_ok 400 (by decide) h
theorem s51_6 {σ : gS} {K : gK} (hK : K (some (.int ((σ 6 4 + 1) / 2))) σ) : gE 51 0 [some (.ref 6)] [] σ K := by
  exact w51_6 ⟨by decide, hK⟩
set_option maxRecDepth 20000 in
theorem w51_32 {σ : gS} {K : gK} (h : (2 : Int32) ≠ 0 ∧ K (some (.int (((σ 32 4) + 1) / 2))) σ) : gE 51 0 [some (.ref 32)] [] σ K :=
  gw_run (cy := 51) (cuts := []) (inl := []) (pf := gpfT) gpfT_ok 400 (by decide) h
theorem s51_32 {σ : gS} {K : gK} (hK : K (some (.int ((σ 32 4 + 1) / 2))) σ) : gE 51 0 [some (.ref 32)] [] σ K := by
  exact w51_32 ⟨by decide, hK⟩
noncomputable def f51 : gD := fun Lv σ => match Lv with
  | [some (.ref p)] => cond (Nat.beq p 6 || Nat.beq p 32) (some (none, some (.int ((σ p 4 + 1) / 2)), σ)) none
  | _ => none
theorem ok51 : gFok 51 f51 := by
  intro Lv σ q h hc K hK
  unfold f51 at h
  split at h
  · rename_i p
    obtain ⟨hb, h⟩ := c_no h
    have hb0 := hb
    rcases s_or hb0 with hb0 | hb0
    · have e := b_eq hb0
      subst e
      cases h
      exact s51_6 hK
    · have e := b_eq hb0
      subst e
      cases h
      exact s51_32 hK
  · cases h
set_option maxRecDepth 20000 in
theorem w53_6 {σ : gS} {K : gK} {t : Int32} (h : ((bI ((0 : Int32) ≤ t ∧ t ≤ ((σ 6 7) - 1))) = 0 ∨ (bI ((0 : Int32) ≤ t ∧ t ≤ ((σ 6 7) - 1))) = 1) ∧ K (some (.int (bI ((0 : Int32) ≤ t ∧ t ≤ ((σ 6 7) - 1))))) σ) : gE 53 0 [some (.ref 6), some (.int t)] [] σ K :=
  gw_run (cy := 53) (cuts := []) (inl := []) (pf := gpfT) gpfT_ok 400 (by decide) h
theorem s53_6 {σ : gS} {K : gK} {t : Int32} (hK : K (some (.int (bI (isT (cR σ 6) t)))) σ) : gE 53 0 [some (.ref 6), some (.int t)] [] σ K := by
  unfold isT at hK
  rw [cR_3] at hK
  exact w53_6 ⟨bI_01, hK⟩
set_option maxRecDepth 20000 in
theorem w53_32 {σ : gS} {K : gK} {t : Int32} (h : ((bI ((0 : Int32) ≤ t ∧ t ≤ ((σ 32 7) - 1))) = 0 ∨ (bI ((0 : Int32) ≤ t ∧ t ≤ ((σ 32 7) - 1))) = 1) ∧ K (some (.int (bI ((0 : Int32) ≤ t ∧ t ≤ ((σ 32 7) - 1))))) σ) : gE 53 0 [some (.ref 32), some (.int t)] [] σ K :=
  gw_run (cy := 53) (cuts := []) (inl := []) (pf := gpfT) gpfT_ok 400 (by decide) h
theorem s53_32 {σ : gS} {K : gK} {t : Int32} (hK : K (some (.int (bI (isT (cR σ 32) t)))) σ) : gE 53 0 [some (.ref 32), some (.int t)] [] σ K := by
  unfold isT at hK
  rw [cR_3] at hK
  exact w53_32 ⟨bI_01, hK⟩
noncomputable def f53 : gD := fun Lv σ => match Lv with
  | [some (.ref p), some (.int t)] => cond (Nat.beq p 6 || Nat.beq p 32) (some (none, some (.int (bI (isT (cR σ p) t))), σ)) none
  | _ => none
theorem ok53 : gFok 53 f53 := by
  intro Lv σ q h hc K hK
  unfold f53 at h
  split at h
  · rename_i p t
    obtain ⟨hb, h⟩ := c_no h
    have hb0 := hb
    rcases s_or hb0 with hb0 | hb0
    · have e := b_eq hb0
      subst e
      cases h
      exact s53_6 hK
    · have e := b_eq hb0
      subst e
      cases h
      exact s53_32 hK
  · cases h
set_option maxRecDepth 20000 in
theorem w57_6 {σ : gS} {K : gK} {k x : Int32} (h : ((k = 1 → ((1 : Int32) = 0 ∨ (1 : Int32) = 1) ∧ K (some (.int 1)) σ) ∧ (¬ k = 1 → (4 : Int32) ≠ 0 ∧ (((x / 4) < (σ 6 5) → ((0 : Int32) = 0 ∨ (0 : Int32) = 1) ∧ K (some (.int 0)) σ) ∧ (¬ (x / 4) < (σ 6 5) → ((1 : Int32) = 0 ∨ (1 : Int32) = 1) ∧ K (some (.int 1)) σ))))) : gE 57 0 [some (.ref 6), some (.int k), some (.int x)] [] σ K :=
  gw_run (cy := 57) (cuts := []) (inl := []) (pf := gpfT) gpfT_ok 400 (by decide) h
theorem s57_6 {σ : gS} {K : gK} {k x : Int32} (hK : K (some (.int (bI (k = 1 ∨ cR σ 6 1 ≤ x / 4)))) σ) : gE 57 0 [some (.ref 6), some (.int k), some (.int x)] [] σ K := by
  rw [cR_1] at hK
  refine w57_6 ?_
  grind [bI]
set_option maxRecDepth 20000 in
theorem w57_32 {σ : gS} {K : gK} {k x : Int32} (h : ((k = 1 → ((1 : Int32) = 0 ∨ (1 : Int32) = 1) ∧ K (some (.int 1)) σ) ∧ (¬ k = 1 → (4 : Int32) ≠ 0 ∧ (((x / 4) < (σ 32 5) → ((0 : Int32) = 0 ∨ (0 : Int32) = 1) ∧ K (some (.int 0)) σ) ∧ (¬ (x / 4) < (σ 32 5) → ((1 : Int32) = 0 ∨ (1 : Int32) = 1) ∧ K (some (.int 1)) σ))))) : gE 57 0 [some (.ref 32), some (.int k), some (.int x)] [] σ K :=
  gw_run (cy := 57) (cuts := []) (inl := []) (pf := gpfT) gpfT_ok 400 (by decide) h
theorem s57_32 {σ : gS} {K : gK} {k x : Int32} (hK : K (some (.int (bI (k = 1 ∨ cR σ 32 1 ≤ x / 4)))) σ) : gE 57 0 [some (.ref 32), some (.int k), some (.int x)] [] σ K := by
  rw [cR_1] at hK
  refine w57_32 ?_
  grind [bI]
noncomputable def f57 : gD := fun Lv σ => match Lv with
  | [some (.ref p), some (.int k), some (.int x)] => cond (Nat.beq p 6 || Nat.beq p 32) (some (none, some (.int (bI (k = 1 ∨ cR σ p 1 ≤ x / 4))), σ)) none
  | _ => none
theorem ok57 : gFok 57 f57 := by
  intro Lv σ q h hc K hK
  unfold f57 at h
  split at h
  · rename_i p k x
    obtain ⟨hb, h⟩ := c_no h
    have hb0 := hb
    rcases s_or hb0 with hb0 | hb0
    · have e := b_eq hb0
      subst e
      cases h
      exact s57_6 hK
    · have e := b_eq hb0
      subst e
      cases h
      exact s57_32 hK
  · cases h
set_option maxRecDepth 20000 in
theorem w68 {σ : gS} {K : gK} {x : Int32} (h : (2 : Int32) ≠ 0 ∧ ((¬ (x - x / 2 * 2) = 1 → ((0 : Int32) = 0 ∨ (0 : Int32) = 1) ∧ K (some (.int 0)) σ) ∧ ((x - x / 2 * 2) = 1 → ((1 : Int32) = 0 ∨ (1 : Int32) = 1) ∧ K (some (.int 1)) σ))) : gE 68 0 [some (.int x)] [] σ K :=
  gw_run (cy := 68) (cuts := []) (inl := []) (pf := gpfT) gpfT_ok 400 (by decide) h
theorem s68 {σ : gS} {K : gK} {x : Int32} (hK : K (some (.int (bI (isFwd x)))) σ) : gE 68 0 [some (.int x)] [] σ K := by
  refine w68 ?_
  grind [bI]
noncomputable def f68 : gD := fun Lv σ => match Lv with
  | [some (.int x)] => some (none, some (.int (bI (isFwd x))), σ)
  | _ => none
theorem ok68 : gFok 68 f68 := by
  intro Lv σ q h hc K hK
  unfold f68 at h
  split at h
  · rename_i x
    cases h
    exact s68 hK
  · cases h
set_option maxRecDepth 20000 in
theorem w270 {σ : gS} {K : gK} {x : Int32} (h : ((¬ x < 0 → K (some (.int x)) σ) ∧ (x < 0 → K (some (.int (-x))) σ))) : gE 270 0 [some (.int x)] [] σ K :=
  gw_run (cy := 270) (cuts := []) (inl := []) (pf := gpfT) gpfT_ok 400 (by decide) h
theorem s270 {σ : gS} {K : gK} {x : Int32} (hK : K (some (.int (if x < 0 then -x else x))) σ) : gE 270 0 [some (.int x)] [] σ K := by
  refine w270 ?_
  grind
noncomputable def f270 : gD := fun Lv σ => match Lv with
  | [some (.int x)] => some (none, some (.int (if x < 0 then -x else x)), σ)
  | _ => none
theorem ok270 : gFok 270 f270 := by
  intro Lv σ q h hc K hK
  unfold f270 at h
  split at h
  · rename_i x
    cases h
    exact s270 hK
  · cases h
noncomputable def gpca_l : List (Nat × gD) := (51, f51) :: (53, f53) :: (57, f57) :: (68, f68) :: (270, f270) :: gpfT_l
noncomputable def gpca : gP := gpl0 gpca_l
theorem gpca_ok : gPok gpca := gpl0_cons ok51 (gpl0_cons ok53 (gpl0_cons ok57 (gpl0_cons ok68 (gpl0_cons ok270 (gpfT_ok)))))
set_option maxRecDepth 20000 in
theorem w52_6 {σ : gS} {K : gK} {x : Int32} (h : ((bI ((0 : Int32) ≤ x ∧ x ≤ ((σ 6 4 * 4) - 1))) = 0 ∨ (bI ((0 : Int32) ≤ x ∧ x ≤ ((σ 6 4 * 4) - 1))) = 1) ∧ K (some (.int (bI ((0 : Int32) ≤ x ∧ x ≤ ((σ 6 4 * 4) - 1))))) σ) : gE 52 0 [some (.ref 6), some (.int x)] [] σ K :=
  gw_run (cy := 52) (cuts := []) (inl := []) (pf := gpca) gpca_ok 400 (by decide) h
theorem s52_6 {σ : gS} {K : gK} {x : Int32} (hK : K (some (.int (bI (isS (cR σ 6) x)))) σ) : gE 52 0 [some (.ref 6), some (.int x)] [] σ K := by
  unfold isS at hK
  rw [cR_0, show (4 : Int32) * σ 6 4 = σ 6 4 * 4 from Int32.mul_comm ..] at hK
  exact w52_6 ⟨bI_01, hK⟩
set_option maxRecDepth 20000 in
theorem w52_32 {σ : gS} {K : gK} {x : Int32} (h : ((bI ((0 : Int32) ≤ x ∧ x ≤ ((σ 32 4 * 4) - 1))) = 0 ∨ (bI ((0 : Int32) ≤ x ∧ x ≤ ((σ 32 4 * 4) - 1))) = 1) ∧ K (some (.int (bI ((0 : Int32) ≤ x ∧ x ≤ ((σ 32 4 * 4) - 1))))) σ) : gE 52 0 [some (.ref 32), some (.int x)] [] σ K :=
  gw_run (cy := 52) (cuts := []) (inl := []) (pf := gpca) gpca_ok 400 (by decide) h
theorem s52_32 {σ : gS} {K : gK} {x : Int32} (hK : K (some (.int (bI (isS (cR σ 32) x)))) σ) : gE 52 0 [some (.ref 32), some (.int x)] [] σ K := by
  unfold isS at hK
  rw [cR_0, show (4 : Int32) * σ 32 4 = σ 32 4 * 4 from Int32.mul_comm ..] at hK
  exact w52_32 ⟨bI_01, hK⟩
noncomputable def f52 : gD := fun Lv σ => match Lv with
  | [some (.ref p), some (.int x)] => cond (Nat.beq p 6 || Nat.beq p 32) (some (none, some (.int (bI (isS (cR σ p) x))), σ)) none
  | _ => none
theorem ok52 : gFok 52 f52 := by
  intro Lv σ q h hc K hK
  unfold f52 at h
  split at h
  · rename_i p x
    obtain ⟨hb, h⟩ := c_no h
    have hb0 := hb
    rcases s_or hb0 with hb0 | hb0
    · have e := b_eq hb0
      subst e
      cases h
      exact s52_6 hK
    · have e := b_eq hb0
      subst e
      cases h
      exact s52_32 hK
  · cases h
set_option maxRecDepth 20000 in
theorem w55_6 {σ : gS} {K : gK} {x : Int32} (h : gE 55 2 [some (.ref 6), some (.int x), some (.int 0)] [] σ K) : gE 55 0 [some (.ref 6), some (.int x), none] [] σ K :=
  gw_run (cy := 55) (cuts := [2]) (inl := []) (pf := gpca) gpca_ok 400 (by decide) h
set_option maxRecDepth 20000 in
theorem v55_6 {σ : gS} {K : gK} {x t : Int32} (h : ((¬ t < (σ 6 7) → K (some (.int (-2))) σ) ∧ (t < (σ 6 7) → (0 ≤ t ∧ t < 20) ∧ gTv (6 + 2 + t.toNatClampNeg) ∧ ((¬ (σ (6 + 2 + t.toNatClampNeg) 1) = x → gE 55 2 [some (.ref 6), some (.int x), some (.int (t + 1))] [] σ K) ∧ ((σ (6 + 2 + t.toNatClampNeg) 1) = x → K (some (.int t)) σ))))) : gE 55 2 [some (.ref 6), some (.int x), some (.int t)] [] σ K :=
  gw_run (cy := 55) (cuts := [2]) (inl := []) (pf := gpca) gpca_ok 400 (by decide) h
theorem s55_6 {σ : gS} {K : gK} {x : Int32} (hc : 0 ≤ σ 6 7 ∧ σ 6 7 ≤ 20) (hK : K (some (.int (fWho (cR σ 6) x))) σ) : gE 55 0 [some (.ref 6), some (.int x), none] [] σ K := by
  rw [← cR_3 σ 6] at hc
  refine w55_6 ?_
  refine g_forI (nM (cR σ 6)) (fun k => [some (.ref 6), some (.int x), some (.int (iN k))]) (fun _ => σ) (fun k => ∀ j, j < k → fld (cR σ 6) j 0 ≠ x) (fun hi => ?_) (fun k hk hi ih => ?_) 0 (Nat.zero_le _) (fun j hj => absurd hj (Nat.not_lt_zero j))
  · have hn := (nM_of hc).2
    refine v55_6 ⟨fun _ => ?_, fun h => ?_⟩
    · have e : fWho (cR σ 6) x = -2 := fnd_none (fun j hj => decide_eq_false (hi j hj))
      rw [e] at hK; exact hK
    · rw [← cR_3 σ 6, nM_lt hc (by omega)] at h; omega
  · have hn := (nM_of hc).2
    have hk20 : k < 20 := by omega
    have ek : (iN k).toNatClampNeg = k := iN_nat (by omega)
    have ef := cR_f (σ := σ) (p := 6) (t := k) (f := 0) hk20 (by decide)
    refine v55_6 ⟨fun h => ?_, fun h => ⟨b20 hk20, ?_, fun h2 => ?_, fun h2 => ?_⟩⟩
    · rw [← cR_3 σ 6, nM_lt hc (by omega)] at h; omega
    · rw [ek]; exact tv_6 k hk20
    · rw [ek, ← ef] at h2
      rw [iN_one]
      refine ih (fun j hj => ?_)
      rcases Nat.lt_or_ge j k with q | q
      · exact hi j q
      · have : j = k := by omega
        subst this; exact h2
    · rw [ek, ← ef] at h2
      have e : fWho (cR σ 6) x = iN k := fnd_some (decide_eq_true h2) (fun j hj => decide_eq_false (hi j hj)) (by omega) hk
      rw [e] at hK; exact hK
set_option maxRecDepth 20000 in
theorem w55_32 {σ : gS} {K : gK} {x : Int32} (h : gE 55 2 [some (.ref 32), some (.int x), some (.int 0)] [] σ K) : gE 55 0 [some (.ref 32), some (.int x), none] [] σ K :=
  gw_run (cy := 55) (cuts := [2]) (inl := []) (pf := gpca) gpca_ok 400 (by decide) h
set_option maxRecDepth 20000 in
theorem v55_32 {σ : gS} {K : gK} {x t : Int32} (h : ((¬ t < (σ 32 7) → K (some (.int (-2))) σ) ∧ (t < (σ 32 7) → (0 ≤ t ∧ t < 20) ∧ gTv (32 + 2 + t.toNatClampNeg) ∧ ((¬ (σ (32 + 2 + t.toNatClampNeg) 1) = x → gE 55 2 [some (.ref 32), some (.int x), some (.int (t + 1))] [] σ K) ∧ ((σ (32 + 2 + t.toNatClampNeg) 1) = x → K (some (.int t)) σ))))) : gE 55 2 [some (.ref 32), some (.int x), some (.int t)] [] σ K :=
  gw_run (cy := 55) (cuts := [2]) (inl := []) (pf := gpca) gpca_ok 400 (by decide) h
theorem s55_32 {σ : gS} {K : gK} {x : Int32} (hc : 0 ≤ σ 32 7 ∧ σ 32 7 ≤ 20) (hK : K (some (.int (fWho (cR σ 32) x))) σ) : gE 55 0 [some (.ref 32), some (.int x), none] [] σ K := by
  rw [← cR_3 σ 32] at hc
  refine w55_32 ?_
  refine g_forI (nM (cR σ 32)) (fun k => [some (.ref 32), some (.int x), some (.int (iN k))]) (fun _ => σ) (fun k => ∀ j, j < k → fld (cR σ 32) j 0 ≠ x) (fun hi => ?_) (fun k hk hi ih => ?_) 0 (Nat.zero_le _) (fun j hj => absurd hj (Nat.not_lt_zero j))
  · have hn := (nM_of hc).2
    refine v55_32 ⟨fun _ => ?_, fun h => ?_⟩
    · have e : fWho (cR σ 32) x = -2 := fnd_none (fun j hj => decide_eq_false (hi j hj))
      rw [e] at hK; exact hK
    · rw [← cR_3 σ 32, nM_lt hc (by omega)] at h; omega
  · have hn := (nM_of hc).2
    have hk20 : k < 20 := by omega
    have ek : (iN k).toNatClampNeg = k := iN_nat (by omega)
    have ef := cR_f (σ := σ) (p := 32) (t := k) (f := 0) hk20 (by decide)
    refine v55_32 ⟨fun h => ?_, fun h => ⟨b20 hk20, ?_, fun h2 => ?_, fun h2 => ?_⟩⟩
    · rw [← cR_3 σ 32, nM_lt hc (by omega)] at h; omega
    · rw [ek]; exact tv_32 k hk20
    · rw [ek, ← ef] at h2
      rw [iN_one]
      refine ih (fun j hj => ?_)
      rcases Nat.lt_or_ge j k with q | q
      · exact hi j q
      · have : j = k := by omega
        subst this; exact h2
    · rw [ek, ← ef] at h2
      have e : fWho (cR σ 32) x = iN k := fnd_some (decide_eq_true h2) (fun j hj => decide_eq_false (hi j hj)) (by omega) hk
      rw [e] at hK; exact hK
noncomputable def f55 : gD := fun Lv σ => match Lv with
  | [some (.ref p), some (.int x), none] => cond (Nat.beq p 6 || Nat.beq p 32) (some (some (0 ≤ σ p 7 ∧ σ p 7 ≤ 20), some (.int (fWho (cR σ p) x)), σ)) none
  | _ => none
theorem ok55 : gFok 55 f55 := by
  intro Lv σ q h hc K hK
  unfold f55 at h
  split at h
  · rename_i p x
    obtain ⟨hb, h⟩ := c_no h
    have hb0 := hb
    rcases s_or hb0 with hb0 | hb0
    · have e := b_eq hb0
      subst e
      cases h
      exact s55_6 (hc _ rfl) hK
    · have e := b_eq hb0
      subst e
      cases h
      exact s55_32 (hc _ rfl) hK
  · cases h
noncomputable def gpcb_l : List (Nat × gD) := (52, f52) :: (55, f55) :: gpca_l
noncomputable def gpcb : gP := gpl0 gpcb_l
theorem gpcb_ok : gPok gpcb := gpl0_cons ok52 (gpl0_cons ok55 (gpca_ok))
set_option maxRecDepth 20000 in
theorem w56_6 {σ : gS} {K : gK} {x : Int32} (h : (0 ≤ σ 6 7 ∧ σ 6 7 ≤ 20) ∧ ((¬ (fWho (cR σ 6) x) = (-2) → ((0 : Int32) = 0 ∨ (0 : Int32) = 1) ∧ K (some (.int 0)) σ) ∧ ((fWho (cR σ 6) x) = (-2) → ((1 : Int32) = 0 ∨ (1 : Int32) = 1) ∧ K (some (.int 1)) σ))) : gE 56 0 [some (.ref 6), some (.int x)] [] σ K :=
  gw_run (cy := 56) (cuts := []) (inl := []) (pf := gpcb) gpcb_ok 400 (by decide) h
theorem s56_6 {σ : gS} {K : gK} {x : Int32} (hc : 0 ≤ σ 6 7 ∧ σ 6 7 ≤ 20) (hK : K (some (.int (bI (fWho (cR σ 6) x = -2)))) σ) : gE 56 0 [some (.ref 6), some (.int x)] [] σ K := by
  refine w56_6 ?_
  grind [bI]
set_option maxRecDepth 20000 in
theorem w56_32 {σ : gS} {K : gK} {x : Int32} (h : (0 ≤ σ 32 7 ∧ σ 32 7 ≤ 20) ∧ ((¬ (fWho (cR σ 32) x) = (-2) → ((0 : Int32) = 0 ∨ (0 : Int32) = 1) ∧ K (some (.int 0)) σ) ∧ ((fWho (cR σ 32) x) = (-2) → ((1 : Int32) = 0 ∨ (1 : Int32) = 1) ∧ K (some (.int 1)) σ))) : gE 56 0 [some (.ref 32), some (.int x)] [] σ K :=
  gw_run (cy := 56) (cuts := []) (inl := []) (pf := gpcb) gpcb_ok 400 (by decide) h
theorem s56_32 {σ : gS} {K : gK} {x : Int32} (hc : 0 ≤ σ 32 7 ∧ σ 32 7 ≤ 20) (hK : K (some (.int (bI (fWho (cR σ 32) x = -2)))) σ) : gE 56 0 [some (.ref 32), some (.int x)] [] σ K := by
  refine w56_32 ?_
  grind [bI]
noncomputable def f56 : gD := fun Lv σ => match Lv with
  | [some (.ref p), some (.int x)] => cond (Nat.beq p 6 || Nat.beq p 32) (some (some (0 ≤ σ p 7 ∧ σ p 7 ≤ 20), some (.int (bI (fWho (cR σ p) x = -2))), σ)) none
  | _ => none
theorem ok56 : gFok 56 f56 := by
  intro Lv σ q h hc K hK
  unfold f56 at h
  split at h
  · rename_i p x
    obtain ⟨hb, h⟩ := c_no h
    have hb0 := hb
    rcases s_or hb0 with hb0 | hb0
    · have e := b_eq hb0
      subst e
      cases h
      exact s56_6 (hc _ rfl) hK
    · have e := b_eq hb0
      subst e
      cases h
      exact s56_32 (hc _ rfl) hK
  · cases h
set_option maxRecDepth 20000 in
theorem w58_6 {σ : gS} {K : gK} {t x : Int32} (h : (0 ≤ t ∧ t < 20) ∧ gTv (6 + 2 + t.toNatClampNeg) ∧ ((bI ((σ (6 + 2 + t.toNatClampNeg) 2) = 1 ∨ cR σ 6 1 ≤ x / 4)) = 0 ∨ (bI ((σ (6 + 2 + t.toNatClampNeg) 2) = 1 ∨ cR σ 6 1 ≤ x / 4)) = 1) ∧ K (some (.int (bI ((σ (6 + 2 + t.toNatClampNeg) 2) = 1 ∨ cR σ 6 1 ≤ x / 4)))) σ) : gE 58 0 [some (.ref 6), some (.int t), some (.int x)] [] σ K :=
  gw_run (cy := 58) (cuts := []) (inl := []) (pf := gpcb) gpcb_ok 400 (by decide) h
theorem s58_6 {σ : gS} {K : gK} {t x : Int32} (hc : 0 ≤ t ∧ t < 20) (hK : K (some (.int (bI (fMay (cR σ 6) t.toNatClampNeg x)))) σ) : gE 58 0 [some (.ref 6), some (.int t), some (.int x)] [] σ K := by
  have lt := n20 hc
  refine w58_6 ⟨hc, tv_6 _ lt, bI_01, ?_⟩
  unfold fMay at hK
  rw [cR_f lt (by decide)] at hK
  exact hK
set_option maxRecDepth 20000 in
theorem w58_32 {σ : gS} {K : gK} {t x : Int32} (h : (0 ≤ t ∧ t < 20) ∧ gTv (32 + 2 + t.toNatClampNeg) ∧ ((bI ((σ (32 + 2 + t.toNatClampNeg) 2) = 1 ∨ cR σ 32 1 ≤ x / 4)) = 0 ∨ (bI ((σ (32 + 2 + t.toNatClampNeg) 2) = 1 ∨ cR σ 32 1 ≤ x / 4)) = 1) ∧ K (some (.int (bI ((σ (32 + 2 + t.toNatClampNeg) 2) = 1 ∨ cR σ 32 1 ≤ x / 4)))) σ) : gE 58 0 [some (.ref 32), some (.int t), some (.int x)] [] σ K :=
  gw_run (cy := 58) (cuts := []) (inl := []) (pf := gpcb) gpcb_ok 400 (by decide) h
theorem s58_32 {σ : gS} {K : gK} {t x : Int32} (hc : 0 ≤ t ∧ t < 20) (hK : K (some (.int (bI (fMay (cR σ 32) t.toNatClampNeg x)))) σ) : gE 58 0 [some (.ref 32), some (.int t), some (.int x)] [] σ K := by
  have lt := n20 hc
  refine w58_32 ⟨hc, tv_32 _ lt, bI_01, ?_⟩
  unfold fMay at hK
  rw [cR_f lt (by decide)] at hK
  exact hK
noncomputable def f58 : gD := fun Lv σ => match Lv with
  | [some (.ref p), some (.int t), some (.int x)] => cond (Nat.beq p 6 || Nat.beq p 32) (some (some (0 ≤ t ∧ t < 20), some (.int (bI (fMay (cR σ p) t.toNatClampNeg x))), σ)) none
  | _ => none
theorem ok58 : gFok 58 f58 := by
  intro Lv σ q h hc K hK
  unfold f58 at h
  split at h
  · rename_i p t x
    obtain ⟨hb, h⟩ := c_no h
    have hb0 := hb
    rcases s_or hb0 with hb0 | hb0
    · have e := b_eq hb0
      subst e
      cases h
      exact s58_6 (hc _ rfl) hK
    · have e := b_eq hb0
      subst e
      cases h
      exact s58_32 (hc _ rfl) hK
  · cases h
/-- bounds of a train's travellers -/
abbrev bT (R : gW) : Prop := ∀ t, t < nM R → ((fld R t 1 = 0 ∨ fld R t 1 = 1) ∧ (0 ≤ fld R t 0 ∧ fld R t 0 < 40) ∧ (0 ≤ fld R t 2 ∧ fld R t 2 ≤ 9))
set_option maxRecDepth 20000 in
theorem w59_6 {σ : gS} {K : gK} {f : Int32} (h : gE 59 4 [some (.ref 6), some (.int f), some (.int 0), some (.int 0), none] [] σ K) : gE 59 0 [some (.ref 6), some (.int f), none, none, none] [] σ K :=
  gw_run (cy := 59) (cuts := [4]) (inl := []) (pf := gpcb) gpcb_ok 400 (by decide) h
set_option maxRecDepth 20000 in
theorem v59_6 {σ : gS} {K : gK} {f s t : Int32} {u : Option Value} (h : ((¬ t < (σ 6 7) → K (some (.int s)) σ) ∧ (t < (σ 6 7) → (0 ≤ t ∧ t < 20) ∧ gTv (6 + 2 + t.toNatClampNeg) ∧ ((¬ (σ (6 + 2 + t.toNatClampNeg) 2) = 0 → gE 59 4 [some (.ref 6), some (.int f), some (.int s), some (.int (t + 1)), some (.ref (6 + 2 + t.toNatClampNeg))] [] σ K) ∧ ((σ (6 + 2 + t.toNatClampNeg) 2) = 0 → gTv (6 + 2 + t.toNatClampNeg) ∧ (4 : Int32) ≠ 0 ∧ ((¬ ((σ (6 + 2 + t.toNatClampNeg) 1) / 4) < f → gE 59 4 [some (.ref 6), some (.int f), some (.int s), some (.int (t + 1)), some (.ref (6 + 2 + t.toNatClampNeg))] [] σ K) ∧ (((σ (6 + 2 + t.toNatClampNeg) 1) / 4) < f → gE 59 4 [some (.ref 6), some (.int f), some (.int (s + 1)), some (.int (t + 1)), some (.ref (6 + 2 + t.toNatClampNeg))] [] σ K))))))) : gE 59 4 [some (.ref 6), some (.int f), some (.int s), some (.int t), u] [] σ K :=
  gw_run (cy := 59) (cuts := [4]) (inl := []) (pf := gpcb) gpcb_ok 400 (by decide) h
theorem s59_6 {σ : gS} {K : gK} {f : Int32} (hc : 0 ≤ σ 6 7 ∧ σ 6 7 ≤ 20 ∧ bT (cR σ 6)) (hK : K (some (.int (fBar (cR σ 6) f))) σ) : gE 59 0 [some (.ref 6), some (.int f), none, none, none] [] σ K := by
  obtain ⟨h1, h2, hb⟩ := hc
  have hc : 0 ≤ cR σ 6 3 ∧ cR σ 6 3 ≤ 20 := by rw [cR_3]; exact ⟨h1, h2⟩
  refine w59_6 ?_
  refine g_forJ (nM (cR σ 6)) (fun k u => [some (.ref 6), some (.int f), some (.int (iN (cnt (fun t => decide (¬ (fld (cR σ 6) t 1 = 1 ∨ f ≤ fld (cR σ 6) t 0 / 4))) k))), some (.int (iN k)), u]) (fun _ => σ) (fun _ => True) (fun _ u => ?_) (fun k hk _ ih u => ?_) 0 (Nat.zero_le _) trivial none
  · have hn := (nM_of hc).2
    refine v59_6 ⟨fun _ => hK, fun h => ?_⟩
    rw [← cR_3 σ 6, nM_lt hc (by omega)] at h; omega
  · have hn := (nM_of hc).2
    have hk20 : k < 20 := by omega
    have ek : (iN k).toNatClampNeg = k := iN_nat (by omega)
    have e0 := cR_f (σ := σ) (p := 6) (t := k) (f := 0) hk20 (by decide)
    have e1 := cR_f (σ := σ) (p := 6) (t := k) (f := 1) hk20 (by decide)
    have ht := (hb k hk).1
    have ih := ih trivial
    have tv := tv_6 k hk20
    refine v59_6 ⟨fun h => ?_, fun h => ⟨b20 hk20, ?_⟩⟩
    · rw [← cR_3 σ 6, nM_lt hc (by omega)] at h; omega
    · rw [ek, ← e0, ← e1, iN_one, iN_one]
      refine ⟨tv, fun h => ?_, fun h => ⟨tv, by decide, fun h2 => ?_, fun h2 => ?_⟩⟩
      · rw [cnt_f (fun e => (of_decide_eq_true e) (Or.inl (ht.resolve_left h)))] at ih
        exact ih _
      · rw [cnt_f (fun e => (of_decide_eq_true e) (Or.inr (Int32.not_lt.mp h2)))] at ih
        exact ih _
      · have hP : decide (¬ (fld (cR σ 6) k 1 = 1 ∨ f ≤ fld (cR σ 6) k 0 / 4)) = true := decide_eq_true (fun q => by
          rcases q with q | q
          · rw [h] at q; exact absurd q (by decide)
          · exact absurd h2 (Int32.not_lt.mpr q))
        rw [cnt_t hP] at ih
        exact ih _
set_option maxRecDepth 20000 in
theorem w59_32 {σ : gS} {K : gK} {f : Int32} (h : gE 59 4 [some (.ref 32), some (.int f), some (.int 0), some (.int 0), none] [] σ K) : gE 59 0 [some (.ref 32), some (.int f), none, none, none] [] σ K :=
  gw_run (cy := 59) (cuts := [4]) (inl := []) (pf := gpcb) gpcb_ok 400 (by decide) h
set_option maxRecDepth 20000 in
theorem v59_32 {σ : gS} {K : gK} {f s t : Int32} {u : Option Value} (h : ((¬ t < (σ 32 7) → K (some (.int s)) σ) ∧ (t < (σ 32 7) → (0 ≤ t ∧ t < 20) ∧ gTv (32 + 2 + t.toNatClampNeg) ∧ ((¬ (σ (32 + 2 + t.toNatClampNeg) 2) = 0 → gE 59 4 [some (.ref 32), some (.int f), some (.int s), some (.int (t + 1)), some (.ref (32 + 2 + t.toNatClampNeg))] [] σ K) ∧ ((σ (32 + 2 + t.toNatClampNeg) 2) = 0 → gTv (32 + 2 + t.toNatClampNeg) ∧ (4 : Int32) ≠ 0 ∧ ((¬ ((σ (32 + 2 + t.toNatClampNeg) 1) / 4) < f → gE 59 4 [some (.ref 32), some (.int f), some (.int s), some (.int (t + 1)), some (.ref (32 + 2 + t.toNatClampNeg))] [] σ K) ∧ (((σ (32 + 2 + t.toNatClampNeg) 1) / 4) < f → gE 59 4 [some (.ref 32), some (.int f), some (.int (s + 1)), some (.int (t + 1)), some (.ref (32 + 2 + t.toNatClampNeg))] [] σ K))))))) : gE 59 4 [some (.ref 32), some (.int f), some (.int s), some (.int t), u] [] σ K :=
  gw_run (cy := 59) (cuts := [4]) (inl := []) (pf := gpcb) gpcb_ok 400 (by decide) h
theorem s59_32 {σ : gS} {K : gK} {f : Int32} (hc : 0 ≤ σ 32 7 ∧ σ 32 7 ≤ 20 ∧ bT (cR σ 32)) (hK : K (some (.int (fBar (cR σ 32) f))) σ) : gE 59 0 [some (.ref 32), some (.int f), none, none, none] [] σ K := by
  obtain ⟨h1, h2, hb⟩ := hc
  have hc : 0 ≤ cR σ 32 3 ∧ cR σ 32 3 ≤ 20 := by rw [cR_3]; exact ⟨h1, h2⟩
  refine w59_32 ?_
  refine g_forJ (nM (cR σ 32)) (fun k u => [some (.ref 32), some (.int f), some (.int (iN (cnt (fun t => decide (¬ (fld (cR σ 32) t 1 = 1 ∨ f ≤ fld (cR σ 32) t 0 / 4))) k))), some (.int (iN k)), u]) (fun _ => σ) (fun _ => True) (fun _ u => ?_) (fun k hk _ ih u => ?_) 0 (Nat.zero_le _) trivial none
  · have hn := (nM_of hc).2
    refine v59_32 ⟨fun _ => hK, fun h => ?_⟩
    rw [← cR_3 σ 32, nM_lt hc (by omega)] at h; omega
  · have hn := (nM_of hc).2
    have hk20 : k < 20 := by omega
    have ek : (iN k).toNatClampNeg = k := iN_nat (by omega)
    have e0 := cR_f (σ := σ) (p := 32) (t := k) (f := 0) hk20 (by decide)
    have e1 := cR_f (σ := σ) (p := 32) (t := k) (f := 1) hk20 (by decide)
    have ht := (hb k hk).1
    have ih := ih trivial
    have tv := tv_32 k hk20
    refine v59_32 ⟨fun h => ?_, fun h => ⟨b20 hk20, ?_⟩⟩
    · rw [← cR_3 σ 32, nM_lt hc (by omega)] at h; omega
    · rw [ek, ← e0, ← e1, iN_one, iN_one]
      refine ⟨tv, fun h => ?_, fun h => ⟨tv, by decide, fun h2 => ?_, fun h2 => ?_⟩⟩
      · rw [cnt_f (fun e => (of_decide_eq_true e) (Or.inl (ht.resolve_left h)))] at ih
        exact ih _
      · rw [cnt_f (fun e => (of_decide_eq_true e) (Or.inr (Int32.not_lt.mp h2)))] at ih
        exact ih _
      · have hP : decide (¬ (fld (cR σ 32) k 1 = 1 ∨ f ≤ fld (cR σ 32) k 0 / 4)) = true := decide_eq_true (fun q => by
          rcases q with q | q
          · rw [h] at q; exact absurd q (by decide)
          · exact absurd h2 (Int32.not_lt.mpr q))
        rw [cnt_t hP] at ih
        exact ih _
noncomputable def f59 : gD := fun Lv σ => match Lv with
  | [some (.ref p), some (.int f), none, none, none] => cond (Nat.beq p 6 || Nat.beq p 32) (some (some (0 ≤ σ p 7 ∧ σ p 7 ≤ 20 ∧ bT (cR σ p)), some (.int (fBar (cR σ p) f)), σ)) none
  | _ => none
theorem ok59 : gFok 59 f59 := by
  intro Lv σ q h hc K hK
  unfold f59 at h
  split at h
  · rename_i p f
    obtain ⟨hb, h⟩ := c_no h
    have hb0 := hb
    rcases s_or hb0 with hb0 | hb0
    · have e := b_eq hb0
      subst e
      cases h
      exact s59_6 (hc _ rfl) hK
    · have e := b_eq hb0
      subst e
      cases h
      exact s59_32 (hc _ rfl) hK
  · cases h
-- text 24
/-! THE CLASS: members counted, joys -/
noncomputable def gpcc_l : List (Nat × gD) := (56, f56) :: (58, f58) :: (59, f59) :: gpcb_l
noncomputable def gpcc : gP := gpl0 gpcc_l
theorem gpcc_ok : gPok gpcc := gpl0_cons ok56 (gpl0_cons ok58 (gpl0_cons ok59 (gpcb_ok)))
/-- how many of a family sit at a table -/
def memP (R : gW) (b f : Int32) (t : Nat) : Bool := decide (fld R t 0 / 8 = b ∧ fld R t 2 = f)
def mem (R : gW) (b f : Int32) : Nat := cnt (memP R b f) (nM R)
abbrev cM (σ : gS) (p : Nat) : Prop := ∀ a, a < 5 → ∀ f, f < 10 → σ (p + 23) (a * 10 + f) = iN (mem (cR σ p) (iN a) (iN f))
/-- the train at place p is sound -/
abbrev TC (σ : gS) (p : Nat) : Prop := (0 ≤ cR σ p 3 ∧ cR σ p 3 ≤ 20) ∧ bT (cR σ p) ∧ cM σ p
def cMa (σ : gS) (p : Nat) (b f : Int32) : Int32 := if 0 ≤ b * 10 + f ∧ b * 10 + f < 50 then σ (p + 23) (b * 10 + f).toNatClampNeg else 0
def cRel (σ : gS) (p w : Nat) (b : Int32) : Int32 := if σ w 3 = 0 then 0 else if σ w 1 / 8 = b then cMa σ p b (σ w 3) - 1 else cMa σ p b (σ w 3)
theorem cMa_of {σ : gS} {p a f : Nat} (ha : a < 5) (hf : f < 10) : cMa σ p (iN a) (iN f) = σ (p + 23) (a * 10 + f) := by
  unfold cMa
  have e : (iN a * 10 + iN f : Int32) = iN (a * 10 + f) := by
    show iN a * iN 10 + iN f = _
    rw [iN_mul, iN_add]
  rw [e, iN_nat (by omega), if_pos ⟨(iN_le (k := 0) (by decide) (by omega)).mpr (by omega), (iN_lt (m := 50) (by omega) (by decide)).mpr (by omega)⟩]
theorem cnt_ex {Q : Nat → Bool} {t : Nat} : ∀ {n : Nat}, t < n → cnt (fun j => Q j && decide (j ≠ t)) n + (if Q t = true then 1 else 0) = cnt Q n
  | 0, h => absurd h (Nat.not_lt_zero t)
  | n + 1, h => by
    by_cases e : t = n
    · subst e
      have e1 : cnt (fun j => Q j && decide (j ≠ t)) t = cnt Q t := cnt_congr (fun j hj => by
        have : decide (j ≠ t) = true := decide_eq_true (by omega)
        simp only [this, Bool.and_true])
      show cnt (fun j => Q j && decide (j ≠ t)) t + (if (Q t && decide (t ≠ t)) = true then 1 else 0) + _ = cnt Q t + (if Q t = true then 1 else 0)
      rw [e1]
      simp
    · have ih := cnt_ex (Q := Q) (show t < n by omega)
      have e2 : decide (n ≠ t) = true := decide_eq_true (fun q => e q.symm)
      show cnt (fun j => Q j && decide (j ≠ t)) n + (if (Q n && decide (n ≠ t)) = true then 1 else 0) + _ = cnt Q n + (if Q n = true then 1 else 0)
      rw [e2, Bool.and_true]
      omega
theorem kin_mem {R : gW} {t : Nat} {b : Int32} (hR : 0 ≤ R 3 ∧ R 3 ≤ 20) (ht : t < nM R) (hf : 0 ≤ fld R t 2) : kin R t b = if fld R t 2 = 0 then 0 else if fld R t 0 / 8 = b then iN (mem R b (fld R t 2)) - 1 else iN (mem R b (fld R t 2)) := by
  have hn := (nM_of hR).2
  unfold kin mem
  by_cases h0 : fld R t 2 = 0
  · rw [if_pos h0]
    have : cnt (kinP R t b) (nM R) = 0 := by
      have h : ∀ n, cnt (kinP R t b) n = 0 := by
        intro n
        induction n with
        | zero => rfl
        | succ n ih =>
          rw [cnt_f, ih]
          intro q
          have q := (of_decide_eq_true q).2.1
          rw [h0] at q
          exact absurd q (by decide)
      exact h _
    rw [this]
    rfl
  · rw [if_neg h0]
    have hp : 0 < fld R t 2 := by grind
    have e1 : cnt (kinP R t b) (nM R) = cnt (fun j => memP R b (fld R t 2) j && decide (j ≠ t)) (nM R) := cnt_congr (fun j hj => by
      unfold kinP memP
      rw [← Bool.decide_and]
      congr 1
      apply propext
      constructor
      · intro q; exact ⟨⟨q.2.2.2, q.2.2.1⟩, q.1⟩
      · intro q; exact ⟨q.2, hp, q.1.2, q.1.1⟩)
    have e2 := cnt_ex (Q := memP R b (fld R t 2)) ht
    rw [e1]
    by_cases hb : fld R t 0 / 8 = b
    · rw [if_pos hb]
      have : memP R b (fld R t 2) t = true := decide_eq_true ⟨hb, rfl⟩
      rw [if_pos this] at e2
      have hle := cnt_le (memP R b (fld R t 2)) (nM R)
      rw [← e2]
      have e3 := iN_sub (m := cnt (fun j => memP R b (fld R t 2) j && decide (j ≠ t)) (nM R) + 1) (d := 1) (by omega) (by omega)
      rw [Nat.add_sub_cancel] at e3
      exact e3.symm
    · rw [if_neg hb]
      have : ¬ memP R b (fld R t 2) t = true := fun q => hb (of_decide_eq_true q).1
      rw [if_neg this, Nat.add_zero] at e2
      rw [e2]
theorem i8 {x : Int32} (h : 0 ≤ x ∧ x < 40) : ∃ a, a < 5 ∧ x / 8 = iN a := by
  obtain ⟨e, l⟩ := iN_of h.1
  have l2 : x.toNatClampNeg < 40 := by
    have h2 := h.2
    rw [e] at h2
    exact (iN_lt (m := 40) l (by decide)).mp h2
  refine ⟨x.toNatClampNeg / 8, by omega, ?_⟩
  rw [e, show (8 : Int32) = iN 8 from rfl, iN_div (by omega) (by decide), iN_nat l]
theorem i10 {x : Int32} (h : 0 ≤ x ∧ x ≤ 9) : ∃ a, a < 10 ∧ x = iN a := by
  obtain ⟨e, l⟩ := iN_of h.1
  refine ⟨x.toNatClampNeg, ?_, e⟩
  have h2 := h.2
  rw [e] at h2
  have := (iN_le (m := 9) l (by decide)).mp h2
  omega
theorem cRel_kin {σ : gS} {p t : Nat} {x : Int32} (h : TC σ p) (ht : t < nM (cR σ p)) (hx : 0 ≤ x ∧ x < 40) : cRel σ p (p + 2 + t) (x / 8) = kin (cR σ p) t (x / 8) := by
  obtain ⟨h3, hb, hm⟩ := h
  have hn := (nM_of h3).2
  obtain ⟨-, -, hf⟩ := hb t ht
  have e0 := cR_f (σ := σ) (p := p) (t := t) (f := 0) (by omega) (by decide)
  have e2 := cR_f (σ := σ) (p := p) (t := t) (f := 2) (by omega) (by decide)
  obtain ⟨a, ha, ea⟩ := i8 hx
  obtain ⟨f, hf2, ef⟩ := i10 hf
  rw [kin_mem h3 ht hf.1]
  unfold cRel
  rw [← e0, ← e2, ea, ef, cMa_of ha hf2, hm a ha f hf2]
set_option maxRecDepth 20000 in
theorem w60_6 {σ : gS} {K : gK} {b f : Int32} (h : ((((b * 10) + f) < 0 → K (some (.int 0)) σ) ∧ (¬ ((b * 10) + f) < 0 → ((¬ ((b * 10) + f) < 50 → K (some (.int 0)) σ) ∧ (((b * 10) + f) < 50 → (0 ≤ ((b * 10) + f) ∧ ((b * 10) + f) < 50) ∧ K (some (.int (σ 29 ((b * 10) + f).toNatClampNeg))) σ))))) : gE 60 0 [some (.ref 6), some (.int b), some (.int f), none] [] σ K :=
  gw_run (cy := 60) (cuts := []) (inl := []) (pf := gpcc) gpcc_ok 400 (by decide) h
theorem s60_6 {σ : gS} {K : gK} {b f : Int32} (hK : K (some (.int (cMa σ 6 b f))) σ) : gE 60 0 [some (.ref 6), some (.int b), some (.int f), none] [] σ K := by
  unfold cMa at hK
  refine w60_6 ?_
  grind
set_option maxRecDepth 20000 in
theorem w60_32 {σ : gS} {K : gK} {b f : Int32} (h : ((((b * 10) + f) < 0 → K (some (.int 0)) σ) ∧ (¬ ((b * 10) + f) < 0 → ((¬ ((b * 10) + f) < 50 → K (some (.int 0)) σ) ∧ (((b * 10) + f) < 50 → (0 ≤ ((b * 10) + f) ∧ ((b * 10) + f) < 50) ∧ K (some (.int (σ 55 ((b * 10) + f).toNatClampNeg))) σ))))) : gE 60 0 [some (.ref 32), some (.int b), some (.int f), none] [] σ K :=
  gw_run (cy := 60) (cuts := []) (inl := []) (pf := gpcc) gpcc_ok 400 (by decide) h
theorem s60_32 {σ : gS} {K : gK} {b f : Int32} (hK : K (some (.int (cMa σ 32 b f))) σ) : gE 60 0 [some (.ref 32), some (.int b), some (.int f), none] [] σ K := by
  unfold cMa at hK
  refine w60_32 ?_
  grind
noncomputable def f60 : gD := fun Lv σ => match Lv with
  | [some (.ref p), some (.int b), some (.int f), none] => cond (Nat.beq p 6 || Nat.beq p 32) (some (none, some (.int (cMa σ p b f)), σ)) none
  | _ => none
theorem ok60 : gFok 60 f60 := by
  intro Lv σ q h hc K hK
  unfold f60 at h
  split at h
  · rename_i p b f
    obtain ⟨hb, h⟩ := c_no h
    have hb0 := hb
    rcases s_or hb0 with hb0 | hb0
    · have e := b_eq hb0
      subst e
      cases h
      exact s60_6 hK
    · have e := b_eq hb0
      subst e
      cases h
      exact s60_32 hK
  · cases h
noncomputable def gpcd_l : List (Nat × gD) := (60, f60) :: gpcc_l
noncomputable def gpcd : gP := gpl0 gpcd_l
theorem gpcd_ok : gPok gpcd := gpl0_cons ok60 (gpcc_ok)
set_option maxRecDepth 20000 in
theorem w67_6 {σ : gS} {K : gK} {b : Int32} {w : Nat} (h : gTv w ∧ ((¬ (σ w 3) = 0 → gTv w ∧ gTv w ∧ (8 : Int32) ≠ 0 ∧ ((¬ ((σ w 1) / 8) = b → K (some (.int (cMa σ 6 b (σ w 3)))) σ) ∧ (((σ w 1) / 8) = b → K (some (.int ((cMa σ 6 b (σ w 3)) - 1))) σ))) ∧ ((σ w 3) = 0 → K (some (.int 0)) σ))) : gE 67 0 [some (.ref 6), some (.ref w), some (.int b), none] [] σ K :=
  gw_run (cy := 67) (cuts := []) (inl := []) (pf := gpcd) gpcd_ok 400 (by decide) h
theorem s67_6 {σ : gS} {K : gK} {w : Nat} {b : Int32} (hc : gTv w) (hK : K (some (.int (cRel σ 6 w b))) σ) : gE 67 0 [some (.ref 6), some (.ref w), some (.int b), none] [] σ K := by
  unfold cRel at hK
  refine w67_6 ?_
  have h8 : (8 : Int32) ≠ 0 := by decide
  grind
set_option maxRecDepth 20000 in
theorem w67_32 {σ : gS} {K : gK} {b : Int32} {w : Nat} (h : gTv w ∧ ((¬ (σ w 3) = 0 → gTv w ∧ gTv w ∧ (8 : Int32) ≠ 0 ∧ ((¬ ((σ w 1) / 8) = b → K (some (.int (cMa σ 32 b (σ w 3)))) σ) ∧ (((σ w 1) / 8) = b → K (some (.int ((cMa σ 32 b (σ w 3)) - 1))) σ))) ∧ ((σ w 3) = 0 → K (some (.int 0)) σ))) : gE 67 0 [some (.ref 32), some (.ref w), some (.int b), none] [] σ K :=
  gw_run (cy := 67) (cuts := []) (inl := []) (pf := gpcd) gpcd_ok 400 (by decide) h
theorem s67_32 {σ : gS} {K : gK} {w : Nat} {b : Int32} (hc : gTv w) (hK : K (some (.int (cRel σ 32 w b))) σ) : gE 67 0 [some (.ref 32), some (.ref w), some (.int b), none] [] σ K := by
  unfold cRel at hK
  refine w67_32 ?_
  have h8 : (8 : Int32) ≠ 0 := by decide
  grind
noncomputable def f67 : gD := fun Lv σ => match Lv with
  | [some (.ref p), some (.ref w), some (.int b), none] => cond (Nat.beq p 6 || Nat.beq p 32) (some (some (gTv w), some (.int (cRel σ p w b)), σ)) none
  | _ => none
theorem ok67 : gFok 67 f67 := by
  intro Lv σ q h hc K hK
  unfold f67 at h
  split at h
  · rename_i p w b
    obtain ⟨hb, h⟩ := c_no h
    have hb0 := hb
    rcases s_or hb0 with hb0 | hb0
    · have e := b_eq hb0
      subst e
      cases h
      exact s67_6 (hc _ rfl) hK
    · have e := b_eq hb0
      subst e
      cases h
      exact s67_32 (hc _ rfl) hK
  · cases h
noncomputable def gpce_l : List (Nat × gD) := (67, f67) :: gpcd_l
noncomputable def gpce : gP := gpl0 gpce_l
theorem gpce_ok : gPok gpce := gpl0_cons ok67 (gpcd_ok)
set_option maxRecDepth 20000 in
theorem w65_6 {σ : gS} {K : gK} {t x : Int32} (h : (0 ≤ t ∧ t < 20) ∧ (4 : Int32) ≠ 0 ∧ (4 : Int32) ≠ 0 ∧ (8 : Int32) ≠ 0 ∧ (gTv (6 + 2 + t.toNatClampNeg)) ∧ gTv (6 + 2 + t.toNatClampNeg) ∧ gTv (6 + 2 + t.toNatClampNeg) ∧ (((x - x / 4 * 4) = 0 → gTv (6 + 2 + t.toNatClampNeg) ∧ (((bI (isFwd (x / 4))) = 0 → K (some (.int (((4 * (cRel σ 6 (6 + 2 + t.toNatClampNeg) (x / 8))) - ((σ (6 + 2 + t.toNatClampNeg) 7) * (if ((x / 4) - (σ (6 + 2 + t.toNatClampNeg) 6)) < 0 then -((x / 4) - (σ (6 + 2 + t.toNatClampNeg) 6)) else ((x / 4) - (σ (6 + 2 + t.toNatClampNeg) 6))))) + (σ (6 + 2 + t.toNatClampNeg) 4)))) σ) ∧ (¬ (bI (isFwd (x / 4))) = 0 → gTv (6 + 2 + t.toNatClampNeg) ∧ K (some (.int ((((4 * (cRel σ 6 (6 + 2 + t.toNatClampNeg) (x / 8))) - ((σ (6 + 2 + t.toNatClampNeg) 7) * (if ((x / 4) - (σ (6 + 2 + t.toNatClampNeg) 6)) < 0 then -((x / 4) - (σ (6 + 2 + t.toNatClampNeg) 6)) else ((x / 4) - (σ (6 + 2 + t.toNatClampNeg) 6))))) + (σ (6 + 2 + t.toNatClampNeg) 4)) + (σ (6 + 2 + t.toNatClampNeg) 5)))) σ))) ∧ (¬ (x - x / 4 * 4) = 0 → ((¬ (x - x / 4 * 4) = 3 → (((bI (isFwd (x / 4))) = 0 → K (some (.int ((4 * (cRel σ 6 (6 + 2 + t.toNatClampNeg) (x / 8))) - ((σ (6 + 2 + t.toNatClampNeg) 7) * (if ((x / 4) - (σ (6 + 2 + t.toNatClampNeg) 6)) < 0 then -((x / 4) - (σ (6 + 2 + t.toNatClampNeg) 6)) else ((x / 4) - (σ (6 + 2 + t.toNatClampNeg) 6))))))) σ) ∧ (¬ (bI (isFwd (x / 4))) = 0 → gTv (6 + 2 + t.toNatClampNeg) ∧ K (some (.int (((4 * (cRel σ 6 (6 + 2 + t.toNatClampNeg) (x / 8))) - ((σ (6 + 2 + t.toNatClampNeg) 7) * (if ((x / 4) - (σ (6 + 2 + t.toNatClampNeg) 6)) < 0 then -((x / 4) - (σ (6 + 2 + t.toNatClampNeg) 6)) else ((x / 4) - (σ (6 + 2 + t.toNatClampNeg) 6))))) + (σ (6 + 2 + t.toNatClampNeg) 5)))) σ))) ∧ ((x - x / 4 * 4) = 3 → gTv (6 + 2 + t.toNatClampNeg) ∧ (((bI (isFwd (x / 4))) = 0 → K (some (.int (((4 * (cRel σ 6 (6 + 2 + t.toNatClampNeg) (x / 8))) - ((σ (6 + 2 + t.toNatClampNeg) 7) * (if ((x / 4) - (σ (6 + 2 + t.toNatClampNeg) 6)) < 0 then -((x / 4) - (σ (6 + 2 + t.toNatClampNeg) 6)) else ((x / 4) - (σ (6 + 2 + t.toNatClampNeg) 6))))) + (σ (6 + 2 + t.toNatClampNeg) 4)))) σ) ∧ (¬ (bI (isFwd (x / 4))) = 0 → gTv (6 + 2 + t.toNatClampNeg) ∧ K (some (.int ((((4 * (cRel σ 6 (6 + 2 + t.toNatClampNeg) (x / 8))) - ((σ (6 + 2 + t.toNatClampNeg) 7) * (if ((x / 4) - (σ (6 + 2 + t.toNatClampNeg) 6)) < 0 then -((x / 4) - (σ (6 + 2 + t.toNatClampNeg) 6)) else ((x / 4) - (σ (6 + 2 + t.toNatClampNeg) 6))))) + (σ (6 + 2 + t.toNatClampNeg) 4)) + (σ (6 + 2 + t.toNatClampNeg) 5)))) σ))))))) : gE 65 0 [some (.ref 6), some (.int t), some (.int x), none, none, none, none] [] σ K :=
  gw_run (cy := 65) (cuts := []) (inl := []) (pf := gpce) gpce_ok 400 (by decide) h
theorem s65_6 {σ : gS} {K : gK} {t x : Int32} (hc : ((0 ≤ t ∧ t < 20) ∧ t.toNatClampNeg < nM (cR σ 6)) ∧ (0 ≤ x ∧ x < 40) ∧ TC σ 6) (hK : K (some (.int (fJoy (cR σ 6) t.toNatClampNeg x))) σ) : gE 65 0 [some (.ref 6), some (.int t), some (.int x), none, none, none, none] [] σ K := by
  obtain ⟨⟨ht, htn⟩, hx, hT⟩ := hc
  have lt := n20 ht
  have ek := cRel_kin hT htn hx
  have tv := tv_6 _ lt
  have e3 := cR_f (σ := σ) (p := 6) (t := t.toNatClampNeg) (f := 3) lt (by decide)
  have e4 := cR_f (σ := σ) (p := 6) (t := t.toNatClampNeg) (f := 4) lt (by decide)
  have e5 := cR_f (σ := σ) (p := 6) (t := t.toNatClampNeg) (f := 5) lt (by decide)
  have e6 := cR_f (σ := σ) (p := 6) (t := t.toNatClampNeg) (f := 6) lt (by decide)
  unfold fJoy at hK
  rw [← ek, e3, e4, e5, e6] at hK
  have h8 : (8 : Int32) ≠ 0 := by decide
  have h4 : (4 : Int32) ≠ 0 := by decide
  refine w65_6 ?_
  simp only [bI_0]
  grind
set_option maxRecDepth 20000 in
theorem w65_32 {σ : gS} {K : gK} {t x : Int32} (h : (0 ≤ t ∧ t < 20) ∧ (4 : Int32) ≠ 0 ∧ (4 : Int32) ≠ 0 ∧ (8 : Int32) ≠ 0 ∧ (gTv (32 + 2 + t.toNatClampNeg)) ∧ gTv (32 + 2 + t.toNatClampNeg) ∧ gTv (32 + 2 + t.toNatClampNeg) ∧ (((x - x / 4 * 4) = 0 → gTv (32 + 2 + t.toNatClampNeg) ∧ (((bI (isFwd (x / 4))) = 0 → K (some (.int (((4 * (cRel σ 32 (32 + 2 + t.toNatClampNeg) (x / 8))) - ((σ (32 + 2 + t.toNatClampNeg) 7) * (if ((x / 4) - (σ (32 + 2 + t.toNatClampNeg) 6)) < 0 then -((x / 4) - (σ (32 + 2 + t.toNatClampNeg) 6)) else ((x / 4) - (σ (32 + 2 + t.toNatClampNeg) 6))))) + (σ (32 + 2 + t.toNatClampNeg) 4)))) σ) ∧ (¬ (bI (isFwd (x / 4))) = 0 → gTv (32 + 2 + t.toNatClampNeg) ∧ K (some (.int ((((4 * (cRel σ 32 (32 + 2 + t.toNatClampNeg) (x / 8))) - ((σ (32 + 2 + t.toNatClampNeg) 7) * (if ((x / 4) - (σ (32 + 2 + t.toNatClampNeg) 6)) < 0 then -((x / 4) - (σ (32 + 2 + t.toNatClampNeg) 6)) else ((x / 4) - (σ (32 + 2 + t.toNatClampNeg) 6))))) + (σ (32 + 2 + t.toNatClampNeg) 4)) + (σ (32 + 2 + t.toNatClampNeg) 5)))) σ))) ∧ (¬ (x - x / 4 * 4) = 0 → ((¬ (x - x / 4 * 4) = 3 → (((bI (isFwd (x / 4))) = 0 → K (some (.int ((4 * (cRel σ 32 (32 + 2 + t.toNatClampNeg) (x / 8))) - ((σ (32 + 2 + t.toNatClampNeg) 7) * (if ((x / 4) - (σ (32 + 2 + t.toNatClampNeg) 6)) < 0 then -((x / 4) - (σ (32 + 2 + t.toNatClampNeg) 6)) else ((x / 4) - (σ (32 + 2 + t.toNatClampNeg) 6))))))) σ) ∧ (¬ (bI (isFwd (x / 4))) = 0 → gTv (32 + 2 + t.toNatClampNeg) ∧ K (some (.int (((4 * (cRel σ 32 (32 + 2 + t.toNatClampNeg) (x / 8))) - ((σ (32 + 2 + t.toNatClampNeg) 7) * (if ((x / 4) - (σ (32 + 2 + t.toNatClampNeg) 6)) < 0 then -((x / 4) - (σ (32 + 2 + t.toNatClampNeg) 6)) else ((x / 4) - (σ (32 + 2 + t.toNatClampNeg) 6))))) + (σ (32 + 2 + t.toNatClampNeg) 5)))) σ))) ∧ ((x - x / 4 * 4) = 3 → gTv (32 + 2 + t.toNatClampNeg) ∧ (((bI (isFwd (x / 4))) = 0 → K (some (.int (((4 * (cRel σ 32 (32 + 2 + t.toNatClampNeg) (x / 8))) - ((σ (32 + 2 + t.toNatClampNeg) 7) * (if ((x / 4) - (σ (32 + 2 + t.toNatClampNeg) 6)) < 0 then -((x / 4) - (σ (32 + 2 + t.toNatClampNeg) 6)) else ((x / 4) - (σ (32 + 2 + t.toNatClampNeg) 6))))) + (σ (32 + 2 + t.toNatClampNeg) 4)))) σ) ∧ (¬ (bI (isFwd (x / 4))) = 0 → gTv (32 + 2 + t.toNatClampNeg) ∧ K (some (.int ((((4 * (cRel σ 32 (32 + 2 + t.toNatClampNeg) (x / 8))) - ((σ (32 + 2 + t.toNatClampNeg) 7) * (if ((x / 4) - (σ (32 + 2 + t.toNatClampNeg) 6)) < 0 then -((x / 4) - (σ (32 + 2 + t.toNatClampNeg) 6)) else ((x / 4) - (σ (32 + 2 + t.toNatClampNeg) 6))))) + (σ (32 + 2 + t.toNatClampNeg) 4)) + (σ (32 + 2 + t.toNatClampNeg) 5)))) σ))))))) : gE 65 0 [some (.ref 32), some (.int t), some (.int x), none, none, none, none] [] σ K :=
  gw_run (cy := 65) (cuts := []) (inl := []) (pf := gpce) gpce_ok 400 (by decide) h
theorem s65_32 {σ : gS} {K : gK} {t x : Int32} (hc : ((0 ≤ t ∧ t < 20) ∧ t.toNatClampNeg < nM (cR σ 32)) ∧ (0 ≤ x ∧ x < 40) ∧ TC σ 32) (hK : K (some (.int (fJoy (cR σ 32) t.toNatClampNeg x))) σ) : gE 65 0 [some (.ref 32), some (.int t), some (.int x), none, none, none, none] [] σ K := by
  obtain ⟨⟨ht, htn⟩, hx, hT⟩ := hc
  have lt := n20 ht
  have ek := cRel_kin hT htn hx
  have tv := tv_32 _ lt
  have e3 := cR_f (σ := σ) (p := 32) (t := t.toNatClampNeg) (f := 3) lt (by decide)
  have e4 := cR_f (σ := σ) (p := 32) (t := t.toNatClampNeg) (f := 4) lt (by decide)
  have e5 := cR_f (σ := σ) (p := 32) (t := t.toNatClampNeg) (f := 5) lt (by decide)
  have e6 := cR_f (σ := σ) (p := 32) (t := t.toNatClampNeg) (f := 6) lt (by decide)
  unfold fJoy at hK
  rw [← ek, e3, e4, e5, e6] at hK
  have h8 : (8 : Int32) ≠ 0 := by decide
  have h4 : (4 : Int32) ≠ 0 := by decide
  refine w65_32 ?_
  simp only [bI_0]
  grind
noncomputable def f65 : gD := fun Lv σ => match Lv with
  | [some (.ref p), some (.int t), some (.int x), none, none, none, none] => cond (Nat.beq p 6 || Nat.beq p 32) (some (some (((0 ≤ t ∧ t < 20) ∧ t.toNatClampNeg < nM (cR σ p)) ∧ (0 ≤ x ∧ x < 40) ∧ TC σ p), some (.int (fJoy (cR σ p) t.toNatClampNeg x)), σ)) none
  | _ => none
theorem ok65 : gFok 65 f65 := by
  intro Lv σ q h hc K hK
  unfold f65 at h
  split at h
  · rename_i p t x
    obtain ⟨hb, h⟩ := c_no h
    have hb0 := hb
    rcases s_or hb0 with hb0 | hb0
    · have e := b_eq hb0
      subst e
      cases h
      exact s65_6 (hc _ rfl) hK
    · have e := b_eq hb0
      subst e
      cases h
      exact s65_32 (hc _ rfl) hK
  · cases h
noncomputable def gpcf_l : List (Nat × gD) := (65, f65) :: gpce_l
noncomputable def gpcf : gP := gpl0 gpcf_l
theorem gpcf_ok : gPok gpcf := gpl0_cons ok65 (gpce_ok)
set_option maxRecDepth 20000 in
theorem w66_6 {σ : gS} {K : gK} {t : Int32} (h : (0 ≤ t ∧ t < 20) ∧ gTv (6 + 2 + t.toNatClampNeg) ∧ (((0 ≤ t ∧ t < 20) ∧ t.toNatClampNeg < nM (cR σ 6)) ∧ (0 ≤ (σ (6 + 2 + t.toNatClampNeg) 1) ∧ (σ (6 + 2 + t.toNatClampNeg) 1) < 40) ∧ TC σ 6) ∧ K (some (.int (fJoy (cR σ 6) t.toNatClampNeg (σ (6 + 2 + t.toNatClampNeg) 1)))) σ) : gE 66 0 [some (.ref 6), some (.int t)] [] σ K :=
  gw_run (cy := 66) (cuts := []) (inl := []) (pf := gpcf) gpcf_ok 400 (by decide) h
theorem s66_6 {σ : gS} {K : gK} {t : Int32} (hc : ((0 ≤ t ∧ t < 20) ∧ t.toNatClampNeg < nM (cR σ 6)) ∧ TC σ 6) (hK : K (some (.int (fJo (cR σ 6) t.toNatClampNeg))) σ) : gE 66 0 [some (.ref 6), some (.int t)] [] σ K := by
  obtain ⟨⟨ht, htn⟩, hT⟩ := hc
  have lt := n20 ht
  have e0 := cR_f (σ := σ) (p := 6) (t := t.toNatClampNeg) (f := 0) lt (by decide)
  have hs := (hT.2.1 _ htn).2.1
  refine w66_6 ⟨ht, tv_6 _ lt, ?_⟩
  unfold fJo at hK
  rw [e0] at hs hK
  exact ⟨⟨⟨ht, htn⟩, hs, hT⟩, hK⟩
set_option maxRecDepth 20000 in
theorem w66_32 {σ : gS} {K : gK} {t : Int32} (h : (0 ≤ t ∧ t < 20) ∧ gTv (32 + 2 + t.toNatClampNeg) ∧ (((0 ≤ t ∧ t < 20) ∧ t.toNatClampNeg < nM (cR σ 32)) ∧ (0 ≤ (σ (32 + 2 + t.toNatClampNeg) 1) ∧ (σ (32 + 2 + t.toNatClampNeg) 1) < 40) ∧ TC σ 32) ∧ K (some (.int (fJoy (cR σ 32) t.toNatClampNeg (σ (32 + 2 + t.toNatClampNeg) 1)))) σ) : gE 66 0 [some (.ref 32), some (.int t)] [] σ K :=
  gw_run (cy := 66) (cuts := []) (inl := []) (pf := gpcf) gpcf_ok 400 (by decide) h
theorem s66_32 {σ : gS} {K : gK} {t : Int32} (hc : ((0 ≤ t ∧ t < 20) ∧ t.toNatClampNeg < nM (cR σ 32)) ∧ TC σ 32) (hK : K (some (.int (fJo (cR σ 32) t.toNatClampNeg))) σ) : gE 66 0 [some (.ref 32), some (.int t)] [] σ K := by
  obtain ⟨⟨ht, htn⟩, hT⟩ := hc
  have lt := n20 ht
  have e0 := cR_f (σ := σ) (p := 32) (t := t.toNatClampNeg) (f := 0) lt (by decide)
  have hs := (hT.2.1 _ htn).2.1
  refine w66_32 ⟨ht, tv_32 _ lt, ?_⟩
  unfold fJo at hK
  rw [e0] at hs hK
  exact ⟨⟨⟨ht, htn⟩, hs, hT⟩, hK⟩
noncomputable def f66 : gD := fun Lv σ => match Lv with
  | [some (.ref p), some (.int t)] => cond (Nat.beq p 6 || Nat.beq p 32) (some (some (((0 ≤ t ∧ t < 20) ∧ t.toNatClampNeg < nM (cR σ p)) ∧ TC σ p), some (.int (fJo (cR σ p) t.toNatClampNeg)), σ)) none
  | _ => none
theorem ok66 : gFok 66 f66 := by
  intro Lv σ q h hc K hK
  unfold f66 at h
  split at h
  · rename_i p t
    obtain ⟨hb, h⟩ := c_no h
    have hb0 := hb
    rcases s_or hb0 with hb0 | hb0
    · have e := b_eq hb0
      subst e
      cases h
      exact s66_6 (hc _ rfl) hK
    · have e := b_eq hb0
      subst e
      cases h
      exact s66_32 (hc _ rfl) hK
  · cases h
noncomputable def gpcg_l : List (Nat × gD) := (66, f66) :: gpcf_l
noncomputable def gpcg : gP := gpl0 gpcg_l
theorem gpcg_ok : gPok gpcg := gpl0_cons ok66 (gpcf_ok)
set_option maxRecDepth 20000 in
theorem w69_6 {σ : gS} {K : gK} (h : gE 69 4 [some (.ref 6), some (.int 0), some (.int 0)] [] σ K) : gE 69 0 [some (.ref 6), none, none] [] σ K :=
  gw_run (cy := 69) (cuts := [4]) (inl := []) (pf := gpcg) gpcg_ok 400 (by decide) h
set_option maxRecDepth 20000 in
theorem v69_6 {σ : gS} {K : gK} {s t : Int32} (h : ((¬ t < (σ 6 7) → K (some (.int s)) σ) ∧ (t < (σ 6 7) → (((0 ≤ t ∧ t < 20) ∧ t.toNatClampNeg < nM (cR σ 6)) ∧ TC σ 6) ∧ gE 69 4 [some (.ref 6), some (.int (s + (fJo (cR σ 6) t.toNatClampNeg))), some (.int (t + 1))] [] σ K))) : gE 69 4 [some (.ref 6), some (.int s), some (.int t)] [] σ K :=
  gw_run (cy := 69) (cuts := [4]) (inl := []) (pf := gpcg) gpcg_ok 400 (by decide) h
theorem s69_6 {σ : gS} {K : gK} (hc : TC σ 6) (hK : K (some (.int (fJa (cR σ 6)))) σ) : gE 69 0 [some (.ref 6), none, none] [] σ K := by
  have h3 := hc.1
  refine w69_6 ?_
  refine g_forI (nM (cR σ 6)) (fun k => [some (.ref 6), some (.int (sm (fJo (cR σ 6)) k)), some (.int (iN k))]) (fun _ => σ) (fun _ => True) (fun _ => ?_) (fun k hk _ ih => ?_) 0 (Nat.zero_le _) trivial
  · have hn := (nM_of h3).2
    refine v69_6 ⟨fun _ => hK, fun h => ?_⟩
    rw [← cR_3 σ 6, nM_lt h3 (by omega)] at h; omega
  · have hn := (nM_of h3).2
    have hk20 : k < 20 := by omega
    have ek : (iN k).toNatClampNeg = k := iN_nat (by omega)
    refine v69_6 ⟨fun h => ?_, fun h => ?_⟩
    · rw [← cR_3 σ 6, nM_lt h3 (by omega)] at h; omega
    · rw [ek, iN_one]
      exact ⟨⟨⟨b20 hk20, hk⟩, hc⟩, ih trivial⟩
set_option maxRecDepth 20000 in
theorem w69_32 {σ : gS} {K : gK} (h : gE 69 4 [some (.ref 32), some (.int 0), some (.int 0)] [] σ K) : gE 69 0 [some (.ref 32), none, none] [] σ K :=
  gw_run (cy := 69) (cuts := [4]) (inl := []) (pf := gpcg) gpcg_ok 400 (by decide) h
set_option maxRecDepth 20000 in
theorem v69_32 {σ : gS} {K : gK} {s t : Int32} (h : ((¬ t < (σ 32 7) → K (some (.int s)) σ) ∧ (t < (σ 32 7) → (((0 ≤ t ∧ t < 20) ∧ t.toNatClampNeg < nM (cR σ 32)) ∧ TC σ 32) ∧ gE 69 4 [some (.ref 32), some (.int (s + (fJo (cR σ 32) t.toNatClampNeg))), some (.int (t + 1))] [] σ K))) : gE 69 4 [some (.ref 32), some (.int s), some (.int t)] [] σ K :=
  gw_run (cy := 69) (cuts := [4]) (inl := []) (pf := gpcg) gpcg_ok 400 (by decide) h
theorem s69_32 {σ : gS} {K : gK} (hc : TC σ 32) (hK : K (some (.int (fJa (cR σ 32)))) σ) : gE 69 0 [some (.ref 32), none, none] [] σ K := by
  have h3 := hc.1
  refine w69_32 ?_
  refine g_forI (nM (cR σ 32)) (fun k => [some (.ref 32), some (.int (sm (fJo (cR σ 32)) k)), some (.int (iN k))]) (fun _ => σ) (fun _ => True) (fun _ => ?_) (fun k hk _ ih => ?_) 0 (Nat.zero_le _) trivial
  · have hn := (nM_of h3).2
    refine v69_32 ⟨fun _ => hK, fun h => ?_⟩
    rw [← cR_3 σ 32, nM_lt h3 (by omega)] at h; omega
  · have hn := (nM_of h3).2
    have hk20 : k < 20 := by omega
    have ek : (iN k).toNatClampNeg = k := iN_nat (by omega)
    refine v69_32 ⟨fun h => ?_, fun h => ?_⟩
    · rw [← cR_3 σ 32, nM_lt h3 (by omega)] at h; omega
    · rw [ek, iN_one]
      exact ⟨⟨⟨b20 hk20, hk⟩, hc⟩, ih trivial⟩
noncomputable def f69 : gD := fun Lv σ => match Lv with
  | [some (.ref p), none, none] => cond (Nat.beq p 6 || Nat.beq p 32) (some (some (TC σ p), some (.int (fJa (cR σ p))), σ)) none
  | _ => none
theorem ok69 : gFok 69 f69 := by
  intro Lv σ q h hc K hK
  unfold f69 at h
  split at h
  · rename_i p
    obtain ⟨hb, h⟩ := c_no h
    have hb0 := hb
    rcases s_or hb0 with hb0 | hb0
    · have e := b_eq hb0
      subst e
      cases h
      exact s69_6 (hc _ rfl) hK
    · have e := b_eq hb0
      subst e
      cases h
      exact s69_32 (hc _ rfl) hK
  · cases h
set_option maxRecDepth 20000 in
theorem w70_6 {σ : gS} {K : gK} (h : gE 70 4 [some (.ref 6), some (.int 0), some (.int 0)] [] σ K) : gE 70 0 [some (.ref 6), none, none] [] σ K :=
  gw_run (cy := 70) (cuts := [4]) (inl := []) (pf := gpcg) gpcg_ok 400 (by decide) h
set_option maxRecDepth 20000 in
theorem v70_6 {σ : gS} {K : gK} {s t : Int32} (h : ((¬ t < (σ 6 7) → K (some (.int s)) σ) ∧ (t < (σ 6 7) → (((0 ≤ t ∧ t < 20) ∧ t.toNatClampNeg < nM (cR σ 6)) ∧ TC σ 6) ∧ ((¬ (fJo (cR σ 6) t.toNatClampNeg) < 0 → gE 70 4 [some (.ref 6), some (.int s), some (.int (t + 1))] [] σ K) ∧ ((fJo (cR σ 6) t.toNatClampNeg) < 0 → gE 70 4 [some (.ref 6), some (.int (s + 1)), some (.int (t + 1))] [] σ K))))) : gE 70 4 [some (.ref 6), some (.int s), some (.int t)] [] σ K :=
  gw_run (cy := 70) (cuts := [4]) (inl := []) (pf := gpcg) gpcg_ok 400 (by decide) h
theorem s70_6 {σ : gS} {K : gK} (hc : TC σ 6) (hK : K (some (.int (fGr (cR σ 6)))) σ) : gE 70 0 [some (.ref 6), none, none] [] σ K := by
  have h3 := hc.1
  refine w70_6 ?_
  refine g_forI (nM (cR σ 6)) (fun k => [some (.ref 6), some (.int (iN (cnt (fun t => decide (fJo (cR σ 6) t < 0)) k))), some (.int (iN k))]) (fun _ => σ) (fun _ => True) (fun _ => ?_) (fun k hk _ ih => ?_) 0 (Nat.zero_le _) trivial
  · have hn := (nM_of h3).2
    refine v70_6 ⟨fun _ => hK, fun h => ?_⟩
    rw [← cR_3 σ 6, nM_lt h3 (by omega)] at h; omega
  · have hn := (nM_of h3).2
    have hk20 : k < 20 := by omega
    have ek : (iN k).toNatClampNeg = k := iN_nat (by omega)
    refine v70_6 ⟨fun h => ?_, fun h => ?_⟩
    · rw [← cR_3 σ 6, nM_lt h3 (by omega)] at h; omega
    · rw [ek, iN_one, iN_one]
      have ih := ih trivial
      refine ⟨⟨⟨b20 hk20, hk⟩, hc⟩, fun h => ?_, fun h => ?_⟩
      · rw [cnt_f (fun e => h (of_decide_eq_true e))] at ih
        exact ih
      · rw [cnt_t (decide_eq_true h)] at ih
        exact ih
set_option maxRecDepth 20000 in
theorem w70_32 {σ : gS} {K : gK} (h : gE 70 4 [some (.ref 32), some (.int 0), some (.int 0)] [] σ K) : gE 70 0 [some (.ref 32), none, none] [] σ K :=
  gw_run (cy := 70) (cuts := [4]) (inl := []) (pf := gpcg) gpcg_ok 400 (by decide) h
set_option maxRecDepth 20000 in
theorem v70_32 {σ : gS} {K : gK} {s t : Int32} (h : ((¬ t < (σ 32 7) → K (some (.int s)) σ) ∧ (t < (σ 32 7) → (((0 ≤ t ∧ t < 20) ∧ t.toNatClampNeg < nM (cR σ 32)) ∧ TC σ 32) ∧ ((¬ (fJo (cR σ 32) t.toNatClampNeg) < 0 → gE 70 4 [some (.ref 32), some (.int s), some (.int (t + 1))] [] σ K) ∧ ((fJo (cR σ 32) t.toNatClampNeg) < 0 → gE 70 4 [some (.ref 32), some (.int (s + 1)), some (.int (t + 1))] [] σ K))))) : gE 70 4 [some (.ref 32), some (.int s), some (.int t)] [] σ K :=
  gw_run (cy := 70) (cuts := [4]) (inl := []) (pf := gpcg) gpcg_ok 400 (by decide) h
theorem s70_32 {σ : gS} {K : gK} (hc : TC σ 32) (hK : K (some (.int (fGr (cR σ 32)))) σ) : gE 70 0 [some (.ref 32), none, none] [] σ K := by
  have h3 := hc.1
  refine w70_32 ?_
  refine g_forI (nM (cR σ 32)) (fun k => [some (.ref 32), some (.int (iN (cnt (fun t => decide (fJo (cR σ 32) t < 0)) k))), some (.int (iN k))]) (fun _ => σ) (fun _ => True) (fun _ => ?_) (fun k hk _ ih => ?_) 0 (Nat.zero_le _) trivial
  · have hn := (nM_of h3).2
    refine v70_32 ⟨fun _ => hK, fun h => ?_⟩
    rw [← cR_3 σ 32, nM_lt h3 (by omega)] at h; omega
  · have hn := (nM_of h3).2
    have hk20 : k < 20 := by omega
    have ek : (iN k).toNatClampNeg = k := iN_nat (by omega)
    refine v70_32 ⟨fun h => ?_, fun h => ?_⟩
    · rw [← cR_3 σ 32, nM_lt h3 (by omega)] at h; omega
    · rw [ek, iN_one, iN_one]
      have ih := ih trivial
      refine ⟨⟨⟨b20 hk20, hk⟩, hc⟩, fun h => ?_, fun h => ?_⟩
      · rw [cnt_f (fun e => h (of_decide_eq_true e))] at ih
        exact ih
      · rw [cnt_t (decide_eq_true h)] at ih
        exact ih
noncomputable def f70 : gD := fun Lv σ => match Lv with
  | [some (.ref p), none, none] => cond (Nat.beq p 6 || Nat.beq p 32) (some (some (TC σ p), some (.int (fGr (cR σ p))), σ)) none
  | _ => none
theorem ok70 : gFok 70 f70 := by
  intro Lv σ q h hc K hK
  unfold f70 at h
  split at h
  · rename_i p
    obtain ⟨hb, h⟩ := c_no h
    have hb0 := hb
    rcases s_or hb0 with hb0 | hb0
    · have e := b_eq hb0
      subst e
      cases h
      exact s70_6 (hc _ rfl) hK
    · have e := b_eq hb0
      subst e
      cases h
      exact s70_32 (hc _ rfl) hK
  · cases h
end
section
-- text 25
/-! THE CLASS: sitting down, exchanging seats -/
noncomputable def gpch_l : List (Nat × gD) := (69, f69) :: (70, f70) :: gpcg_l
noncomputable def gpch : gP := gpl0 gpch_l
theorem gpch_ok : gPok gpch := gpl0_cons ok69 (gpl0_cons ok70 (gpcg_ok))
def cIx (σ : gS) (w : Nat) : Int32 := σ w 1 / 8 * 10 + σ w 3
def cCnt (σ : gS) (p w : Nat) (k : Int32) : gS := if 0 ≤ cIx σ w ∧ cIx σ w < 50 then gup σ (p + 23) (cIx σ w).toNatClampNeg (σ (p + 23) (cIx σ w).toNatClampNeg + k) else σ
def cSit (σ : gS) (p t : Nat) (x : Int32) : gS := cCnt (gup (cCnt σ p (p + 2 + t) (-1)) (p + 2 + t) 1 x) p (p + 2 + t) 1
def cExS (σ : gS) (p a b : Nat) : gS := cSit (cSit σ p a (σ (p + 2 + b) 1)) p b (σ (p + 2 + a) 1)
set_option maxRecDepth 20000 in
theorem w61_6 {σ : gS} {K : gK} {k : Int32} {w : Nat} (h : gTv w ∧ (8 : Int32) ≠ 0 ∧ gTv w ∧ ((((((σ w 1) / 8) * 10) + (σ w 3)) < 0 → K none σ) ∧ (¬ ((((σ w 1) / 8) * 10) + (σ w 3)) < 0 → ((¬ ((((σ w 1) / 8) * 10) + (σ w 3)) < 50 → K none σ) ∧ (((((σ w 1) / 8) * 10) + (σ w 3)) < 50 → (0 ≤ ((((σ w 1) / 8) * 10) + (σ w 3)) ∧ ((((σ w 1) / 8) * 10) + (σ w 3)) < 50) ∧ (0 ≤ ((((σ w 1) / 8) * 10) + (σ w 3)) ∧ ((((σ w 1) / 8) * 10) + (σ w 3)) < 50) ∧ K none (gup σ 29 ((((σ w 1) / 8) * 10) + (σ w 3)).toNatClampNeg ((σ 29 ((((σ w 1) / 8) * 10) + (σ w 3)).toNatClampNeg) + k))))))) : gE 61 0 [some (.ref 6), some (.ref w), some (.int k), none] [] σ K :=
  gw_run (cy := 61) (cuts := []) (inl := []) (pf := gpch) gpch_ok 400 (by decide) h
theorem s61_6 {σ : gS} {K : gK} {w : Nat} {k : Int32} (hc : gTv w) (hK : K none (cCnt σ 6 w k)) : gE 61 0 [some (.ref 6), some (.ref w), some (.int k), none] [] σ K := by
  unfold cCnt cIx at hK
  have h8 : (8 : Int32) ≠ 0 := by decide
  refine w61_6 ?_
  grind
set_option maxRecDepth 20000 in
theorem w61_32 {σ : gS} {K : gK} {k : Int32} {w : Nat} (h : gTv w ∧ (8 : Int32) ≠ 0 ∧ gTv w ∧ ((((((σ w 1) / 8) * 10) + (σ w 3)) < 0 → K none σ) ∧ (¬ ((((σ w 1) / 8) * 10) + (σ w 3)) < 0 → ((¬ ((((σ w 1) / 8) * 10) + (σ w 3)) < 50 → K none σ) ∧ (((((σ w 1) / 8) * 10) + (σ w 3)) < 50 → (0 ≤ ((((σ w 1) / 8) * 10) + (σ w 3)) ∧ ((((σ w 1) / 8) * 10) + (σ w 3)) < 50) ∧ (0 ≤ ((((σ w 1) / 8) * 10) + (σ w 3)) ∧ ((((σ w 1) / 8) * 10) + (σ w 3)) < 50) ∧ K none (gup σ 55 ((((σ w 1) / 8) * 10) + (σ w 3)).toNatClampNeg ((σ 55 ((((σ w 1) / 8) * 10) + (σ w 3)).toNatClampNeg) + k))))))) : gE 61 0 [some (.ref 32), some (.ref w), some (.int k), none] [] σ K :=
  gw_run (cy := 61) (cuts := []) (inl := []) (pf := gpch) gpch_ok 400 (by decide) h
theorem s61_32 {σ : gS} {K : gK} {w : Nat} {k : Int32} (hc : gTv w) (hK : K none (cCnt σ 32 w k)) : gE 61 0 [some (.ref 32), some (.ref w), some (.int k), none] [] σ K := by
  unfold cCnt cIx at hK
  have h8 : (8 : Int32) ≠ 0 := by decide
  refine w61_32 ?_
  grind
noncomputable def f61 : gD := fun Lv σ => match Lv with
  | [some (.ref p), some (.ref w), some (.int k), none] => cond (Nat.beq p 6 || Nat.beq p 32) (some (some (gTv w), none, cCnt σ p w k)) none
  | _ => none
theorem ok61 : gFok 61 f61 := by
  intro Lv σ q h hc K hK
  unfold f61 at h
  split at h
  · rename_i p w k
    obtain ⟨hb, h⟩ := c_no h
    have hb0 := hb
    rcases s_or hb0 with hb0 | hb0
    · have e := b_eq hb0
      subst e
      cases h
      exact s61_6 (hc _ rfl) hK
    · have e := b_eq hb0
      subst e
      cases h
      exact s61_32 (hc _ rfl) hK
  · cases h
noncomputable def gpci_l : List (Nat × gD) := (61, f61) :: gpch_l
noncomputable def gpci : gP := gpl0 gpci_l
theorem gpci_ok : gPok gpci := gpl0_cons ok61 (gpch_ok)
set_option maxRecDepth 20000 in
theorem w83_6 {σ : gS} {K : gK} {t x : Int32} (h : (0 ≤ t ∧ t < 20) ∧ (gTv (6 + 2 + t.toNatClampNeg)) ∧ gTv (6 + 2 + t.toNatClampNeg) ∧ (gTv (6 + 2 + t.toNatClampNeg)) ∧ K none (cCnt (gup (cCnt σ 6 (6 + 2 + t.toNatClampNeg) ((-1) : Int32)) (6 + 2 + t.toNatClampNeg) 1 x) 6 (6 + 2 + t.toNatClampNeg) (1 : Int32))) : gE 83 0 [some (.ref 6), some (.int t), some (.int x), none] [] σ K :=
  gw_run (cy := 83) (cuts := []) (inl := []) (pf := gpci) gpci_ok 400 (by decide) h
theorem s83_6 {σ : gS} {K : gK} {t x : Int32} (hc : 0 ≤ t ∧ t < 20) (hK : K none (cSit σ 6 t.toNatClampNeg x)) : gE 83 0 [some (.ref 6), some (.int t), some (.int x), none] [] σ K := by
  have tv := tv_6 _ (n20 hc)
  exact w83_6 ⟨hc, tv, tv, tv, hK⟩
set_option maxRecDepth 20000 in
theorem w83_32 {σ : gS} {K : gK} {t x : Int32} (h : (0 ≤ t ∧ t < 20) ∧ (gTv (32 + 2 + t.toNatClampNeg)) ∧ gTv (32 + 2 + t.toNatClampNeg) ∧ (gTv (32 + 2 + t.toNatClampNeg)) ∧ K none (cCnt (gup (cCnt σ 32 (32 + 2 + t.toNatClampNeg) ((-1) : Int32)) (32 + 2 + t.toNatClampNeg) 1 x) 32 (32 + 2 + t.toNatClampNeg) (1 : Int32))) : gE 83 0 [some (.ref 32), some (.int t), some (.int x), none] [] σ K :=
  gw_run (cy := 83) (cuts := []) (inl := []) (pf := gpci) gpci_ok 400 (by decide) h
theorem s83_32 {σ : gS} {K : gK} {t x : Int32} (hc : 0 ≤ t ∧ t < 20) (hK : K none (cSit σ 32 t.toNatClampNeg x)) : gE 83 0 [some (.ref 32), some (.int t), some (.int x), none] [] σ K := by
  have tv := tv_32 _ (n20 hc)
  exact w83_32 ⟨hc, tv, tv, tv, hK⟩
noncomputable def f83 : gD := fun Lv σ => match Lv with
  | [some (.ref p), some (.int t), some (.int x), none] => cond (Nat.beq p 6 || Nat.beq p 32) (some (some (0 ≤ t ∧ t < 20), none, cSit σ p t.toNatClampNeg x)) none
  | _ => none
theorem ok83 : gFok 83 f83 := by
  intro Lv σ q h hc K hK
  unfold f83 at h
  split at h
  · rename_i p t x
    obtain ⟨hb, h⟩ := c_no h
    have hb0 := hb
    rcases s_or hb0 with hb0 | hb0
    · have e := b_eq hb0
      subst e
      cases h
      exact s83_6 (hc _ rfl) hK
    · have e := b_eq hb0
      subst e
      cases h
      exact s83_32 (hc _ rfl) hK
  · cases h
noncomputable def gpcj_l : List (Nat × gD) := (83, f83) :: gpci_l
noncomputable def gpcj : gP := gpl0 gpcj_l
theorem gpcj_ok : gPok gpcj := gpl0_cons ok83 (gpci_ok)
noncomputable def f83V (cSitV : gS → Nat → Nat → Int32 → gS) : gD := fun Lv σ => match Lv with
  | [some (.ref p), some (.int t), some (.int x), none] => cond (Nat.beq p 6 || Nat.beq p 32) (some (some (0 ≤ t ∧ t < 20), none, cSitV σ p t.toNatClampNeg x)) none
  | _ => none
noncomputable def gpcjV (cSitV : gS → Nat → Nat → Int32 → gS) : gP := gpl0 ((83, f83V cSitV) :: gpci_l)
theorem cnt_up {P P' : Nat → Bool} {t : Nat} : ∀ {n : Nat}, t < n → (∀ j, j ≠ t → P' j = P j) → cnt P' n + (if P t = true then 1 else 0) = cnt P n + (if P' t = true then 1 else 0)
  | 0, h, _ => absurd h (Nat.not_lt_zero t)
  | n + 1, h, hp => by
    show cnt P' n + (if P' n = true then 1 else 0) + _ = cnt P n + (if P n = true then 1 else 0) + _
    by_cases e : t = n
    · subst e
      rw [cnt_congr (fun j hj => hp j (by omega))]
      omega
    · have ih := cnt_up (show t < n by omega) hp
      rw [hp n (fun q => e q.symm)]
      omega
/-- what sitting down leaves as it was -/
def sFr (σ τ : gS) (p : Nat) : Prop := ∀ q i, (¬ q = p + 23 ∨ 50 ≤ i) → (q < p + 2 ∨ p + 22 ≤ q ∨ ¬ i = 1) → τ q i = σ q i
theorem sFr_t {σ τ ρ : gS} {p : Nat} (h1 : sFr σ τ p) (h2 : sFr τ ρ p) : sFr σ ρ p := fun q i a b => (h2 q i a b).trans (h1 q i a b)
theorem cCnt_eq {σ : gS} {p w a f : Nat} {k : Int32} (ha : a < 5) (hf : f < 10) (h1 : σ w 1 / 8 = iN a) (h2 : σ w 3 = iN f) : cCnt σ p w k = gup σ (p + 23) (a * 10 + f) (σ (p + 23) (a * 10 + f) + k) := by
  unfold cCnt cIx
  have e : (iN a * 10 + iN f : Int32) = iN (a * 10 + f) := by
    show iN a * iN 10 + iN f = _
    rw [iN_mul, iN_add]
  rw [h1, h2, e, iN_nat (by omega), if_pos ⟨(iN_le (k := 0) (by decide) (by omega)).mpr (by omega), (iN_lt (m := 50) (by omega) (by decide)).mpr (by omega)⟩]
/-- sitting down, written out -/
theorem cSit_eq {σ : gS} {p t a0 a1 f : Nat} {x : Int32} (ht : t < 20) (ha0 : a0 < 5) (ha1 : a1 < 5) (hf : f < 10) (h0 : σ (p + 2 + t) 1 / 8 = iN a0) (h1 : x / 8 = iN a1) (h2 : σ (p + 2 + t) 3 = iN f) :
    cSit σ p t x = gup (gup (gup σ (p + 23) (a0 * 10 + f) (σ (p + 23) (a0 * 10 + f) + -1)) (p + 2 + t) 1 x) (p + 23) (a1 * 10 + f) (gup (gup σ (p + 23) (a0 * 10 + f) (σ (p + 23) (a0 * 10 + f) + -1)) (p + 2 + t) 1 x (p + 23) (a1 * 10 + f) + 1) := by
  unfold cSit
  rw [cCnt_eq ha0 hf h0 h2, cCnt_eq ha1 hf (by rw [gup_at]; exact h1) (by rw [gup_ne (by omega), gup_ne (by omega)]; exact h2)]
theorem cR_gup23 {σ : gS} {p i : Nat} {x : Int32} : cR (gup σ (p + 23) i x) p = cR σ p := by
  funext j
  unfold cR
  by_cases h : j < 9
  · rw [if_pos h, if_pos h, gup_ne (by omega)]
  · rw [if_neg h, if_neg h]
    by_cases h2 : j < 209
    · rw [if_pos h2, if_pos h2, gup_ne (by omega), gup_ne (by omega)]
    · rw [if_neg h2, if_neg h2]
theorem cR_gupf {σ : gS} {p t f : Nat} {x : Int32} (ht : t < 20) (hf : f < 9) : cR (gup σ (p + 2 + t) (f + 1) x) p = rup (cR σ p) (9 + 10 * t + f) x := by
  funext j
  unfold rup
  by_cases hj : j = 9 + 10 * t + f
  · rw [if_pos hj, hj]
    have := cR_f (σ := gup σ (p + 2 + t) (f + 1) x) (p := p) ht hf
    unfold fld at this
    rw [this, gup_at]
  · rw [if_neg hj]
    unfold cR
    by_cases h : j < 9
    · rw [if_pos h, if_pos h, gup_ne (by omega)]
    · rw [if_neg h, if_neg h]
      by_cases h2 : j < 209
      · rw [if_pos h2, if_pos h2]
        by_cases h3 : (j - 9) % 10 < 9
        · rw [if_pos h3, if_pos h3, gup_ne (by omega)]
        · rw [if_neg h3, if_neg h3, gup_ne (by omega)]
      · rw [if_neg h2, if_neg h2]
theorem cR_gup0 {σ : gS} {p k : Nat} {x : Int32} (hk : k < 9) : cR (gup σ p (k + 4) x) p = rup (cR σ p) k x := by
  funext j
  unfold rup
  by_cases hj : j = k
  · rw [if_pos hj, hj, cR_h hk, gup_at]
  · rw [if_neg hj]
    unfold cR
    by_cases h : j < 9
    · rw [if_pos h, if_pos h, gup_ne (by omega)]
    · rw [if_neg h, if_neg h]
      by_cases h2 : j < 209
      · rw [if_pos h2, if_pos h2, gup_ne (by omega), gup_ne (by omega)]
      · rw [if_neg h2, if_neg h2]
theorem iN_eq {a b : Nat} (ha : a < 2147483648) (hb : b < 2147483648) (h : ¬ a = b) : ¬ iN a = iN b := fun e => h ((iN_inj ha hb).mp e)
theorem cSit_ok {σ : gS} {p t : Nat} {x : Int32} (h : TC σ p) (ht : t < nM (cR σ p)) (hx : 0 ≤ x ∧ x < 40) : cR (cSit σ p t x) p = rup (cR σ p) (9 + 10 * t + 0) x ∧ TC (cSit σ p t x) p ∧ sFr σ (cSit σ p t x) p := by
  obtain ⟨h3, hb, hm⟩ := h
  have hn := (nM_of h3).2
  obtain ⟨-, hs, hf⟩ := hb t ht
  have e0 := cR_f (σ := σ) (p := p) (t := t) (f := 0) (by omega) (by decide)
  have e2 := cR_f (σ := σ) (p := p) (t := t) (f := 2) (by omega) (by decide)
  obtain ⟨a0, ha0, ea0⟩ := i8 hs
  obtain ⟨a1, ha1, ea1⟩ := i8 hx
  obtain ⟨f, hf2, ef⟩ := i10 hf
  have ec := cSit_eq (σ := σ) (p := p) (t := t) (x := x) (by omega) ha0 ha1 hf2 (by rw [← e0]; exact ea0) ea1 (by rw [← e2]; exact ef)
  have eR : cR (cSit σ p t x) p = rup (cR σ p) (9 + 10 * t + 0) x := by
    rw [ec, cR_gup23, cR_gupf (by omega) (by decide), cR_gup23]
  have fR : ∀ s g, g < 10 → fld (rup (cR σ p) (9 + 10 * t + 0) x) s g = if s = t ∧ g = 0 then x else fld (cR σ p) s g := by
    intro s g hg
    unfold fld rup
    by_cases q : s = t ∧ g = 0
    · rw [if_pos q, if_pos (by omega)]
    · rw [if_neg q, if_neg (by omega)]
  have e3 : cR (cSit σ p t x) p 3 = cR σ p 3 := by rw [eR, rup_ne (by omega)]
  have en : nM (cR (cSit σ p t x) p) = nM (cR σ p) := by unfold nM; rw [e3]
  refine ⟨eR, ⟨by rw [e3]; exact h3, ?_, ?_⟩, ?_⟩
  · intro s hs2
    rw [en] at hs2
    rw [eR, fR _ _ (by decide), fR _ _ (by decide), fR _ _ (by decide), if_neg (show ¬ (s = t ∧ 1 = 0) by omega), if_neg (show ¬ (s = t ∧ 2 = 0) by omega)]
    obtain ⟨b1, b2, b3⟩ := hb s hs2
    refine ⟨b1, ?_, b3⟩
    split
    · exact hx
    · exact b2
  · intro a ha g hg
    unfold mem
    rw [en, eR]
    have hP : ∀ j, memP (rup (cR σ p) (9 + 10 * t + 0) x) (iN a) (iN g) j = if j = t then decide (a1 = a ∧ f = g) else memP (cR σ p) (iN a) (iN g) j := by
      intro j
      unfold memP
      rw [fR _ _ (by decide), fR _ _ (by decide), if_neg (show ¬ (j = t ∧ 2 = 0) by omega)]
      by_cases q : j = t
      · rw [if_pos ⟨q, rfl⟩, if_pos q, q, ef, ea1]
        congr 1
        apply propext
        rw [iN_inj (by omega) (by omega), iN_inj (by omega) (by omega)]
      · rw [if_neg (fun e => q e.1), if_neg q]
    have hu := cnt_up (P := memP (cR σ p) (iN a) (iN g)) (P' := memP (rup (cR σ p) (9 + 10 * t + 0) x) (iN a) (iN g)) ht (fun j hj => by rw [hP, if_neg hj])
    have hPt : memP (cR σ p) (iN a) (iN g) t = decide (a0 = a ∧ f = g) := by
      unfold memP
      rw [ea0, ef]
      congr 1
      apply propext
      rw [iN_inj (by omega) (by omega), iN_inj (by omega) (by omega)]
    rw [hPt, hP, if_pos rfl] at hu
    have h1 := hm a ha g hg
    unfold mem at h1
    have hle := cnt_le (memP (cR σ p) (iN a) (iN g)) (nM (cR σ p))
    have hsub : ∀ m : Nat, 1 ≤ m → m < 100 → iN m + -1 = iN (m - 1) := fun m hm1 hm2 => by
      rw [← Int32.sub_eq_add_neg]
      exact iN_sub (d := 1) (by omega) hm1
    rw [ec]
    by_cases q0 : a0 = a ∧ f = g <;> by_cases q1 : a1 = a ∧ f = g
    · rw [decide_eq_true q0, decide_eq_true q1] at hu
      obtain ⟨rfl, rfl⟩ := q0
      obtain ⟨rfl, -⟩ := q1
      rw [gup_at, gup_ne (by omega), gup_at, h1]
      rw [if_pos rfl] at hu
      have : cnt (memP (rup (cR σ p) (9 + 10 * t + 0) x) (iN a1) (iN f)) (nM (cR σ p)) = cnt (memP (cR σ p) (iN a1) (iN f)) (nM (cR σ p)) := by omega
      rw [this]
      grind
    · rw [decide_eq_true q0, decide_eq_false q1] at hu
      rw [if_pos rfl, if_neg (by decide)] at hu
      obtain ⟨rfl, rfl⟩ := q0
      have ne : ¬ a0 * 10 + f = a1 * 10 + f := fun e => q1 ⟨by omega, rfl⟩
      rw [gup_ne (fun e => ne e.2), gup_ne (by omega), gup_at, h1, hsub _ (by omega) (by omega)]
      congr 1
      omega
    · rw [decide_eq_false q0, decide_eq_true q1] at hu
      rw [if_pos rfl, if_neg (by decide)] at hu
      obtain ⟨rfl, rfl⟩ := q1
      have ne : ¬ a1 * 10 + f = a0 * 10 + f := fun e => q0 ⟨by omega, rfl⟩
      rw [gup_at, gup_ne (by omega), gup_ne (fun e => ne e.2), h1, iN_one]
      congr 1
      omega
    · rw [decide_eq_false q0, decide_eq_false q1] at hu
      rw [if_neg (by decide)] at hu
      have n0 : ¬ a * 10 + g = a0 * 10 + f := fun e => q0 ⟨by omega, by omega⟩
      have n1 : ¬ a * 10 + g = a1 * 10 + f := fun e => q1 ⟨by omega, by omega⟩
      rw [gup_ne (fun e => n1 e.2), gup_ne (by omega), gup_ne (fun e => n0 e.2), h1]
      congr 1
      omega
  · intro q i hq hq2
    have ne : ∀ m, m < 50 → ¬ (q = p + 23 ∧ i = m) := fun m hm e => hq.elim (fun h => h e.1) (fun h => by omega)
    rw [ec, gup_ne (ne _ (by omega)), gup_ne (fun e => by omega), gup_ne (ne _ (by omega))]
/-- two heaps with the same rows, sound, that differ in seats and members alone, are the same -/
theorem sFr_eq {σ τ : gS} {p : Nat} (h1 : TC σ p) (h2 : TC τ p) (hR : cR τ p = cR σ p) (hf : sFr σ τ p) : τ = σ := by
  funext q i
  by_cases hq : q = p + 23 ∧ i < 50
  · obtain ⟨rfl, hi⟩ := hq
    have e1 := h1.2.2 (i / 10) (by omega) (i % 10) (by omega)
    have e2 := h2.2.2 (i / 10) (by omega) (i % 10) (by omega)
    rw [show i / 10 * 10 + i % 10 = i by omega] at e1 e2
    rw [e1, e2, hR]
  · by_cases hq2 : p + 2 ≤ q ∧ q < p + 22 ∧ i = 1
    · obtain ⟨ha, hb, rfl⟩ := hq2
      have e1 := cR_f (σ := σ) (p := p) (t := q - (p + 2)) (f := 0) (by omega) (by decide)
      have e2 := cR_f (σ := τ) (p := p) (t := q - (p + 2)) (f := 0) (by omega) (by decide)
      rw [show p + 2 + (q - (p + 2)) = q by omega] at e1 e2
      rw [← e1, ← e2, hR]
    · exact hf q i (by omega) (by omega)
-- text 26
/-! THE CLASS: swaps, moves, rings asked for -/
def cPas (σ : gS) (p a b c : Nat) : gS := cSit (cSit (cSit σ p a (σ (p + 2 + b) 1)) p b (cSit σ p a (σ (p + 2 + b) 1) (p + 2 + c) 1)) p c (σ (p + 2 + a) 1)
theorem cR_s {σ : gS} {p t : Nat} (ht : t < 20) : σ (p + 2 + t) 1 = cR σ p (9 + 10 * t + 0) := (cR_f (f := 0) ht (by decide)).symm
theorem nM_rup {R : gW} {t : Nat} {x : Int32} : nM (rup R (9 + 10 * t + 0) x) = nM R := by unfold nM; rw [rup_ne (by omega)]
theorem cExS_ok {σ : gS} {p a b : Nat} (h : TC σ p) (ha : a < nM (cR σ p)) (hb : b < nM (cR σ p)) : cR (cExS σ p a b) p = rsw (cR σ p) a b ∧ TC (cExS σ p a b) p ∧ sFr σ (cExS σ p a b) p := by
  have hn := (nM_of h.1).2
  have sa := (h.2.1 a ha).2.1
  have sb := (h.2.1 b hb).2.1
  unfold fld at sa sb
  have ea := cR_s (σ := σ) (p := p) (t := a) (by omega)
  have eb := cR_s (σ := σ) (p := p) (t := b) (by omega)
  obtain ⟨r1, t1, f1⟩ := cSit_ok h ha sb
  obtain ⟨r2, t2, f2⟩ := cSit_ok (x := cR σ p (9 + 10 * a + 0)) t1 (show b < nM _ by rw [r1, nM_rup]; exact hb) sa
  unfold cExS
  rw [ea, eb]
  refine ⟨?_, t2, sFr_t f1 f2⟩
  rw [r2, r1]
  rfl
theorem cPas_ok {σ : gS} {p a b c : Nat} (h : TC σ p) (ha : a < nM (cR σ p)) (hb : b < nM (cR σ p)) (hc : c < nM (cR σ p)) (hd : a ≠ b ∧ b ≠ c ∧ a ≠ c) : cR (cPas σ p a b c) p = rtu (cR σ p) a b c ∧ TC (cPas σ p a b c) p ∧ sFr σ (cPas σ p a b c) p := by
  have hn := (nM_of h.1).2
  have sa := (h.2.1 a ha).2.1
  have sb := (h.2.1 b hb).2.1
  have sc := (h.2.1 c hc).2.1
  unfold fld at sa sb sc
  have ea := cR_s (σ := σ) (p := p) (t := a) (by omega)
  have eb := cR_s (σ := σ) (p := p) (t := b) (by omega)
  obtain ⟨r1, t1, f1⟩ := cSit_ok h ha sb
  have ec := cR_s (σ := cSit σ p a (cR σ p (9 + 10 * b + 0))) (p := p) (t := c) (by omega)
  have ecv : cR (cSit σ p a (cR σ p (9 + 10 * b + 0))) p (9 + 10 * c + 0) = cR σ p (9 + 10 * c + 0) := by rw [r1, rup_ne (by omega)]
  obtain ⟨r2, t2, f2⟩ := cSit_ok (t := b) (x := cR (cSit σ p a (cR σ p (9 + 10 * b + 0))) p (9 + 10 * c + 0)) t1 (show b < nM _ by rw [r1, nM_rup]; exact hb) (by rw [ecv]; exact sc)
  obtain ⟨r3, t3, f3⟩ := cSit_ok (t := c) (x := cR σ p (9 + 10 * a + 0)) t2 (show c < nM _ by rw [r2, nM_rup, r1, nM_rup]; exact hc) sa
  unfold cPas
  rw [ea, eb, ec]
  refine ⟨?_, t3, sFr_t f1 (sFr_t f2 f3)⟩
  rw [r3, r2, r1]
  rfl
theorem nM_rsw {R : gW} {a b : Nat} : nM (rsw R a b) = nM R := by unfold nM; rw [rsw_3]
theorem nM_rtu {R : gW} {a b c : Nat} (hd : a ≠ b ∧ b ≠ c ∧ a ≠ c) : nM (rtu R a b c) = nM R := by unfold nM; rw [rtu_3 hd]
/-- back again -/
theorem cExS_bk {σ : gS} {p a b : Nat} (h : TC σ p) (ha : a < nM (cR σ p)) (hb : b < nM (cR σ p)) : cExS (cExS σ p a b) p a b = σ := by
  obtain ⟨r1, t1, f1⟩ := cExS_ok h ha hb
  obtain ⟨r2, t2, f2⟩ := cExS_ok (a := a) (b := b) t1 (by rw [r1, nM_rsw]; exact ha) (by rw [r1, nM_rsw]; exact hb)
  exact sFr_eq h t2 (by rw [r2, r1, rsw_rsw]) (sFr_t f1 f2)
theorem cPas_bk {σ : gS} {p a b c : Nat} (h : TC σ p) (ha : a < nM (cR σ p)) (hb : b < nM (cR σ p)) (hc : c < nM (cR σ p)) (hd : a ≠ b ∧ b ≠ c ∧ a ≠ c) : cPas (cPas σ p a b c) p c b a = σ := by
  obtain ⟨r1, t1, f1⟩ := cPas_ok h ha hb hc hd
  have hd2 : c ≠ b ∧ b ≠ a ∧ c ≠ a := ⟨fun e => hd.2.1 e.symm, fun e => hd.1 e.symm, fun e => hd.2.2 e.symm⟩
  obtain ⟨r2, t2, f2⟩ := cPas_ok (a := c) (b := b) (c := a) t1 (by rw [r1, nM_rtu hd]; exact hc) (by rw [r1, nM_rtu hd]; exact hb) (by rw [r1, nM_rtu hd]; exact ha) hd2
  exact sFr_eq h t2 (by rw [r2, r1, rtu_rtu hd]) (sFr_t f1 f2)
/-- a traveller of the train -/
abbrev isN (σ : gS) (p : Nat) (t : Int32) : Prop := (0 ≤ t ∧ t < 20) ∧ t.toNatClampNeg < nM (cR σ p)
theorem fWho_c (R : gW) (x : Int32) (h : 0 ≤ R 3 ∧ R 3 ≤ 20) : fWho R x = -2 ∨ 0 ≤ fWho R x := by
  have hn := (nM_of h).2
  unfold fWho
  generalize nM R = n at hn
  induction n with
  | zero => exact Or.inl rfl
  | succ n ih =>
    unfold fnd
    by_cases e : fnd (fun t => decide (fld R t 0 = x)) n = -2
    · rw [if_pos e]
      split
      · exact Or.inr ((iN_le (k := 0) (by decide) (by omega)).mpr (by omega))
      · exact Or.inl rfl
    · rw [if_neg e]
      exact ih (by omega)
set_option maxRecDepth 20000 in
theorem w84_6_V {cSitV : gS → Nat → Nat → Int32 → gS} (hp : gPok (gpcjV cSitV)) {σ : gS} {K : gK} {a b : Int32} (h : (0 ≤ a ∧ a < 20) ∧ gTv (6 + 2 + a.toNatClampNeg) ∧ (0 ≤ b ∧ b < 20) ∧ gTv (6 + 2 + b.toNatClampNeg) ∧ (0 ≤ a ∧ a < 20) ∧ (0 ≤ b ∧ b < 20) ∧ K none (cSitV (cSitV σ 6 a.toNatClampNeg (σ (6 + 2 + b.toNatClampNeg) 1)) 6 b.toNatClampNeg (σ (6 + 2 + a.toNatClampNeg) 1))) : gE 84 0 [some (.ref 6), some (.int a), some (.int b), none] [] σ K :=
  gw_run (cy := 84) (cuts := []) (inl := []) (pf := gpcjV cSitV) hp 400 (by decide) h
theorem w84_6 {σ : gS} {K : gK} {a b : Int32} (h : (0 ≤ a ∧ a < 20) ∧ gTv (6 + 2 + a.toNatClampNeg) ∧ (0 ≤ b ∧ b < 20) ∧ gTv (6 + 2 + b.toNatClampNeg) ∧ (0 ≤ a ∧ a < 20) ∧ (0 ≤ b ∧ b < 20) ∧ K none (cSit (cSit σ 6 a.toNatClampNeg (σ (6 + 2 + b.toNatClampNeg) 1)) 6 b.toNatClampNeg (σ (6 + 2 + a.toNatClampNeg) 1))) : gE 84 0 [some (.ref 6), some (.int a), some (.int b), none] [] σ K :=
  w84_6_V (cSitV := cSit) gpcj_ok h
theorem s84_6 {σ : gS} {K : gK} {a b : Int32} (hc : (0 ≤ a ∧ a < 20) ∧ (0 ≤ b ∧ b < 20)) (hK : K none (cExS σ 6 a.toNatClampNeg b.toNatClampNeg)) : gE 84 0 [some (.ref 6), some (.int a), some (.int b), none] [] σ K := by
  obtain ⟨ha, hb⟩ := hc
  exact w84_6 ⟨ha, tv_6 _ (n20 ha), hb, tv_6 _ (n20 hb), ha, hb, hK⟩
set_option maxRecDepth 20000 in
theorem w84_32_V {cSitV : gS → Nat → Nat → Int32 → gS} (hp : gPok (gpcjV cSitV)) {σ : gS} {K : gK} {a b : Int32} (h : (0 ≤ a ∧ a < 20) ∧ gTv (32 + 2 + a.toNatClampNeg) ∧ (0 ≤ b ∧ b < 20) ∧ gTv (32 + 2 + b.toNatClampNeg) ∧ (0 ≤ a ∧ a < 20) ∧ (0 ≤ b ∧ b < 20) ∧ K none (cSitV (cSitV σ 32 a.toNatClampNeg (σ (32 + 2 + b.toNatClampNeg) 1)) 32 b.toNatClampNeg (σ (32 + 2 + a.toNatClampNeg) 1))) : gE 84 0 [some (.ref 32), some (.int a), some (.int b), none] [] σ K :=
  gw_run (cy := 84) (cuts := []) (inl := []) (pf := gpcjV cSitV) hp 400 (by decide) h
theorem w84_32 {σ : gS} {K : gK} {a b : Int32} (h : (0 ≤ a ∧ a < 20) ∧ gTv (32 + 2 + a.toNatClampNeg) ∧ (0 ≤ b ∧ b < 20) ∧ gTv (32 + 2 + b.toNatClampNeg) ∧ (0 ≤ a ∧ a < 20) ∧ (0 ≤ b ∧ b < 20) ∧ K none (cSit (cSit σ 32 a.toNatClampNeg (σ (32 + 2 + b.toNatClampNeg) 1)) 32 b.toNatClampNeg (σ (32 + 2 + a.toNatClampNeg) 1))) : gE 84 0 [some (.ref 32), some (.int a), some (.int b), none] [] σ K :=
  w84_32_V (cSitV := cSit) gpcj_ok h
theorem s84_32 {σ : gS} {K : gK} {a b : Int32} (hc : (0 ≤ a ∧ a < 20) ∧ (0 ≤ b ∧ b < 20)) (hK : K none (cExS σ 32 a.toNatClampNeg b.toNatClampNeg)) : gE 84 0 [some (.ref 32), some (.int a), some (.int b), none] [] σ K := by
  obtain ⟨ha, hb⟩ := hc
  exact w84_32 ⟨ha, tv_32 _ (n20 ha), hb, tv_32 _ (n20 hb), ha, hb, hK⟩
noncomputable def f84 : gD := fun Lv σ => match Lv with
  | [some (.ref p), some (.int a), some (.int b), none] => cond (Nat.beq p 6 || Nat.beq p 32) (some (some ((0 ≤ a ∧ a < 20) ∧ (0 ≤ b ∧ b < 20)), none, cExS σ p a.toNatClampNeg b.toNatClampNeg)) none
  | _ => none
theorem ok84 : gFok 84 f84 := by
  intro Lv σ q h hc K hK
  unfold f84 at h
  split at h
  · rename_i p a b
    obtain ⟨hb, h⟩ := c_no h
    have hb0 := hb
    rcases s_or hb0 with hb0 | hb0
    · have e := b_eq hb0
      subst e
      cases h
      exact s84_6 (hc _ rfl) hK
    · have e := b_eq hb0
      subst e
      cases h
      exact s84_32 (hc _ rfl) hK
  · cases h
set_option maxRecDepth 20000 in
theorem w85_6_V {cSitV : gS → Nat → Nat → Int32 → gS} (hp : gPok (gpcjV cSitV)) {σ : gS} {K : gK} {a b c : Int32} (h : (0 ≤ a ∧ a < 20) ∧ gTv (6 + 2 + a.toNatClampNeg) ∧ (0 ≤ b ∧ b < 20) ∧ gTv (6 + 2 + b.toNatClampNeg) ∧ (0 ≤ a ∧ a < 20) ∧ (0 ≤ c ∧ c < 20) ∧ gTv (6 + 2 + c.toNatClampNeg) ∧ (0 ≤ b ∧ b < 20) ∧ (0 ≤ c ∧ c < 20) ∧ K none (cSitV (cSitV (cSitV σ 6 a.toNatClampNeg (σ (6 + 2 + b.toNatClampNeg) 1)) 6 b.toNatClampNeg ((cSitV σ 6 a.toNatClampNeg (σ (6 + 2 + b.toNatClampNeg) 1)) (6 + 2 + c.toNatClampNeg) 1)) 6 c.toNatClampNeg (σ (6 + 2 + a.toNatClampNeg) 1))) : gE 85 0 [some (.ref 6), some (.int a), some (.int b), some (.int c), none] [] σ K :=
  gw_run (cy := 85) (cuts := []) (inl := []) (pf := gpcjV cSitV) hp 400 (by decide) h
theorem w85_6 {σ : gS} {K : gK} {a b c : Int32} (h : (0 ≤ a ∧ a < 20) ∧ gTv (6 + 2 + a.toNatClampNeg) ∧ (0 ≤ b ∧ b < 20) ∧ gTv (6 + 2 + b.toNatClampNeg) ∧ (0 ≤ a ∧ a < 20) ∧ (0 ≤ c ∧ c < 20) ∧ gTv (6 + 2 + c.toNatClampNeg) ∧ (0 ≤ b ∧ b < 20) ∧ (0 ≤ c ∧ c < 20) ∧ K none (cSit (cSit (cSit σ 6 a.toNatClampNeg (σ (6 + 2 + b.toNatClampNeg) 1)) 6 b.toNatClampNeg ((cSit σ 6 a.toNatClampNeg (σ (6 + 2 + b.toNatClampNeg) 1)) (6 + 2 + c.toNatClampNeg) 1)) 6 c.toNatClampNeg (σ (6 + 2 + a.toNatClampNeg) 1))) : gE 85 0 [some (.ref 6), some (.int a), some (.int b), some (.int c), none] [] σ K :=
  w85_6_V (cSitV := cSit) gpcj_ok h
theorem s85_6 {σ : gS} {K : gK} {a b c : Int32} (hc : (0 ≤ a ∧ a < 20) ∧ (0 ≤ b ∧ b < 20) ∧ (0 ≤ c ∧ c < 20)) (hK : K none (cPas σ 6 a.toNatClampNeg b.toNatClampNeg c.toNatClampNeg)) : gE 85 0 [some (.ref 6), some (.int a), some (.int b), some (.int c), none] [] σ K := by
  obtain ⟨ha, hb, hcc⟩ := hc
  exact w85_6 ⟨ha, tv_6 _ (n20 ha), hb, tv_6 _ (n20 hb), ha, hcc, tv_6 _ (n20 hcc), hb, hcc, hK⟩
set_option maxRecDepth 20000 in
theorem w85_32_V {cSitV : gS → Nat → Nat → Int32 → gS} (hp : gPok (gpcjV cSitV)) {σ : gS} {K : gK} {a b c : Int32} (h : (0 ≤ a ∧ a < 20) ∧ gTv (32 + 2 + a.toNatClampNeg) ∧ (0 ≤ b ∧ b < 20) ∧ gTv (32 + 2 + b.toNatClampNeg) ∧ (0 ≤ a ∧ a < 20) ∧ (0 ≤ c ∧ c < 20) ∧ gTv (32 + 2 + c.toNatClampNeg) ∧ (0 ≤ b ∧ b < 20) ∧ (0 ≤ c ∧ c < 20) ∧ K none (cSitV (cSitV (cSitV σ 32 a.toNatClampNeg (σ (32 + 2 + b.toNatClampNeg) 1)) 32 b.toNatClampNeg ((cSitV σ 32 a.toNatClampNeg (σ (32 + 2 + b.toNatClampNeg) 1)) (32 + 2 + c.toNatClampNeg) 1)) 32 c.toNatClampNeg (σ (32 + 2 + a.toNatClampNeg) 1))) : gE 85 0 [some (.ref 32), some (.int a), some (.int b), some (.int c), none] [] σ K :=
  gw_run (cy := 85) (cuts := []) (inl := []) (pf := gpcjV cSitV) hp 400 (by decide) h
theorem w85_32 {σ : gS} {K : gK} {a b c : Int32} (h : (0 ≤ a ∧ a < 20) ∧ gTv (32 + 2 + a.toNatClampNeg) ∧ (0 ≤ b ∧ b < 20) ∧ gTv (32 + 2 + b.toNatClampNeg) ∧ (0 ≤ a ∧ a < 20) ∧ (0 ≤ c ∧ c < 20) ∧ gTv (32 + 2 + c.toNatClampNeg) ∧ (0 ≤ b ∧ b < 20) ∧ (0 ≤ c ∧ c < 20) ∧ K none (cSit (cSit (cSit σ 32 a.toNatClampNeg (σ (32 + 2 + b.toNatClampNeg) 1)) 32 b.toNatClampNeg ((cSit σ 32 a.toNatClampNeg (σ (32 + 2 + b.toNatClampNeg) 1)) (32 + 2 + c.toNatClampNeg) 1)) 32 c.toNatClampNeg (σ (32 + 2 + a.toNatClampNeg) 1))) : gE 85 0 [some (.ref 32), some (.int a), some (.int b), some (.int c), none] [] σ K :=
  w85_32_V (cSitV := cSit) gpcj_ok h
theorem s85_32 {σ : gS} {K : gK} {a b c : Int32} (hc : (0 ≤ a ∧ a < 20) ∧ (0 ≤ b ∧ b < 20) ∧ (0 ≤ c ∧ c < 20)) (hK : K none (cPas σ 32 a.toNatClampNeg b.toNatClampNeg c.toNatClampNeg)) : gE 85 0 [some (.ref 32), some (.int a), some (.int b), some (.int c), none] [] σ K := by
  obtain ⟨ha, hb, hcc⟩ := hc
  exact w85_32 ⟨ha, tv_32 _ (n20 ha), hb, tv_32 _ (n20 hb), ha, hcc, tv_32 _ (n20 hcc), hb, hcc, hK⟩
noncomputable def f85 : gD := fun Lv σ => match Lv with
  | [some (.ref p), some (.int a), some (.int b), some (.int c), none] => cond (Nat.beq p 6 || Nat.beq p 32) (some (some ((0 ≤ a ∧ a < 20) ∧ (0 ≤ b ∧ b < 20) ∧ (0 ≤ c ∧ c < 20)), none, cPas σ p a.toNatClampNeg b.toNatClampNeg c.toNatClampNeg)) none
  | _ => none
theorem ok85 : gFok 85 f85 := by
  intro Lv σ q h hc K hK
  unfold f85 at h
  split at h
  · rename_i p a b c
    obtain ⟨hb, h⟩ := c_no h
    have hb0 := hb
    rcases s_or hb0 with hb0 | hb0
    · have e := b_eq hb0
      subst e
      cases h
      exact s85_6 (hc _ rfl) hK
    · have e := b_eq hb0
      subst e
      cases h
      exact s85_32 (hc _ rfl) hK
  · cases h
noncomputable def gpck_l : List (Nat × gD) := (84, f84) :: (85, f85) :: gpcj_l
noncomputable def gpck : gP := gpl0 gpck_l
theorem gpck_ok : gPok gpck := gpl0_cons ok84 (gpl0_cons ok85 (gpcj_ok))
noncomputable def f84V (cExSV : gS → Nat → Nat → Nat → gS) : gD := fun Lv σ => match Lv with
  | [some (.ref p), some (.int a), some (.int b), none] => cond (Nat.beq p 6 || Nat.beq p 32) (some (some ((0 ≤ a ∧ a < 20) ∧ (0 ≤ b ∧ b < 20)), none, cExSV σ p a.toNatClampNeg b.toNatClampNeg)) none
  | _ => none
noncomputable def f85V (cPasV : gS → Nat → Nat → Nat → Nat → gS) : gD := fun Lv σ => match Lv with
  | [some (.ref p), some (.int a), some (.int b), some (.int c), none] => cond (Nat.beq p 6 || Nat.beq p 32) (some (some ((0 ≤ a ∧ a < 20) ∧ (0 ≤ b ∧ b < 20) ∧ (0 ≤ c ∧ c < 20)), none, cPasV σ p a.toNatClampNeg b.toNatClampNeg c.toNatClampNeg)) none
  | _ => none
noncomputable def gpckV (cExSV : gS → Nat → Nat → Nat → gS) (cPasV : gS → Nat → Nat → Nat → Nat → gS) : gP := gpl0 ((84, f84V cExSV) :: (85, f85V cPasV) :: gpcj_l)
set_option maxRecDepth 20000 in
theorem w86_6_V {cExSV : gS → Nat → Nat → Nat → gS} {cPasV : gS → Nat → Nat → Nat → Nat → gS} (hp : gPok (gpckV cExSV cPasV)) {σ : gS} {K : gK} {a b : Int32} (h : (((0 ≤ a ∧ a < 20) ∧ a.toNatClampNeg < nM (cR σ 6)) ∧ TC σ 6) ∧ ((0 ≤ a ∧ a < 20) ∧ (0 ≤ b ∧ b < 20)) ∧ (((0 ≤ a ∧ a < 20) ∧ a.toNatClampNeg < nM (cR (cExSV σ 6 a.toNatClampNeg b.toNatClampNeg) 6)) ∧ TC (cExSV σ 6 a.toNatClampNeg b.toNatClampNeg) 6) ∧ ((0 ≤ a ∧ a < 20) ∧ (0 ≤ b ∧ b < 20)) ∧ K (some (.int ((fJo (cR (cExSV σ 6 a.toNatClampNeg b.toNatClampNeg) 6) a.toNatClampNeg) - (fJo (cR σ 6) a.toNatClampNeg)))) (cExSV (cExSV σ 6 a.toNatClampNeg b.toNatClampNeg) 6 a.toNatClampNeg b.toNatClampNeg)) : gE 86 0 [some (.ref 6), some (.int a), some (.int b), none, none] [] σ K :=
  gw_run (cy := 86) (cuts := []) (inl := []) (pf := gpckV cExSV cPasV) hp 400 (by decide) h
theorem w86_6 {σ : gS} {K : gK} {a b : Int32} (h : (((0 ≤ a ∧ a < 20) ∧ a.toNatClampNeg < nM (cR σ 6)) ∧ TC σ 6) ∧ ((0 ≤ a ∧ a < 20) ∧ (0 ≤ b ∧ b < 20)) ∧ (((0 ≤ a ∧ a < 20) ∧ a.toNatClampNeg < nM (cR (cExS σ 6 a.toNatClampNeg b.toNatClampNeg) 6)) ∧ TC (cExS σ 6 a.toNatClampNeg b.toNatClampNeg) 6) ∧ ((0 ≤ a ∧ a < 20) ∧ (0 ≤ b ∧ b < 20)) ∧ K (some (.int ((fJo (cR (cExS σ 6 a.toNatClampNeg b.toNatClampNeg) 6) a.toNatClampNeg) - (fJo (cR σ 6) a.toNatClampNeg)))) (cExS (cExS σ 6 a.toNatClampNeg b.toNatClampNeg) 6 a.toNatClampNeg b.toNatClampNeg)) : gE 86 0 [some (.ref 6), some (.int a), some (.int b), none, none] [] σ K :=
  w86_6_V (cExSV := cExS) (cPasV := cPas) gpck_ok h
theorem s86_6 {σ : gS} {K : gK} {a b : Int32} (hc : isN σ 6 a ∧ isN σ 6 b ∧ TC σ 6) (hK : K (some (.int (fRise (cR σ 6) a.toNatClampNeg b.toNatClampNeg a.toNatClampNeg))) σ) : gE 86 0 [some (.ref 6), some (.int a), some (.int b), none, none] [] σ K := by
  obtain ⟨ha, hb, hT⟩ := hc
  obtain ⟨r1, t1, f1⟩ := cExS_ok hT ha.2 hb.2
  refine w86_6 ⟨⟨ha, hT⟩, ⟨ha.1, hb.1⟩, ⟨⟨ha.1, by rw [r1, nM_rsw]; exact ha.2⟩, t1⟩, ⟨ha.1, hb.1⟩, ?_⟩
  rw [cExS_bk hT ha.2 hb.2, r1]
  exact hK
set_option maxRecDepth 20000 in
theorem w86_32_V {cExSV : gS → Nat → Nat → Nat → gS} {cPasV : gS → Nat → Nat → Nat → Nat → gS} (hp : gPok (gpckV cExSV cPasV)) {σ : gS} {K : gK} {a b : Int32} (h : (((0 ≤ a ∧ a < 20) ∧ a.toNatClampNeg < nM (cR σ 32)) ∧ TC σ 32) ∧ ((0 ≤ a ∧ a < 20) ∧ (0 ≤ b ∧ b < 20)) ∧ (((0 ≤ a ∧ a < 20) ∧ a.toNatClampNeg < nM (cR (cExSV σ 32 a.toNatClampNeg b.toNatClampNeg) 32)) ∧ TC (cExSV σ 32 a.toNatClampNeg b.toNatClampNeg) 32) ∧ ((0 ≤ a ∧ a < 20) ∧ (0 ≤ b ∧ b < 20)) ∧ K (some (.int ((fJo (cR (cExSV σ 32 a.toNatClampNeg b.toNatClampNeg) 32) a.toNatClampNeg) - (fJo (cR σ 32) a.toNatClampNeg)))) (cExSV (cExSV σ 32 a.toNatClampNeg b.toNatClampNeg) 32 a.toNatClampNeg b.toNatClampNeg)) : gE 86 0 [some (.ref 32), some (.int a), some (.int b), none, none] [] σ K :=
  gw_run (cy := 86) (cuts := []) (inl := []) (pf := gpckV cExSV cPasV) hp 400 (by decide) h
theorem w86_32 {σ : gS} {K : gK} {a b : Int32} (h : (((0 ≤ a ∧ a < 20) ∧ a.toNatClampNeg < nM (cR σ 32)) ∧ TC σ 32) ∧ ((0 ≤ a ∧ a < 20) ∧ (0 ≤ b ∧ b < 20)) ∧ (((0 ≤ a ∧ a < 20) ∧ a.toNatClampNeg < nM (cR (cExS σ 32 a.toNatClampNeg b.toNatClampNeg) 32)) ∧ TC (cExS σ 32 a.toNatClampNeg b.toNatClampNeg) 32) ∧ ((0 ≤ a ∧ a < 20) ∧ (0 ≤ b ∧ b < 20)) ∧ K (some (.int ((fJo (cR (cExS σ 32 a.toNatClampNeg b.toNatClampNeg) 32) a.toNatClampNeg) - (fJo (cR σ 32) a.toNatClampNeg)))) (cExS (cExS σ 32 a.toNatClampNeg b.toNatClampNeg) 32 a.toNatClampNeg b.toNatClampNeg)) : gE 86 0 [some (.ref 32), some (.int a), some (.int b), none, none] [] σ K :=
  w86_32_V (cExSV := cExS) (cPasV := cPas) gpck_ok h
theorem s86_32 {σ : gS} {K : gK} {a b : Int32} (hc : isN σ 32 a ∧ isN σ 32 b ∧ TC σ 32) (hK : K (some (.int (fRise (cR σ 32) a.toNatClampNeg b.toNatClampNeg a.toNatClampNeg))) σ) : gE 86 0 [some (.ref 32), some (.int a), some (.int b), none, none] [] σ K := by
  obtain ⟨ha, hb, hT⟩ := hc
  obtain ⟨r1, t1, f1⟩ := cExS_ok hT ha.2 hb.2
  refine w86_32 ⟨⟨ha, hT⟩, ⟨ha.1, hb.1⟩, ⟨⟨ha.1, by rw [r1, nM_rsw]; exact ha.2⟩, t1⟩, ⟨ha.1, hb.1⟩, ?_⟩
  rw [cExS_bk hT ha.2 hb.2, r1]
  exact hK
noncomputable def f86 : gD := fun Lv σ => match Lv with
  | [some (.ref p), some (.int a), some (.int b), none, none] => cond (Nat.beq p 6 || Nat.beq p 32) (some (some (isN σ p a ∧ isN σ p b ∧ TC σ p), some (.int (fRise (cR σ p) a.toNatClampNeg b.toNatClampNeg a.toNatClampNeg)), σ)) none
  | _ => none
theorem ok86 : gFok 86 f86 := by
  intro Lv σ q h hc K hK
  unfold f86 at h
  split at h
  · rename_i p a b
    obtain ⟨hb, h⟩ := c_no h
    have hb0 := hb
    rcases s_or hb0 with hb0 | hb0
    · have e := b_eq hb0
      subst e
      cases h
      exact s86_6 (hc _ rfl) hK
    · have e := b_eq hb0
      subst e
      cases h
      exact s86_32 (hc _ rfl) hK
  · cases h
set_option maxRecDepth 20000 in
theorem w87_6_V {cExSV : gS → Nat → Nat → Nat → gS} {cPasV : gS → Nat → Nat → Nat → Nat → gS} (hp : gPok (gpckV cExSV cPasV)) {σ : gS} {K : gK} {a b : Int32} (h : ((0 ≤ a ∧ a < 20) ∧ (0 ≤ b ∧ b < 20)) ∧ (TC (cExSV σ 6 a.toNatClampNeg b.toNatClampNeg) 6) ∧ ((0 ≤ a ∧ a < 20) ∧ (0 ≤ b ∧ b < 20)) ∧ K (some (.int (fJa (cR (cExSV σ 6 a.toNatClampNeg b.toNatClampNeg) 6)))) (cExSV (cExSV σ 6 a.toNatClampNeg b.toNatClampNeg) 6 a.toNatClampNeg b.toNatClampNeg)) : gE 87 0 [some (.ref 6), some (.int a), some (.int b), none] [] σ K :=
  gw_run (cy := 87) (cuts := []) (inl := []) (pf := gpckV cExSV cPasV) hp 400 (by decide) h
theorem w87_6 {σ : gS} {K : gK} {a b : Int32} (h : ((0 ≤ a ∧ a < 20) ∧ (0 ≤ b ∧ b < 20)) ∧ (TC (cExS σ 6 a.toNatClampNeg b.toNatClampNeg) 6) ∧ ((0 ≤ a ∧ a < 20) ∧ (0 ≤ b ∧ b < 20)) ∧ K (some (.int (fJa (cR (cExS σ 6 a.toNatClampNeg b.toNatClampNeg) 6)))) (cExS (cExS σ 6 a.toNatClampNeg b.toNatClampNeg) 6 a.toNatClampNeg b.toNatClampNeg)) : gE 87 0 [some (.ref 6), some (.int a), some (.int b), none] [] σ K :=
  w87_6_V (cExSV := cExS) (cPasV := cPas) gpck_ok h
theorem s87_6 {σ : gS} {K : gK} {a b : Int32} (hc : isN σ 6 a ∧ isN σ 6 b ∧ TC σ 6) (hK : K (some (.int (fJa (rsw (cR σ 6) a.toNatClampNeg b.toNatClampNeg)))) σ) : gE 87 0 [some (.ref 6), some (.int a), some (.int b), none] [] σ K := by
  obtain ⟨ha, hb, hT⟩ := hc
  obtain ⟨r1, t1, f1⟩ := cExS_ok hT ha.2 hb.2
  refine w87_6 ⟨⟨ha.1, hb.1⟩, t1, ⟨ha.1, hb.1⟩, ?_⟩
  rw [cExS_bk hT ha.2 hb.2, r1]
  exact hK
set_option maxRecDepth 20000 in
theorem w87_32_V {cExSV : gS → Nat → Nat → Nat → gS} {cPasV : gS → Nat → Nat → Nat → Nat → gS} (hp : gPok (gpckV cExSV cPasV)) {σ : gS} {K : gK} {a b : Int32} (h : ((0 ≤ a ∧ a < 20) ∧ (0 ≤ b ∧ b < 20)) ∧ (TC (cExSV σ 32 a.toNatClampNeg b.toNatClampNeg) 32) ∧ ((0 ≤ a ∧ a < 20) ∧ (0 ≤ b ∧ b < 20)) ∧ K (some (.int (fJa (cR (cExSV σ 32 a.toNatClampNeg b.toNatClampNeg) 32)))) (cExSV (cExSV σ 32 a.toNatClampNeg b.toNatClampNeg) 32 a.toNatClampNeg b.toNatClampNeg)) : gE 87 0 [some (.ref 32), some (.int a), some (.int b), none] [] σ K :=
  gw_run (cy := 87) (cuts := []) (inl := []) (pf := gpckV cExSV cPasV) hp 400 (by decide) h
theorem w87_32 {σ : gS} {K : gK} {a b : Int32} (h : ((0 ≤ a ∧ a < 20) ∧ (0 ≤ b ∧ b < 20)) ∧ (TC (cExS σ 32 a.toNatClampNeg b.toNatClampNeg) 32) ∧ ((0 ≤ a ∧ a < 20) ∧ (0 ≤ b ∧ b < 20)) ∧ K (some (.int (fJa (cR (cExS σ 32 a.toNatClampNeg b.toNatClampNeg) 32)))) (cExS (cExS σ 32 a.toNatClampNeg b.toNatClampNeg) 32 a.toNatClampNeg b.toNatClampNeg)) : gE 87 0 [some (.ref 32), some (.int a), some (.int b), none] [] σ K :=
  w87_32_V (cExSV := cExS) (cPasV := cPas) gpck_ok h
theorem s87_32 {σ : gS} {K : gK} {a b : Int32} (hc : isN σ 32 a ∧ isN σ 32 b ∧ TC σ 32) (hK : K (some (.int (fJa (rsw (cR σ 32) a.toNatClampNeg b.toNatClampNeg)))) σ) : gE 87 0 [some (.ref 32), some (.int a), some (.int b), none] [] σ K := by
  obtain ⟨ha, hb, hT⟩ := hc
  obtain ⟨r1, t1, f1⟩ := cExS_ok hT ha.2 hb.2
  refine w87_32 ⟨⟨ha.1, hb.1⟩, t1, ⟨ha.1, hb.1⟩, ?_⟩
  rw [cExS_bk hT ha.2 hb.2, r1]
  exact hK
noncomputable def f87 : gD := fun Lv σ => match Lv with
  | [some (.ref p), some (.int a), some (.int b), none] => cond (Nat.beq p 6 || Nat.beq p 32) (some (some (isN σ p a ∧ isN σ p b ∧ TC σ p), some (.int (fJa (rsw (cR σ p) a.toNatClampNeg b.toNatClampNeg))), σ)) none
  | _ => none
theorem ok87 : gFok 87 f87 := by
  intro Lv σ q h hc K hK
  unfold f87 at h
  split at h
  · rename_i p a b
    obtain ⟨hb, h⟩ := c_no h
    have hb0 := hb
    rcases s_or hb0 with hb0 | hb0
    · have e := b_eq hb0
      subst e
      cases h
      exact s87_6 (hc _ rfl) hK
    · have e := b_eq hb0
      subst e
      cases h
      exact s87_32 (hc _ rfl) hK
  · cases h
set_option maxRecDepth 20000 in
theorem w88_6_V {cExSV : gS → Nat → Nat → Nat → gS} {cPasV : gS → Nat → Nat → Nat → Nat → gS} (hp : gPok (gpckV cExSV cPasV)) {σ : gS} {K : gK} {a b x : Int32} (h : (0 ≤ b ∧ b < 20) ∧ gTv (6 + 2 + b.toNatClampNeg) ∧ (0 ≤ a ∧ a < 20) ∧ (((bI (fMay (cR σ 6) a.toNatClampNeg (σ (6 + 2 + b.toNatClampNeg) 1))) = 0 → K (some (.int 1)) σ) ∧ (¬ (bI (fMay (cR σ 6) a.toNatClampNeg (σ (6 + 2 + b.toNatClampNeg) 1))) = 0 → (0 ≤ a ∧ a < 20) ∧ gTv (6 + 2 + a.toNatClampNeg) ∧ (0 ≤ b ∧ b < 20) ∧ ((¬ (bI (fMay (cR σ 6) b.toNatClampNeg (σ (6 + 2 + a.toNatClampNeg) 1))) = 0 → (0 ≤ a ∧ a < 20) ∧ gTv (6 + 2 + a.toNatClampNeg) ∧ ((¬ (σ (6 + 2 + a.toNatClampNeg) 8) < x → (((0 ≤ a ∧ a < 20) ∧ a.toNatClampNeg < nM (cR σ 6)) ∧ TC σ 6) ∧ (((0 ≤ b ∧ b < 20) ∧ b.toNatClampNeg < nM (cR σ 6)) ∧ TC σ 6) ∧ ((0 ≤ a ∧ a < 20) ∧ (0 ≤ b ∧ b < 20)) ∧ (((0 ≤ a ∧ a < 20) ∧ a.toNatClampNeg < nM (cR (cExSV σ 6 a.toNatClampNeg b.toNatClampNeg) 6)) ∧ TC (cExSV σ 6 a.toNatClampNeg b.toNatClampNeg) 6) ∧ (((0 ≤ b ∧ b < 20) ∧ b.toNatClampNeg < nM (cR (cExSV σ 6 a.toNatClampNeg b.toNatClampNeg) 6)) ∧ TC (cExSV σ 6 a.toNatClampNeg b.toNatClampNeg) 6) ∧ ((0 ≤ a ∧ a < 20) ∧ (0 ≤ b ∧ b < 20)) ∧ ((¬ ((fJo (cR (cExSV σ 6 a.toNatClampNeg b.toNatClampNeg) 6) a.toNatClampNeg) - (fJo (cR σ 6) a.toNatClampNeg)) < x → ((¬ ((fJo (cR (cExSV σ 6 a.toNatClampNeg b.toNatClampNeg) 6) b.toNatClampNeg) - (fJo (cR σ 6) b.toNatClampNeg)) < (-x) → K (some (.int 0)) (cExSV (cExSV σ 6 a.toNatClampNeg b.toNatClampNeg) 6 a.toNatClampNeg b.toNatClampNeg)) ∧ (((fJo (cR (cExSV σ 6 a.toNatClampNeg b.toNatClampNeg) 6) b.toNatClampNeg) - (fJo (cR σ 6) b.toNatClampNeg)) < (-x) → K (some (.int 4)) (cExSV (cExSV σ 6 a.toNatClampNeg b.toNatClampNeg) 6 a.toNatClampNeg b.toNatClampNeg)))) ∧ (((fJo (cR (cExSV σ 6 a.toNatClampNeg b.toNatClampNeg) 6) a.toNatClampNeg) - (fJo (cR σ 6) a.toNatClampNeg)) < x → K (some (.int 3)) (cExSV (cExSV σ 6 a.toNatClampNeg b.toNatClampNeg) 6 a.toNatClampNeg b.toNatClampNeg)))) ∧ ((σ (6 + 2 + a.toNatClampNeg) 8) < x → K (some (.int 2)) σ))) ∧ ((bI (fMay (cR σ 6) b.toNatClampNeg (σ (6 + 2 + a.toNatClampNeg) 1))) = 0 → K (some (.int 1)) σ))))) : gE 88 0 [some (.ref 6), some (.int a), some (.int b), some (.int x), none, none, none, none] [] σ K :=
  gw_run (cy := 88) (cuts := []) (inl := []) (pf := gpckV cExSV cPasV) hp 400 (by decide) h
theorem w88_6 {σ : gS} {K : gK} {a b x : Int32} (h : (0 ≤ b ∧ b < 20) ∧ gTv (6 + 2 + b.toNatClampNeg) ∧ (0 ≤ a ∧ a < 20) ∧ (((bI (fMay (cR σ 6) a.toNatClampNeg (σ (6 + 2 + b.toNatClampNeg) 1))) = 0 → K (some (.int 1)) σ) ∧ (¬ (bI (fMay (cR σ 6) a.toNatClampNeg (σ (6 + 2 + b.toNatClampNeg) 1))) = 0 → (0 ≤ a ∧ a < 20) ∧ gTv (6 + 2 + a.toNatClampNeg) ∧ (0 ≤ b ∧ b < 20) ∧ ((¬ (bI (fMay (cR σ 6) b.toNatClampNeg (σ (6 + 2 + a.toNatClampNeg) 1))) = 0 → (0 ≤ a ∧ a < 20) ∧ gTv (6 + 2 + a.toNatClampNeg) ∧ ((¬ (σ (6 + 2 + a.toNatClampNeg) 8) < x → (((0 ≤ a ∧ a < 20) ∧ a.toNatClampNeg < nM (cR σ 6)) ∧ TC σ 6) ∧ (((0 ≤ b ∧ b < 20) ∧ b.toNatClampNeg < nM (cR σ 6)) ∧ TC σ 6) ∧ ((0 ≤ a ∧ a < 20) ∧ (0 ≤ b ∧ b < 20)) ∧ (((0 ≤ a ∧ a < 20) ∧ a.toNatClampNeg < nM (cR (cExS σ 6 a.toNatClampNeg b.toNatClampNeg) 6)) ∧ TC (cExS σ 6 a.toNatClampNeg b.toNatClampNeg) 6) ∧ (((0 ≤ b ∧ b < 20) ∧ b.toNatClampNeg < nM (cR (cExS σ 6 a.toNatClampNeg b.toNatClampNeg) 6)) ∧ TC (cExS σ 6 a.toNatClampNeg b.toNatClampNeg) 6) ∧ ((0 ≤ a ∧ a < 20) ∧ (0 ≤ b ∧ b < 20)) ∧ ((¬ ((fJo (cR (cExS σ 6 a.toNatClampNeg b.toNatClampNeg) 6) a.toNatClampNeg) - (fJo (cR σ 6) a.toNatClampNeg)) < x → ((¬ ((fJo (cR (cExS σ 6 a.toNatClampNeg b.toNatClampNeg) 6) b.toNatClampNeg) - (fJo (cR σ 6) b.toNatClampNeg)) < (-x) → K (some (.int 0)) (cExS (cExS σ 6 a.toNatClampNeg b.toNatClampNeg) 6 a.toNatClampNeg b.toNatClampNeg)) ∧ (((fJo (cR (cExS σ 6 a.toNatClampNeg b.toNatClampNeg) 6) b.toNatClampNeg) - (fJo (cR σ 6) b.toNatClampNeg)) < (-x) → K (some (.int 4)) (cExS (cExS σ 6 a.toNatClampNeg b.toNatClampNeg) 6 a.toNatClampNeg b.toNatClampNeg)))) ∧ (((fJo (cR (cExS σ 6 a.toNatClampNeg b.toNatClampNeg) 6) a.toNatClampNeg) - (fJo (cR σ 6) a.toNatClampNeg)) < x → K (some (.int 3)) (cExS (cExS σ 6 a.toNatClampNeg b.toNatClampNeg) 6 a.toNatClampNeg b.toNatClampNeg)))) ∧ ((σ (6 + 2 + a.toNatClampNeg) 8) < x → K (some (.int 2)) σ))) ∧ ((bI (fMay (cR σ 6) b.toNatClampNeg (σ (6 + 2 + a.toNatClampNeg) 1))) = 0 → K (some (.int 1)) σ))))) : gE 88 0 [some (.ref 6), some (.int a), some (.int b), some (.int x), none, none, none, none] [] σ K :=
  w88_6_V (cExSV := cExS) (cPasV := cPas) gpck_ok h
theorem s88_6 {σ : gS} {K : gK} {a b x : Int32} (hc : isN σ 6 a ∧ isN σ 6 b ∧ TC σ 6) (hK : K (some (.int (fWhy (cR σ 6) a.toNatClampNeg b.toNatClampNeg x))) σ) : gE 88 0 [some (.ref 6), some (.int a), some (.int b), some (.int x), none, none, none, none] [] σ K := by
  obtain ⟨ha, hb, hT⟩ := hc
  obtain ⟨r1, t1, f1⟩ := cExS_ok hT ha.2 hb.2
  have tva := tv_6 _ (n20 ha.1)
  have tvb := tv_6 _ (n20 hb.1)
  have ea := cR_f (σ := σ) (p := 6) (t := a.toNatClampNeg) (f := 0) (n20 ha.1) (by decide)
  have eb := cR_f (σ := σ) (p := 6) (t := b.toNatClampNeg) (f := 0) (n20 hb.1) (by decide)
  have e7 := cR_f (σ := σ) (p := 6) (t := a.toNatClampNeg) (f := 7) (n20 ha.1) (by decide)
  have na := ha.1
  have nb := hb.1
  have c1 : isN (cExS σ 6 a.toNatClampNeg b.toNatClampNeg) 6 a := ⟨ha.1, by rw [r1, nM_rsw]; exact ha.2⟩
  have c2 : isN (cExS σ 6 a.toNatClampNeg b.toNatClampNeg) 6 b := ⟨hb.1, by rw [r1, nM_rsw]; exact hb.2⟩
  unfold fWhy fRise at hK
  rw [ea, eb, e7, ← r1] at hK
  refine w88_6 ?_
  rw [cExS_bk hT ha.2 hb.2]
  simp only [bI_0]
  grind
set_option maxRecDepth 20000 in
theorem w88_32_V {cExSV : gS → Nat → Nat → Nat → gS} {cPasV : gS → Nat → Nat → Nat → Nat → gS} (hp : gPok (gpckV cExSV cPasV)) {σ : gS} {K : gK} {a b x : Int32} (h : (0 ≤ b ∧ b < 20) ∧ gTv (32 + 2 + b.toNatClampNeg) ∧ (0 ≤ a ∧ a < 20) ∧ (((bI (fMay (cR σ 32) a.toNatClampNeg (σ (32 + 2 + b.toNatClampNeg) 1))) = 0 → K (some (.int 1)) σ) ∧ (¬ (bI (fMay (cR σ 32) a.toNatClampNeg (σ (32 + 2 + b.toNatClampNeg) 1))) = 0 → (0 ≤ a ∧ a < 20) ∧ gTv (32 + 2 + a.toNatClampNeg) ∧ (0 ≤ b ∧ b < 20) ∧ ((¬ (bI (fMay (cR σ 32) b.toNatClampNeg (σ (32 + 2 + a.toNatClampNeg) 1))) = 0 → (0 ≤ a ∧ a < 20) ∧ gTv (32 + 2 + a.toNatClampNeg) ∧ ((¬ (σ (32 + 2 + a.toNatClampNeg) 8) < x → (((0 ≤ a ∧ a < 20) ∧ a.toNatClampNeg < nM (cR σ 32)) ∧ TC σ 32) ∧ (((0 ≤ b ∧ b < 20) ∧ b.toNatClampNeg < nM (cR σ 32)) ∧ TC σ 32) ∧ ((0 ≤ a ∧ a < 20) ∧ (0 ≤ b ∧ b < 20)) ∧ (((0 ≤ a ∧ a < 20) ∧ a.toNatClampNeg < nM (cR (cExSV σ 32 a.toNatClampNeg b.toNatClampNeg) 32)) ∧ TC (cExSV σ 32 a.toNatClampNeg b.toNatClampNeg) 32) ∧ (((0 ≤ b ∧ b < 20) ∧ b.toNatClampNeg < nM (cR (cExSV σ 32 a.toNatClampNeg b.toNatClampNeg) 32)) ∧ TC (cExSV σ 32 a.toNatClampNeg b.toNatClampNeg) 32) ∧ ((0 ≤ a ∧ a < 20) ∧ (0 ≤ b ∧ b < 20)) ∧ ((¬ ((fJo (cR (cExSV σ 32 a.toNatClampNeg b.toNatClampNeg) 32) a.toNatClampNeg) - (fJo (cR σ 32) a.toNatClampNeg)) < x → ((¬ ((fJo (cR (cExSV σ 32 a.toNatClampNeg b.toNatClampNeg) 32) b.toNatClampNeg) - (fJo (cR σ 32) b.toNatClampNeg)) < (-x) → K (some (.int 0)) (cExSV (cExSV σ 32 a.toNatClampNeg b.toNatClampNeg) 32 a.toNatClampNeg b.toNatClampNeg)) ∧ (((fJo (cR (cExSV σ 32 a.toNatClampNeg b.toNatClampNeg) 32) b.toNatClampNeg) - (fJo (cR σ 32) b.toNatClampNeg)) < (-x) → K (some (.int 4)) (cExSV (cExSV σ 32 a.toNatClampNeg b.toNatClampNeg) 32 a.toNatClampNeg b.toNatClampNeg)))) ∧ (((fJo (cR (cExSV σ 32 a.toNatClampNeg b.toNatClampNeg) 32) a.toNatClampNeg) - (fJo (cR σ 32) a.toNatClampNeg)) < x → K (some (.int 3)) (cExSV (cExSV σ 32 a.toNatClampNeg b.toNatClampNeg) 32 a.toNatClampNeg b.toNatClampNeg)))) ∧ ((σ (32 + 2 + a.toNatClampNeg) 8) < x → K (some (.int 2)) σ))) ∧ ((bI (fMay (cR σ 32) b.toNatClampNeg (σ (32 + 2 + a.toNatClampNeg) 1))) = 0 → K (some (.int 1)) σ))))) : gE 88 0 [some (.ref 32), some (.int a), some (.int b), some (.int x), none, none, none, none] [] σ K :=
  gw_run (cy := 88) (cuts := []) (inl := []) (pf := gpckV cExSV cPasV) hp 400 (by decide) h
theorem w88_32 {σ : gS} {K : gK} {a b x : Int32} (h : (0 ≤ b ∧ b < 20) ∧ gTv (32 + 2 + b.toNatClampNeg) ∧ (0 ≤ a ∧ a < 20) ∧ (((bI (fMay (cR σ 32) a.toNatClampNeg (σ (32 + 2 + b.toNatClampNeg) 1))) = 0 → K (some (.int 1)) σ) ∧ (¬ (bI (fMay (cR σ 32) a.toNatClampNeg (σ (32 + 2 + b.toNatClampNeg) 1))) = 0 → (0 ≤ a ∧ a < 20) ∧ gTv (32 + 2 + a.toNatClampNeg) ∧ (0 ≤ b ∧ b < 20) ∧ ((¬ (bI (fMay (cR σ 32) b.toNatClampNeg (σ (32 + 2 + a.toNatClampNeg) 1))) = 0 → (0 ≤ a ∧ a < 20) ∧ gTv (32 + 2 + a.toNatClampNeg) ∧ ((¬ (σ (32 + 2 + a.toNatClampNeg) 8) < x → (((0 ≤ a ∧ a < 20) ∧ a.toNatClampNeg < nM (cR σ 32)) ∧ TC σ 32) ∧ (((0 ≤ b ∧ b < 20) ∧ b.toNatClampNeg < nM (cR σ 32)) ∧ TC σ 32) ∧ ((0 ≤ a ∧ a < 20) ∧ (0 ≤ b ∧ b < 20)) ∧ (((0 ≤ a ∧ a < 20) ∧ a.toNatClampNeg < nM (cR (cExS σ 32 a.toNatClampNeg b.toNatClampNeg) 32)) ∧ TC (cExS σ 32 a.toNatClampNeg b.toNatClampNeg) 32) ∧ (((0 ≤ b ∧ b < 20) ∧ b.toNatClampNeg < nM (cR (cExS σ 32 a.toNatClampNeg b.toNatClampNeg) 32)) ∧ TC (cExS σ 32 a.toNatClampNeg b.toNatClampNeg) 32) ∧ ((0 ≤ a ∧ a < 20) ∧ (0 ≤ b ∧ b < 20)) ∧ ((¬ ((fJo (cR (cExS σ 32 a.toNatClampNeg b.toNatClampNeg) 32) a.toNatClampNeg) - (fJo (cR σ 32) a.toNatClampNeg)) < x → ((¬ ((fJo (cR (cExS σ 32 a.toNatClampNeg b.toNatClampNeg) 32) b.toNatClampNeg) - (fJo (cR σ 32) b.toNatClampNeg)) < (-x) → K (some (.int 0)) (cExS (cExS σ 32 a.toNatClampNeg b.toNatClampNeg) 32 a.toNatClampNeg b.toNatClampNeg)) ∧ (((fJo (cR (cExS σ 32 a.toNatClampNeg b.toNatClampNeg) 32) b.toNatClampNeg) - (fJo (cR σ 32) b.toNatClampNeg)) < (-x) → K (some (.int 4)) (cExS (cExS σ 32 a.toNatClampNeg b.toNatClampNeg) 32 a.toNatClampNeg b.toNatClampNeg)))) ∧ (((fJo (cR (cExS σ 32 a.toNatClampNeg b.toNatClampNeg) 32) a.toNatClampNeg) - (fJo (cR σ 32) a.toNatClampNeg)) < x → K (some (.int 3)) (cExS (cExS σ 32 a.toNatClampNeg b.toNatClampNeg) 32 a.toNatClampNeg b.toNatClampNeg)))) ∧ ((σ (32 + 2 + a.toNatClampNeg) 8) < x → K (some (.int 2)) σ))) ∧ ((bI (fMay (cR σ 32) b.toNatClampNeg (σ (32 + 2 + a.toNatClampNeg) 1))) = 0 → K (some (.int 1)) σ))))) : gE 88 0 [some (.ref 32), some (.int a), some (.int b), some (.int x), none, none, none, none] [] σ K :=
  w88_32_V (cExSV := cExS) (cPasV := cPas) gpck_ok h
theorem s88_32 {σ : gS} {K : gK} {a b x : Int32} (hc : isN σ 32 a ∧ isN σ 32 b ∧ TC σ 32) (hK : K (some (.int (fWhy (cR σ 32) a.toNatClampNeg b.toNatClampNeg x))) σ) : gE 88 0 [some (.ref 32), some (.int a), some (.int b), some (.int x), none, none, none, none] [] σ K := by
  obtain ⟨ha, hb, hT⟩ := hc
  obtain ⟨r1, t1, f1⟩ := cExS_ok hT ha.2 hb.2
  have tva := tv_32 _ (n20 ha.1)
  have tvb := tv_32 _ (n20 hb.1)
  have ea := cR_f (σ := σ) (p := 32) (t := a.toNatClampNeg) (f := 0) (n20 ha.1) (by decide)
  have eb := cR_f (σ := σ) (p := 32) (t := b.toNatClampNeg) (f := 0) (n20 hb.1) (by decide)
  have e7 := cR_f (σ := σ) (p := 32) (t := a.toNatClampNeg) (f := 7) (n20 ha.1) (by decide)
  have na := ha.1
  have nb := hb.1
  have c1 : isN (cExS σ 32 a.toNatClampNeg b.toNatClampNeg) 32 a := ⟨ha.1, by rw [r1, nM_rsw]; exact ha.2⟩
  have c2 : isN (cExS σ 32 a.toNatClampNeg b.toNatClampNeg) 32 b := ⟨hb.1, by rw [r1, nM_rsw]; exact hb.2⟩
  unfold fWhy fRise at hK
  rw [ea, eb, e7, ← r1] at hK
  refine w88_32 ?_
  rw [cExS_bk hT ha.2 hb.2]
  simp only [bI_0]
  grind
noncomputable def f88 : gD := fun Lv σ => match Lv with
  | [some (.ref p), some (.int a), some (.int b), some (.int x), none, none, none, none] => cond (Nat.beq p 6 || Nat.beq p 32) (some (some (isN σ p a ∧ isN σ p b ∧ TC σ p), some (.int (fWhy (cR σ p) a.toNatClampNeg b.toNatClampNeg x)), σ)) none
  | _ => none
theorem ok88 : gFok 88 f88 := by
  intro Lv σ q h hc K hK
  unfold f88 at h
  split at h
  · rename_i p a b x
    obtain ⟨hb, h⟩ := c_no h
    have hb0 := hb
    rcases s_or hb0 with hb0 | hb0
    · have e := b_eq hb0
      subst e
      cases h
      exact s88_6 (hc _ rfl) hK
    · have e := b_eq hb0
      subst e
      cases h
      exact s88_32 (hc _ rfl) hK
  · cases h
set_option maxRecDepth 20000 in
theorem w90_6 {σ : gS} {K : gK} {t x : Int32} (h : (0 ≤ σ 6 7 ∧ σ 6 7 ≤ 20) ∧ ((¬ (bI (fWho (cR σ 6) x = -2)) = 0 → (0 ≤ t ∧ t < 20) ∧ ((¬ (bI (fMay (cR σ 6) t.toNatClampNeg x)) = 0 → (((0 ≤ t ∧ t < 20) ∧ t.toNatClampNeg < nM (cR σ 6)) ∧ (0 ≤ x ∧ x < 40) ∧ TC σ 6) ∧ (((0 ≤ t ∧ t < 20) ∧ t.toNatClampNeg < nM (cR σ 6)) ∧ TC σ 6) ∧ ((¬ (fJoy (cR σ 6) t.toNatClampNeg x) < (fJo (cR σ 6) t.toNatClampNeg) → K (some (.int 0)) σ) ∧ ((fJoy (cR σ 6) t.toNatClampNeg x) < (fJo (cR σ 6) t.toNatClampNeg) → K (some (.int 6)) σ))) ∧ ((bI (fMay (cR σ 6) t.toNatClampNeg x)) = 0 → K (some (.int 1)) σ))) ∧ ((bI (fWho (cR σ 6) x = -2)) = 0 → K (some (.int 5)) σ))) : gE 90 0 [some (.ref 6), some (.int t), some (.int x)] [] σ K :=
  gw_run (cy := 90) (cuts := []) (inl := []) (pf := gpck) gpck_ok 400 (by decide) h
theorem s90_6 {σ : gS} {K : gK} {t x : Int32} (hc : isN σ 6 t ∧ (0 ≤ x ∧ x < 40) ∧ TC σ 6) (hK : K (some (.int (fWhyM (cR σ 6) t.toNatClampNeg x))) σ) : gE 90 0 [some (.ref 6), some (.int t), some (.int x)] [] σ K := by
  obtain ⟨ht, hx, hT⟩ := hc
  have h3 := hT.1
  have h7 : 0 ≤ σ 6 7 ∧ σ 6 7 ≤ 20 := by rw [← cR_3 σ 6]; exact h3
  have hw := fWho_c (cR σ 6) x h3
  unfold fWhyM at hK
  refine w90_6 ?_
  simp only [bI_0]
  grind
set_option maxRecDepth 20000 in
theorem w90_32 {σ : gS} {K : gK} {t x : Int32} (h : (0 ≤ σ 32 7 ∧ σ 32 7 ≤ 20) ∧ ((¬ (bI (fWho (cR σ 32) x = -2)) = 0 → (0 ≤ t ∧ t < 20) ∧ ((¬ (bI (fMay (cR σ 32) t.toNatClampNeg x)) = 0 → (((0 ≤ t ∧ t < 20) ∧ t.toNatClampNeg < nM (cR σ 32)) ∧ (0 ≤ x ∧ x < 40) ∧ TC σ 32) ∧ (((0 ≤ t ∧ t < 20) ∧ t.toNatClampNeg < nM (cR σ 32)) ∧ TC σ 32) ∧ ((¬ (fJoy (cR σ 32) t.toNatClampNeg x) < (fJo (cR σ 32) t.toNatClampNeg) → K (some (.int 0)) σ) ∧ ((fJoy (cR σ 32) t.toNatClampNeg x) < (fJo (cR σ 32) t.toNatClampNeg) → K (some (.int 6)) σ))) ∧ ((bI (fMay (cR σ 32) t.toNatClampNeg x)) = 0 → K (some (.int 1)) σ))) ∧ ((bI (fWho (cR σ 32) x = -2)) = 0 → K (some (.int 5)) σ))) : gE 90 0 [some (.ref 32), some (.int t), some (.int x)] [] σ K :=
  gw_run (cy := 90) (cuts := []) (inl := []) (pf := gpck) gpck_ok 400 (by decide) h
theorem s90_32 {σ : gS} {K : gK} {t x : Int32} (hc : isN σ 32 t ∧ (0 ≤ x ∧ x < 40) ∧ TC σ 32) (hK : K (some (.int (fWhyM (cR σ 32) t.toNatClampNeg x))) σ) : gE 90 0 [some (.ref 32), some (.int t), some (.int x)] [] σ K := by
  obtain ⟨ht, hx, hT⟩ := hc
  have h3 := hT.1
  have h7 : 0 ≤ σ 32 7 ∧ σ 32 7 ≤ 20 := by rw [← cR_3 σ 32]; exact h3
  have hw := fWho_c (cR σ 32) x h3
  unfold fWhyM at hK
  refine w90_32 ?_
  simp only [bI_0]
  grind
noncomputable def f90 : gD := fun Lv σ => match Lv with
  | [some (.ref p), some (.int t), some (.int x)] => cond (Nat.beq p 6 || Nat.beq p 32) (some (some (isN σ p t ∧ (0 ≤ x ∧ x < 40) ∧ TC σ p), some (.int (fWhyM (cR σ p) t.toNatClampNeg x)), σ)) none
  | _ => none
theorem ok90 : gFok 90 f90 := by
  intro Lv σ q h hc K hK
  unfold f90 at h
  split at h
  · rename_i p t x
    obtain ⟨hb, h⟩ := c_no h
    have hb0 := hb
    rcases s_or hb0 with hb0 | hb0
    · have e := b_eq hb0
      subst e
      cases h
      exact s90_6 (hc _ rfl) hK
    · have e := b_eq hb0
      subst e
      cases h
      exact s90_32 (hc _ rfl) hK
  · cases h
set_option maxRecDepth 20000 in
theorem w93_6_V {cExSV : gS → Nat → Nat → Nat → gS} {cPasV : gS → Nat → Nat → Nat → Nat → gS} (hp : gPok (gpckV cExSV cPasV)) {σ : gS} {K : gK} {a b c : Int32} (h : (((0 ≤ a ∧ a < 20) ∧ a.toNatClampNeg < nM (cR σ 6)) ∧ TC σ 6) ∧ (((0 ≤ b ∧ b < 20) ∧ b.toNatClampNeg < nM (cR σ 6)) ∧ TC σ 6) ∧ (((0 ≤ c ∧ c < 20) ∧ c.toNatClampNeg < nM (cR σ 6)) ∧ TC σ 6) ∧ ((0 ≤ a ∧ a < 20) ∧ (0 ≤ b ∧ b < 20) ∧ (0 ≤ c ∧ c < 20)) ∧ (((0 ≤ a ∧ a < 20) ∧ a.toNatClampNeg < nM (cR (cPasV σ 6 a.toNatClampNeg b.toNatClampNeg c.toNatClampNeg) 6)) ∧ TC (cPasV σ 6 a.toNatClampNeg b.toNatClampNeg c.toNatClampNeg) 6) ∧ (((0 ≤ b ∧ b < 20) ∧ b.toNatClampNeg < nM (cR (cPasV σ 6 a.toNatClampNeg b.toNatClampNeg c.toNatClampNeg) 6)) ∧ TC (cPasV σ 6 a.toNatClampNeg b.toNatClampNeg c.toNatClampNeg) 6) ∧ (((0 ≤ c ∧ c < 20) ∧ c.toNatClampNeg < nM (cR (cPasV σ 6 a.toNatClampNeg b.toNatClampNeg c.toNatClampNeg) 6)) ∧ TC (cPasV σ 6 a.toNatClampNeg b.toNatClampNeg c.toNatClampNeg) 6) ∧ ((0 ≤ c ∧ c < 20) ∧ (0 ≤ b ∧ b < 20) ∧ (0 ≤ a ∧ a < 20)) ∧ K (some (.int ((((fJo (cR (cPasV σ 6 a.toNatClampNeg b.toNatClampNeg c.toNatClampNeg) 6) a.toNatClampNeg) + (fJo (cR (cPasV σ 6 a.toNatClampNeg b.toNatClampNeg c.toNatClampNeg) 6) b.toNatClampNeg)) + (fJo (cR (cPasV σ 6 a.toNatClampNeg b.toNatClampNeg c.toNatClampNeg) 6) c.toNatClampNeg)) - (((fJo (cR σ 6) a.toNatClampNeg) + (fJo (cR σ 6) b.toNatClampNeg)) + (fJo (cR σ 6) c.toNatClampNeg))))) (cPasV (cPasV σ 6 a.toNatClampNeg b.toNatClampNeg c.toNatClampNeg) 6 c.toNatClampNeg b.toNatClampNeg a.toNatClampNeg)) : gE 93 0 [some (.ref 6), some (.int a), some (.int b), some (.int c), none, none] [] σ K :=
  gw_run (cy := 93) (cuts := []) (inl := []) (pf := gpckV cExSV cPasV) hp 400 (by decide) h
theorem w93_6 {σ : gS} {K : gK} {a b c : Int32} (h : (((0 ≤ a ∧ a < 20) ∧ a.toNatClampNeg < nM (cR σ 6)) ∧ TC σ 6) ∧ (((0 ≤ b ∧ b < 20) ∧ b.toNatClampNeg < nM (cR σ 6)) ∧ TC σ 6) ∧ (((0 ≤ c ∧ c < 20) ∧ c.toNatClampNeg < nM (cR σ 6)) ∧ TC σ 6) ∧ ((0 ≤ a ∧ a < 20) ∧ (0 ≤ b ∧ b < 20) ∧ (0 ≤ c ∧ c < 20)) ∧ (((0 ≤ a ∧ a < 20) ∧ a.toNatClampNeg < nM (cR (cPas σ 6 a.toNatClampNeg b.toNatClampNeg c.toNatClampNeg) 6)) ∧ TC (cPas σ 6 a.toNatClampNeg b.toNatClampNeg c.toNatClampNeg) 6) ∧ (((0 ≤ b ∧ b < 20) ∧ b.toNatClampNeg < nM (cR (cPas σ 6 a.toNatClampNeg b.toNatClampNeg c.toNatClampNeg) 6)) ∧ TC (cPas σ 6 a.toNatClampNeg b.toNatClampNeg c.toNatClampNeg) 6) ∧ (((0 ≤ c ∧ c < 20) ∧ c.toNatClampNeg < nM (cR (cPas σ 6 a.toNatClampNeg b.toNatClampNeg c.toNatClampNeg) 6)) ∧ TC (cPas σ 6 a.toNatClampNeg b.toNatClampNeg c.toNatClampNeg) 6) ∧ ((0 ≤ c ∧ c < 20) ∧ (0 ≤ b ∧ b < 20) ∧ (0 ≤ a ∧ a < 20)) ∧ K (some (.int ((((fJo (cR (cPas σ 6 a.toNatClampNeg b.toNatClampNeg c.toNatClampNeg) 6) a.toNatClampNeg) + (fJo (cR (cPas σ 6 a.toNatClampNeg b.toNatClampNeg c.toNatClampNeg) 6) b.toNatClampNeg)) + (fJo (cR (cPas σ 6 a.toNatClampNeg b.toNatClampNeg c.toNatClampNeg) 6) c.toNatClampNeg)) - (((fJo (cR σ 6) a.toNatClampNeg) + (fJo (cR σ 6) b.toNatClampNeg)) + (fJo (cR σ 6) c.toNatClampNeg))))) (cPas (cPas σ 6 a.toNatClampNeg b.toNatClampNeg c.toNatClampNeg) 6 c.toNatClampNeg b.toNatClampNeg a.toNatClampNeg)) : gE 93 0 [some (.ref 6), some (.int a), some (.int b), some (.int c), none, none] [] σ K :=
  w93_6_V (cExSV := cExS) (cPasV := cPas) gpck_ok h
theorem s93_6 {σ : gS} {K : gK} {a b c : Int32} (hc : (isN σ 6 a ∧ isN σ 6 b ∧ isN σ 6 c) ∧ (a.toNatClampNeg ≠ b.toNatClampNeg ∧ b.toNatClampNeg ≠ c.toNatClampNeg ∧ a.toNatClampNeg ≠ c.toNatClampNeg) ∧ TC σ 6) (hK : K (some (.int (fROR (cR σ 6) a.toNatClampNeg b.toNatClampNeg c.toNatClampNeg))) σ) : gE 93 0 [some (.ref 6), some (.int a), some (.int b), some (.int c), none, none] [] σ K := by
  obtain ⟨⟨ha, hb, hcc⟩, hd, hT⟩ := hc
  obtain ⟨r1, t1, f1⟩ := cPas_ok hT ha.2 hb.2 hcc.2 hd
  have c1 : isN (cPas σ 6 a.toNatClampNeg b.toNatClampNeg c.toNatClampNeg) 6 a := ⟨ha.1, by rw [r1, nM_rtu hd]; exact ha.2⟩
  have c2 : isN (cPas σ 6 a.toNatClampNeg b.toNatClampNeg c.toNatClampNeg) 6 b := ⟨hb.1, by rw [r1, nM_rtu hd]; exact hb.2⟩
  have c3 : isN (cPas σ 6 a.toNatClampNeg b.toNatClampNeg c.toNatClampNeg) 6 c := ⟨hcc.1, by rw [r1, nM_rtu hd]; exact hcc.2⟩
  refine w93_6 ⟨⟨ha, hT⟩, ⟨hb, hT⟩, ⟨hcc, hT⟩, ⟨ha.1, hb.1, hcc.1⟩, ⟨c1, t1⟩, ⟨c2, t1⟩, ⟨c3, t1⟩, ⟨hcc.1, hb.1, ha.1⟩, ?_⟩
  rw [cPas_bk hT ha.2 hb.2 hcc.2 hd, r1]
  have e : fROR (cR σ 6) a.toNatClampNeg b.toNatClampNeg c.toNatClampNeg = fJo (rtu (cR σ 6) a.toNatClampNeg b.toNatClampNeg c.toNatClampNeg) a.toNatClampNeg + fJo (rtu (cR σ 6) a.toNatClampNeg b.toNatClampNeg c.toNatClampNeg) b.toNatClampNeg + fJo (rtu (cR σ 6) a.toNatClampNeg b.toNatClampNeg c.toNatClampNeg) c.toNatClampNeg - (fJo (cR σ 6) a.toNatClampNeg + fJo (cR σ 6) b.toNatClampNeg + fJo (cR σ 6) c.toNatClampNeg) := by
    unfold fROR fRR
    grind
  rw [e] at hK
  exact hK
set_option maxRecDepth 20000 in
theorem w93_32_V {cExSV : gS → Nat → Nat → Nat → gS} {cPasV : gS → Nat → Nat → Nat → Nat → gS} (hp : gPok (gpckV cExSV cPasV)) {σ : gS} {K : gK} {a b c : Int32} (h : (((0 ≤ a ∧ a < 20) ∧ a.toNatClampNeg < nM (cR σ 32)) ∧ TC σ 32) ∧ (((0 ≤ b ∧ b < 20) ∧ b.toNatClampNeg < nM (cR σ 32)) ∧ TC σ 32) ∧ (((0 ≤ c ∧ c < 20) ∧ c.toNatClampNeg < nM (cR σ 32)) ∧ TC σ 32) ∧ ((0 ≤ a ∧ a < 20) ∧ (0 ≤ b ∧ b < 20) ∧ (0 ≤ c ∧ c < 20)) ∧ (((0 ≤ a ∧ a < 20) ∧ a.toNatClampNeg < nM (cR (cPasV σ 32 a.toNatClampNeg b.toNatClampNeg c.toNatClampNeg) 32)) ∧ TC (cPasV σ 32 a.toNatClampNeg b.toNatClampNeg c.toNatClampNeg) 32) ∧ (((0 ≤ b ∧ b < 20) ∧ b.toNatClampNeg < nM (cR (cPasV σ 32 a.toNatClampNeg b.toNatClampNeg c.toNatClampNeg) 32)) ∧ TC (cPasV σ 32 a.toNatClampNeg b.toNatClampNeg c.toNatClampNeg) 32) ∧ (((0 ≤ c ∧ c < 20) ∧ c.toNatClampNeg < nM (cR (cPasV σ 32 a.toNatClampNeg b.toNatClampNeg c.toNatClampNeg) 32)) ∧ TC (cPasV σ 32 a.toNatClampNeg b.toNatClampNeg c.toNatClampNeg) 32) ∧ ((0 ≤ c ∧ c < 20) ∧ (0 ≤ b ∧ b < 20) ∧ (0 ≤ a ∧ a < 20)) ∧ K (some (.int ((((fJo (cR (cPasV σ 32 a.toNatClampNeg b.toNatClampNeg c.toNatClampNeg) 32) a.toNatClampNeg) + (fJo (cR (cPasV σ 32 a.toNatClampNeg b.toNatClampNeg c.toNatClampNeg) 32) b.toNatClampNeg)) + (fJo (cR (cPasV σ 32 a.toNatClampNeg b.toNatClampNeg c.toNatClampNeg) 32) c.toNatClampNeg)) - (((fJo (cR σ 32) a.toNatClampNeg) + (fJo (cR σ 32) b.toNatClampNeg)) + (fJo (cR σ 32) c.toNatClampNeg))))) (cPasV (cPasV σ 32 a.toNatClampNeg b.toNatClampNeg c.toNatClampNeg) 32 c.toNatClampNeg b.toNatClampNeg a.toNatClampNeg)) : gE 93 0 [some (.ref 32), some (.int a), some (.int b), some (.int c), none, none] [] σ K :=
  gw_run (cy := 93) (cuts := []) (inl := []) (pf := gpckV cExSV cPasV) hp 400 (by decide) h
theorem w93_32 {σ : gS} {K : gK} {a b c : Int32} (h : (((0 ≤ a ∧ a < 20) ∧ a.toNatClampNeg < nM (cR σ 32)) ∧ TC σ 32) ∧ (((0 ≤ b ∧ b < 20) ∧ b.toNatClampNeg < nM (cR σ 32)) ∧ TC σ 32) ∧ (((0 ≤ c ∧ c < 20) ∧ c.toNatClampNeg < nM (cR σ 32)) ∧ TC σ 32) ∧ ((0 ≤ a ∧ a < 20) ∧ (0 ≤ b ∧ b < 20) ∧ (0 ≤ c ∧ c < 20)) ∧ (((0 ≤ a ∧ a < 20) ∧ a.toNatClampNeg < nM (cR (cPas σ 32 a.toNatClampNeg b.toNatClampNeg c.toNatClampNeg) 32)) ∧ TC (cPas σ 32 a.toNatClampNeg b.toNatClampNeg c.toNatClampNeg) 32) ∧ (((0 ≤ b ∧ b < 20) ∧ b.toNatClampNeg < nM (cR (cPas σ 32 a.toNatClampNeg b.toNatClampNeg c.toNatClampNeg) 32)) ∧ TC (cPas σ 32 a.toNatClampNeg b.toNatClampNeg c.toNatClampNeg) 32) ∧ (((0 ≤ c ∧ c < 20) ∧ c.toNatClampNeg < nM (cR (cPas σ 32 a.toNatClampNeg b.toNatClampNeg c.toNatClampNeg) 32)) ∧ TC (cPas σ 32 a.toNatClampNeg b.toNatClampNeg c.toNatClampNeg) 32) ∧ ((0 ≤ c ∧ c < 20) ∧ (0 ≤ b ∧ b < 20) ∧ (0 ≤ a ∧ a < 20)) ∧ K (some (.int ((((fJo (cR (cPas σ 32 a.toNatClampNeg b.toNatClampNeg c.toNatClampNeg) 32) a.toNatClampNeg) + (fJo (cR (cPas σ 32 a.toNatClampNeg b.toNatClampNeg c.toNatClampNeg) 32) b.toNatClampNeg)) + (fJo (cR (cPas σ 32 a.toNatClampNeg b.toNatClampNeg c.toNatClampNeg) 32) c.toNatClampNeg)) - (((fJo (cR σ 32) a.toNatClampNeg) + (fJo (cR σ 32) b.toNatClampNeg)) + (fJo (cR σ 32) c.toNatClampNeg))))) (cPas (cPas σ 32 a.toNatClampNeg b.toNatClampNeg c.toNatClampNeg) 32 c.toNatClampNeg b.toNatClampNeg a.toNatClampNeg)) : gE 93 0 [some (.ref 32), some (.int a), some (.int b), some (.int c), none, none] [] σ K :=
  w93_32_V (cExSV := cExS) (cPasV := cPas) gpck_ok h
theorem s93_32 {σ : gS} {K : gK} {a b c : Int32} (hc : (isN σ 32 a ∧ isN σ 32 b ∧ isN σ 32 c) ∧ (a.toNatClampNeg ≠ b.toNatClampNeg ∧ b.toNatClampNeg ≠ c.toNatClampNeg ∧ a.toNatClampNeg ≠ c.toNatClampNeg) ∧ TC σ 32) (hK : K (some (.int (fROR (cR σ 32) a.toNatClampNeg b.toNatClampNeg c.toNatClampNeg))) σ) : gE 93 0 [some (.ref 32), some (.int a), some (.int b), some (.int c), none, none] [] σ K := by
  obtain ⟨⟨ha, hb, hcc⟩, hd, hT⟩ := hc
  obtain ⟨r1, t1, f1⟩ := cPas_ok hT ha.2 hb.2 hcc.2 hd
  have c1 : isN (cPas σ 32 a.toNatClampNeg b.toNatClampNeg c.toNatClampNeg) 32 a := ⟨ha.1, by rw [r1, nM_rtu hd]; exact ha.2⟩
  have c2 : isN (cPas σ 32 a.toNatClampNeg b.toNatClampNeg c.toNatClampNeg) 32 b := ⟨hb.1, by rw [r1, nM_rtu hd]; exact hb.2⟩
  have c3 : isN (cPas σ 32 a.toNatClampNeg b.toNatClampNeg c.toNatClampNeg) 32 c := ⟨hcc.1, by rw [r1, nM_rtu hd]; exact hcc.2⟩
  refine w93_32 ⟨⟨ha, hT⟩, ⟨hb, hT⟩, ⟨hcc, hT⟩, ⟨ha.1, hb.1, hcc.1⟩, ⟨c1, t1⟩, ⟨c2, t1⟩, ⟨c3, t1⟩, ⟨hcc.1, hb.1, ha.1⟩, ?_⟩
  rw [cPas_bk hT ha.2 hb.2 hcc.2 hd, r1]
  have e : fROR (cR σ 32) a.toNatClampNeg b.toNatClampNeg c.toNatClampNeg = fJo (rtu (cR σ 32) a.toNatClampNeg b.toNatClampNeg c.toNatClampNeg) a.toNatClampNeg + fJo (rtu (cR σ 32) a.toNatClampNeg b.toNatClampNeg c.toNatClampNeg) b.toNatClampNeg + fJo (rtu (cR σ 32) a.toNatClampNeg b.toNatClampNeg c.toNatClampNeg) c.toNatClampNeg - (fJo (cR σ 32) a.toNatClampNeg + fJo (cR σ 32) b.toNatClampNeg + fJo (cR σ 32) c.toNatClampNeg) := by
    unfold fROR fRR
    grind
  rw [e] at hK
  exact hK
noncomputable def f93 : gD := fun Lv σ => match Lv with
  | [some (.ref p), some (.int a), some (.int b), some (.int c), none, none] => cond (Nat.beq p 6 || Nat.beq p 32) (some (some ((isN σ p a ∧ isN σ p b ∧ isN σ p c) ∧ (a.toNatClampNeg ≠ b.toNatClampNeg ∧ b.toNatClampNeg ≠ c.toNatClampNeg ∧ a.toNatClampNeg ≠ c.toNatClampNeg) ∧ TC σ p), some (.int (fROR (cR σ p) a.toNatClampNeg b.toNatClampNeg c.toNatClampNeg)), σ)) none
  | _ => none
theorem ok93 : gFok 93 f93 := by
  intro Lv σ q h hc K hK
  unfold f93 at h
  split at h
  · rename_i p a b c
    obtain ⟨hb, h⟩ := c_no h
    have hb0 := hb
    rcases s_or hb0 with hb0 | hb0
    · have e := b_eq hb0
      subst e
      cases h
      exact s93_6 (hc _ rfl) hK
    · have e := b_eq hb0
      subst e
      cases h
      exact s93_32 (hc _ rfl) hK
  · cases h
end
section
-- text 27
/-! ROWS THAT AGREE in what counts -/
/-- the same numbers, and the same travellers but for names -/
def agr (R S : gW) : Prop := (∀ j, j < 9 → R j = S j) ∧ ∀ t, t < nM R → ∀ f, f < 9 → fld R t f = fld S t f
theorem agr_n {R S : gW} (h : agr R S) : nM R = nM S := by unfold nM; rw [h.1 3 (by decide)]
theorem agr_refl (R : gW) : agr R R := ⟨fun _ _ => rfl, fun _ _ _ _ => rfl⟩
theorem agr_symm {R S : gW} (h : agr R S) : agr S R := ⟨fun j hj => (h.1 j hj).symm, fun t ht f hf => (h.2 t (by rw [agr_n h]; exact ht) f hf).symm⟩
theorem agr_trans {R S T : gW} (h : agr R S) (h2 : agr S T) : agr R T := ⟨fun j hj => (h.1 j hj).trans (h2.1 j hj), fun t ht f hf => (h.2 t ht f hf).trans (h2.2 t (by rw [← agr_n h]; exact ht) f hf)⟩
theorem agr_Who {R S : gW} (h : agr R S) (x : Int32) : fWho R x = fWho S x := by
  unfold fWho
  rw [← agr_n h]
  exact fnd_congr (fun j hj => by rw [h.2 j hj 0 (by decide)])
theorem agr_kin {R S : gW} (h : agr R S) {t : Nat} (ht : t < nM R) (b : Int32) : kin R t b = kin S t b := by
  unfold kin
  rw [← agr_n h]
  congr 1
  refine cnt_congr (fun j hj => ?_)
  unfold kinP
  rw [h.2 j hj 0 (by decide), h.2 j hj 2 (by decide), h.2 t ht 2 (by decide)]
theorem agr_Joy {R S : gW} (h : agr R S) {t : Nat} (ht : t < nM R) (x : Int32) : fJoy R t x = fJoy S t x := by
  unfold fJoy
  rw [agr_kin h ht, h.2 t ht 3 (by decide), h.2 t ht 4 (by decide), h.2 t ht 5 (by decide), h.2 t ht 6 (by decide)]
theorem agr_Jo {R S : gW} (h : agr R S) {t : Nat} (ht : t < nM R) : fJo R t = fJo S t := by
  unfold fJo
  rw [agr_Joy h ht, h.2 t ht 0 (by decide)]
theorem agr_Ja {R S : gW} (h : agr R S) : fJa R = fJa S := by
  unfold fJa
  rw [← agr_n h]
  exact sm_congr (fun j hj => agr_Jo h hj)
theorem agr_Gr {R S : gW} (h : agr R S) : fGr R = fGr S := by
  unfold fGr
  rw [← agr_n h]
  congr 1
  exact cnt_congr (fun j hj => by rw [agr_Jo h hj])
theorem agr_Bar {R S : gW} (h : agr R S) (f : Int32) : fBar R f = fBar S f := by
  unfold fBar
  rw [← agr_n h]
  congr 1
  exact cnt_congr (fun j hj => by rw [h.2 j hj 1 (by decide), h.2 j hj 0 (by decide)])
theorem agr_May {R S : gW} (h : agr R S) {t : Nat} (ht : t < nM R) (x : Int32) : fMay R t x ↔ fMay S t x := by
  unfold fMay
  rw [h.2 t ht 1 (by decide), h.1 1 (by decide)]
theorem fld_rsw (R : gW) (a b t f : Nat) (hf : f < 10) : fld (rsw R a b) t f = if f = 0 then (if t = b then fld R a 0 else if t = a then fld R b 0 else fld R t 0) else fld R t f := by
  unfold fld
  rw [rsw_eq]
  by_cases h0 : f = 0
  · subst h0
    rw [if_pos rfl]
    by_cases hb : t = b
    · rw [if_pos hb, if_pos (by omega)]; rfl
    · rw [if_neg hb, if_neg (by omega)]
      by_cases ha : t = a
      · rw [if_pos ha, if_pos (by omega)]; rfl
      · rw [if_neg ha, if_neg (by omega)]
  · rw [if_neg h0, if_neg (by omega), if_neg (by omega)]
theorem agr_rsw {R S : gW} (h : agr R S) {a b : Nat} (ha : a < nM R) (hb : b < nM R) : agr (rsw R a b) (rsw S a b) := by
  refine ⟨fun j hj => ?_, fun t ht f hf => ?_⟩
  · rw [rsw_eq, rsw_eq, if_neg (by omega), if_neg (by omega), if_neg (by omega), if_neg (by omega)]
    exact h.1 j hj
  · rw [nM_rsw] at ht
    rw [fld_rsw _ _ _ _ _ (by omega), fld_rsw _ _ _ _ _ (by omega), h.2 a ha 0 (by decide), h.2 b hb 0 (by decide), h.2 t ht 0 (by decide), h.2 t ht f hf]
theorem fld_rtu {R : gW} {a b c : Nat} (hd : a ≠ b ∧ b ≠ c ∧ a ≠ c) (t f : Nat) (hf : f < 10) : fld (rtu R a b c) t f = if f = 0 then (if t = c then fld R a 0 else if t = b then fld R c 0 else if t = a then fld R b 0 else fld R t 0) else fld R t f := by
  unfold fld
  rw [rtu_eq hd]
  by_cases h0 : f = 0
  · subst h0
    rw [if_pos rfl]
    by_cases hc : t = c
    · rw [if_pos hc, if_pos (by omega)]; rfl
    · rw [if_neg hc, if_neg (by omega)]
      by_cases hb : t = b
      · rw [if_pos hb, if_pos (by omega)]; rfl
      · rw [if_neg hb, if_neg (by omega)]
        by_cases ha : t = a
        · rw [if_pos ha, if_pos (by omega)]; rfl
        · rw [if_neg ha, if_neg (by omega)]
  · rw [if_neg h0, if_neg (by omega), if_neg (by omega), if_neg (by omega)]
theorem agr_rtu {R S : gW} (h : agr R S) {a b c : Nat} (ha : a < nM R) (hb : b < nM R) (hc : c < nM R) (hd : a ≠ b ∧ b ≠ c ∧ a ≠ c) : agr (rtu R a b c) (rtu S a b c) := by
  refine ⟨fun j hj => ?_, fun t ht f hf => ?_⟩
  · rw [rtu_eq hd, rtu_eq hd, if_neg (by omega), if_neg (by omega), if_neg (by omega), if_neg (by omega), if_neg (by omega), if_neg (by omega)]
    exact h.1 j hj
  · rw [nM_rtu hd] at ht
    rw [fld_rtu hd _ _ (by omega), fld_rtu hd _ _ (by omega), h.2 a ha 0 (by decide), h.2 b hb 0 (by decide), h.2 c hc 0 (by decide), h.2 t ht 0 (by decide), h.2 t ht f hf]
theorem agr_Rise {R S : gW} (h : agr R S) {a b w : Nat} (ha : a < nM R) (hb : b < nM R) (hw : w < nM R) : fRise R a b w = fRise S a b w := by
  unfold fRise
  rw [agr_Jo (agr_rsw h ha hb) (by rw [nM_rsw]; exact hw), agr_Jo h hw]
theorem agr_RA {R S : gW} (h : agr R S) {a b : Nat} (ha : a < nM R) (hb : b < nM R) : fRA R a b = fRA S a b := by
  unfold fRA
  rw [agr_Ja (agr_rsw h ha hb), agr_Ja h]
theorem agr_Why {R S : gW} (h : agr R S) {a b : Nat} (ha : a < nM R) (hb : b < nM R) (x : Int32) : fWhy R a b x = fWhy S a b x := by
  unfold fWhy
  rw [agr_Rise h ha hb ha, agr_Rise h ha hb hb, h.2 a ha 0 (by decide), h.2 b hb 0 (by decide), h.2 a ha 7 (by decide)]
  simp only [agr_May h ha, agr_May h hb]
theorem agr_WhyM {R S : gW} (h : agr R S) {t : Nat} (ht : t < nM R) (x : Int32) : fWhyM R t x = fWhyM S t x := by
  unfold fWhyM
  rw [agr_Who h, agr_Joy h ht, agr_Jo h ht]
  simp only [agr_May h ht]
theorem agr_RR {R S : gW} (h : agr R S) {a b c w : Nat} (ha : a < nM R) (hb : b < nM R) (hc : c < nM R) (hd : a ≠ b ∧ b ≠ c ∧ a ≠ c) (hw : w < nM R) : fRR R a b c w = fRR S a b c w := by
  unfold fRR
  rw [agr_Jo (agr_rtu h ha hb hc hd) (by rw [nM_rtu hd]; exact hw), agr_Jo h hw]
theorem agr_ROR {R S : gW} (h : agr R S) {a b c : Nat} (ha : a < nM R) (hb : b < nM R) (hc : c < nM R) (hd : a ≠ b ∧ b ≠ c ∧ a ≠ c) : fROR R a b c = fROR S a b c := by
  unfold fROR
  rw [agr_RR h ha hb hc hd ha, agr_RR h ha hb hc hd hb, agr_RR h ha hb hc hd hc]
theorem agr_WhyR {R S : gW} (h : agr R S) {a b c : Nat} (ha : a < nM R) (hb : b < nM R) (hc : c < nM R) (hd : a ≠ b ∧ b ≠ c ∧ a ≠ c) : fWhyR R a b c = fWhyR S a b c := by
  unfold fWhyR
  rw [agr_RR h ha hb hc hd ha, agr_RR h ha hb hc hd hb, agr_RR h ha hb hc hd hc, h.2 a ha 0 (by decide), h.2 b hb 0 (by decide), h.2 c hc 0 (by decide)]
  simp only [agr_May h ha, agr_May h hb, agr_May h hc]
theorem nfold_congr {α : Type} {f g : Nat → α → α} {s : α} : ∀ {n : Nat}, (∀ k s, k < n → f k s = g k s) → nfold f n s = nfold g n s
  | 0, _ => rfl
  | n + 1, h => by
    show f n (nfold f n s) = g n (nfold g n s)
    rw [nfold_congr (fun k s hk => h k s (by omega)), h n _ (by omega)]
theorem agr_Best {R S : gW} (h : agr R S) : fBest R = fBest S := by
  unfold fBest
  rw [← agr_n h]
  congr 1
  refine nfold_congr (fun a s ha => ?_)
  unfold bsR
  rw [← agr_n h]
  refine nfold_congr (fun b s hb => ?_)
  unfold bsS
  rw [agr_Why h ha hb, agr_RA h ha hb]
theorem agr_St : ∀ {d : Nat} {R S : gW}, (0 ≤ R 3 ∧ R 3 ≤ 20) → agr R S → (fSt d R).1 = (fSt d S).1 ∧ agr (fSt d R).2 (fSt d S).2
  | 0, R, S, _, h => ⟨rfl, h⟩
  | d + 1, R, S, hR, h => by
    by_cases hb : fBest R < 0
    · rw [fSt_lt hb, fSt_lt (by rw [← agr_Best h]; exact hb)]
      exact ⟨rfl, h⟩
    · rw [fSt_ge hb, fSt_ge (by rw [← agr_Best h]; exact hb)]
      have hn := (nM_of hR).2
      have h2 : agr (fNx R) (fNx S) := by
        rcases fBest_of R with q | ⟨a, b, ha, hb2, q⟩
        · rw [q] at hb; exact absurd (by decide) hb
        · obtain ⟨d1, d2, -⟩ := dm100 a (by omega) b (by omega)
          have x1 : fNx S = rsw S a b := by
            unfold fNx
            rw [← agr_Best h, q, d2, d1, iN_nat (by omega), iN_nat (by omega)]
          have x2 : fNx R = rsw R a b := by
            unfold fNx
            rw [q, d2, d1, iN_nat (by omega), iN_nat (by omega)]
          rw [x1, x2]
          exact agr_rsw h ha hb2
      obtain ⟨i1, i2⟩ := agr_St (d := d) (by rw [fNx_3]; exact hR) h2
      exact ⟨by show _ + 1 = _ + 1; rw [i1], i2⟩
-- text 28
/-! THE CLASS: the log, copies -/
noncomputable def gpcl_l : List (Nat × gD) := (86, f86) :: (87, f87) :: (88, f88) :: (90, f90) :: (93, f93) :: gpck_l
noncomputable def gpcl : gP := gpl0 gpcl_l
theorem gpcl_ok : gPok gpcl := gpl0_cons ok86 (gpl0_cons ok87 (gpl0_cons ok88 (gpl0_cons ok90 (gpl0_cons ok93 (gpck_ok)))))
theorem xor_40 : ∀ k, k < 100 → ¬ (iN k ^^^ 40) < 0 ∧ ¬ (iN k ^^^ 8) < 0 := by decide +kernel
theorem l100 {x : Int32} (h : 0 ≤ x ∧ x < 100) : x = iN x.toNatClampNeg ∧ x.toNatClampNeg < 100 := by
  obtain ⟨e, l⟩ := iN_of h.1
  refine ⟨e, ?_⟩
  have h2 := h.2
  rw [e] at h2
  exact (iN_lt (m := 100) l (by decide)).mp h2
set_option maxRecDepth 20000 in
theorem w269 {σ : gS} {K : gK} {x m : Int32} (h : m ≠ 0 ∧ ((¬ (x ^^^ m) < 0 → K (some (.int (x - x / m * m))) σ) ∧ ((x ^^^ m) < 0 → (((x - x / m * m) = 0 → K (some (.int (x - x / m * m))) σ) ∧ (¬ (x - x / m * m) = 0 → K (some (.int ((x - x / m * m) + m))) σ))))) : gE 269 0 [some (.int x), some (.int m), none] [] σ K :=
  gw_run (cy := 269) (cuts := []) (inl := []) (pf := gpcl) gpcl_ok 400 (by decide) h
theorem s269 {σ : gS} {K : gK} {x m : Int32} (hc : (0 ≤ x ∧ x < 100) ∧ (m = 40 ∨ m = 8)) (hK : K (some (.int (x - x / m * m))) σ) : gE 269 0 [some (.int x), some (.int m), none] [] σ K := by
  obtain ⟨hx, hm⟩ := hc
  obtain ⟨e, l⟩ := l100 hx
  obtain ⟨x1, x2⟩ := xor_40 _ l
  rw [← e] at x1 x2
  refine w269 ⟨?_, fun _ => hK, fun h => ?_⟩
  · rcases hm with rfl | rfl <;> decide
  · rcases hm with rfl | rfl
    · exact absurd h x1
    · exact absurd h x2
noncomputable def f269 : gD := fun Lv σ => match Lv with
  | [some (.int x), some (.int m), none] => some (some ((0 ≤ x ∧ x < 100) ∧ (m = 40 ∨ m = 8)), some (.int (x - x / m * m)), σ)
  | _ => none
theorem ok269 : gFok 269 f269 := by
  intro Lv σ q h hc K hK
  unfold f269 at h
  split at h
  · rename_i x m
    cases h
    exact s269 (hc _ rfl) hK
  · cases h
noncomputable def gpcm_l : List (Nat × gD) := (269, f269) :: gpcl_l
noncomputable def gpcm : gP := gpl0 gpcm_l
theorem gpcm_ok : gPok gpcm := gpl0_cons ok269 (gpcl_ok)
set_option maxRecDepth 20000 in
theorem w3 {σ : gS} {K : gK} {i w : Int32} (h : ((0 ≤ ((σ 30 1) + i) ∧ ((σ 30 1) + i) < 100) ∧ ((40 : Int32) = 40 ∨ (40 : Int32) = 8)) ∧ K (some (.int (((((σ 30 1) + i) - ((σ 30 1) + i) / (40 : Int32) * (40 : Int32)) * 3) + w))) σ) : gE 3 0 [some (.ref 30), some (.int i), some (.int w)] [] σ K :=
  gw_run (cy := 3) (cuts := []) (inl := []) (pf := gpcm) gpcm_ok 400 (by decide) h
theorem s3 {σ : gS} {K : gK} {i w : Int32} (hc : 0 ≤ σ 30 1 + i ∧ σ 30 1 + i < 100) (hK : K (some (.int (((σ 30 1 + i) - (σ 30 1 + i) / 40 * 40) * 3 + w))) σ) : gE 3 0 [some (.ref 30), some (.int i), some (.int w)] [] σ K := by
  exact w3 ⟨⟨hc, Or.inl rfl⟩, hK⟩
noncomputable def f3 : gD := fun Lv σ => match Lv with
  | [some (.ref q0), some (.int i), some (.int w)] => cond (Nat.beq q0 30) (some (some (0 ≤ σ 30 1 + i ∧ σ 30 1 + i < 100), some (.int (((σ 30 1 + i) - (σ 30 1 + i) / 40 * 40) * 3 + w)), σ)) none
  | _ => none
theorem ok3 : gFok 3 f3 := by
  intro Lv σ q h hc K hK
  unfold f3 at h
  split at h
  · rename_i q0 i w
    obtain ⟨hb, h⟩ := c_no h
    have hb0 := hb
    have e0 := b_eq hb0
    subst e0
    cases h
    exact s3 (hc _ rfl) hK
  · cases h
set_option maxRecDepth 20000 in
theorem w4 {σ : gS} {K : gK} {i w : Int32} (h : ((i < 0 → K none σ) ∧ (¬ i < 0 → ((¬ i < 120 → K none σ) ∧ (i < 120 → (0 ≤ i ∧ i < 120) ∧ K none (gup σ 31 i.toNatClampNeg w)))))) : gE 4 0 [some (.ref 30), some (.int i), some (.int w)] [] σ K :=
  gw_run (cy := 4) (cuts := []) (inl := []) (pf := gpcm) gpcm_ok 400 (by decide) h
theorem s4 {σ : gS} {K : gK} {i w : Int32} (hc : 0 ≤ i ∧ i < 120) (hK : K none (gup σ 31 i.toNatClampNeg w)) : gE 4 0 [some (.ref 30), some (.int i), some (.int w)] [] σ K := by
  refine w4 ?_
  grind
noncomputable def f4 : gD := fun Lv σ => match Lv with
  | [some (.ref q0), some (.int i), some (.int w)] => cond (Nat.beq q0 30) (some (some (0 ≤ i ∧ i < 120), none, gup σ 31 i.toNatClampNeg w)) none
  | _ => none
theorem ok4 : gFok 4 f4 := by
  intro Lv σ q h hc K hK
  unfold f4 at h
  split at h
  · rename_i q0 i w
    obtain ⟨hb, h⟩ := c_no h
    have hb0 := hb
    have e0 := b_eq hb0
    subst e0
    cases h
    exact s4 (hc _ rfl) hK
  · cases h
noncomputable def gpcn_l : List (Nat × gD) := (3, f3) :: (4, f4) :: gpcm_l
noncomputable def gpcn : gP := gpl0 gpcn_l
theorem gpcn_ok : gPok gpcn := gpl0_cons ok3 (gpl0_cons ok4 (gpcm_ok))
/-- the place of the entry that comes next -/
def cNx (σ : gS) : Nat := 3 * (((σ 30 1).toNatClampNeg + (σ 30 2).toNatClampNeg) % 40)
def cAd3 (σ : gS) (w a b : Int32) : gS := gup (gup (gup σ 31 (cNx σ) w) 31 (cNx σ + 1) a) 31 (cNx σ + 2) b
def cAdd (σ : gS) (w a b : Int32) : gS := if σ 30 2 < 40 then gup (cAd3 σ w a b) 30 2 (σ 30 2 + 1) else gup (cAd3 σ w a b) 30 1 (iN (((σ 30 1).toNatClampNeg + 1) % 40))
abbrev bLg (σ : gS) (l : Nat) : Prop := (0 ≤ σ l 1 ∧ σ l 1 < 40) ∧ (0 ≤ σ l 2 ∧ σ l 2 ≤ 40)
theorem l40 {x : Int32} (h : 0 ≤ x ∧ x ≤ 40) : x = iN x.toNatClampNeg ∧ x.toNatClampNeg ≤ 40 := by
  obtain ⟨e, l⟩ := iN_of h.1
  refine ⟨e, ?_⟩
  have h2 := h.2
  rw [e] at h2
  exact (iN_le (m := 40) l (by decide)).mp h2
theorem lg_i {o s c : Nat} (ho : o < 40) (hs : s ≤ 40) (hc : c < 3) : ((iN o + iN s) - (iN o + iN s) / 40 * 40) * 3 + iN c = iN (3 * ((o + s) % 40) + c) ∧ (0 ≤ iN (3 * ((o + s) % 40) + c) ∧ iN (3 * ((o + s) % 40) + c) < 120) ∧ (0 ≤ iN o + iN s ∧ iN o + iN s < 100) := by
  have e1 : (iN o + iN s) - (iN o + iN s) / 40 * 40 = iN ((o + s) % 40) := by
    rw [iN_add]
    exact iN_mod (d := 40) (by omega) (by decide)
  have e2 : iN ((o + s) % 40) * 3 + iN c = iN (3 * ((o + s) % 40) + c) := by
    show iN ((o + s) % 40) * iN 3 + iN c = _
    rw [iN_mul, iN_add, Nat.mul_comm]
  have hm : (o + s) % 40 < 40 := Nat.mod_lt _ (by decide)
  rw [e1, e2]
  refine ⟨rfl, ⟨(iN_le (k := 0) (by decide) (by omega)).mpr (by omega), (iN_lt (m := 120) (by omega) (by decide)).mpr (by omega)⟩, ?_⟩
  rw [iN_add]
  exact ⟨(iN_le (k := 0) (by decide) (by omega)).mpr (by omega), (iN_lt (m := 100) (by omega) (by decide)).mpr (by omega)⟩
set_option maxRecDepth 20000 in
theorem w5 {σ : gS} {K : gK} {w a b : Int32} (h : (0 ≤ σ 30 1 + (σ 30 2) ∧ σ 30 1 + (σ 30 2) < 100) ∧ (0 ≤ (((σ 30 1 + (σ 30 2)) - (σ 30 1 + (σ 30 2)) / 40 * 40) * 3 + (0 : Int32)) ∧ (((σ 30 1 + (σ 30 2)) - (σ 30 1 + (σ 30 2)) / 40 * 40) * 3 + (0 : Int32)) < 120) ∧ gE 5 14 [some (.ref 30), some (.int w), some (.int a), some (.int b)] [] (gup σ 31 (((σ 30 1 + (σ 30 2)) - (σ 30 1 + (σ 30 2)) / 40 * 40) * 3 + (0 : Int32)).toNatClampNeg w) K) : gE 5 0 [some (.ref 30), some (.int w), some (.int a), some (.int b)] [] σ K :=
  gw_run (cy := 5) (cuts := [14, 28, 42]) (inl := []) (pf := gpcn) gpcn_ok 400 (by decide) h
set_option maxRecDepth 20000 in
theorem c5_14 {σ : gS} {K : gK} {l1 l2 l3 : Int32} (h : (0 ≤ σ 30 1 + (σ 30 2) ∧ σ 30 1 + (σ 30 2) < 100) ∧ (0 ≤ (((σ 30 1 + (σ 30 2)) - (σ 30 1 + (σ 30 2)) / 40 * 40) * 3 + (1 : Int32)) ∧ (((σ 30 1 + (σ 30 2)) - (σ 30 1 + (σ 30 2)) / 40 * 40) * 3 + (1 : Int32)) < 120) ∧ gE 5 28 [some (.ref 30), some (.int l1), some (.int l2), some (.int l3)] [] (gup σ 31 (((σ 30 1 + (σ 30 2)) - (σ 30 1 + (σ 30 2)) / 40 * 40) * 3 + (1 : Int32)).toNatClampNeg l2) K) : gE 5 14 [some (.ref 30), some (.int l1), some (.int l2), some (.int l3)] [] σ K :=
  gw_run (cy := 5) (cuts := [14, 28, 42]) (inl := []) (pf := gpcn) gpcn_ok 400 (by decide) h
set_option maxRecDepth 20000 in
theorem c5_28 {σ : gS} {K : gK} {l1 l2 l3 : Int32} (h : (0 ≤ σ 30 1 + (σ 30 2) ∧ σ 30 1 + (σ 30 2) < 100) ∧ (0 ≤ (((σ 30 1 + (σ 30 2)) - (σ 30 1 + (σ 30 2)) / 40 * 40) * 3 + (2 : Int32)) ∧ (((σ 30 1 + (σ 30 2)) - (σ 30 1 + (σ 30 2)) / 40 * 40) * 3 + (2 : Int32)) < 120) ∧ gE 5 42 [some (.ref 30), some (.int l1), some (.int l2), some (.int l3)] [] (gup σ 31 (((σ 30 1 + (σ 30 2)) - (σ 30 1 + (σ 30 2)) / 40 * 40) * 3 + (2 : Int32)).toNatClampNeg l3) K) : gE 5 28 [some (.ref 30), some (.int l1), some (.int l2), some (.int l3)] [] σ K :=
  gw_run (cy := 5) (cuts := [14, 28, 42]) (inl := []) (pf := gpcn) gpcn_ok 400 (by decide) h
set_option maxRecDepth 20000 in
theorem c5_42 {σ : gS} {K : gK} {l1 l2 l3 : Int32} (h : ((¬ (σ 30 2) < 40 → (40 : Int32) ≠ 0 ∧ K none (gup σ 30 1 (((σ 30 1) + 1) - ((σ 30 1) + 1) / 40 * 40))) ∧ ((σ 30 2) < 40 → K none (gup σ 30 2 ((σ 30 2) + 1))))) : gE 5 42 [some (.ref 30), some (.int l1), some (.int l2), some (.int l3)] [] σ K :=
  gw_run (cy := 5) (cuts := [14, 28, 42]) (inl := []) (pf := gpcn) gpcn_ok 400 (by decide) h
theorem s5 {σ : gS} {K : gK} {w a b : Int32} (hc : bLg σ 30) (hK : K none (cAdd σ w a b)) : gE 5 0 [some (.ref 30), some (.int w), some (.int a), some (.int b)] [] σ K := by
  obtain ⟨ho, hs⟩ := hc
  obtain ⟨eo, lo⟩ := l40 ⟨ho.1, by have := ho.2; grind⟩
  obtain ⟨es, ls⟩ := l40 hs
  obtain ⟨O, hO⟩ : ∃ O, (σ 30 1).toNatClampNeg = O := ⟨_, rfl⟩
  obtain ⟨S, hS⟩ : ∃ S, (σ 30 2).toNatClampNeg = S := ⟨_, rfl⟩
  rw [hO] at eo lo
  rw [hS] at es ls
  have lo : O < 40 := by
    have h := ho.2
    rw [eo] at h
    exact (iN_lt (m := 40) (by omega) (by decide)).mp h
  obtain ⟨i0, b0, bb⟩ := lg_i (c := 0) lo ls (by decide)
  obtain ⟨i1, b1, -⟩ := lg_i (c := 1) lo ls (by decide)
  obtain ⟨i2, b2, -⟩ := lg_i (c := 2) lo ls (by decide)
  have i0 : ((iN O + iN S) - (iN O + iN S) / 40 * 40) * 3 + (0 : Int32) = iN (3 * ((O + S) % 40)) := i0
  have i1 : ((iN O + iN S) - (iN O + iN S) / 40 * 40) * 3 + (1 : Int32) = iN (3 * ((O + S) % 40) + 1) := i1
  have i2 : ((iN O + iN S) - (iN O + iN S) / 40 * 40) * 3 + (2 : Int32) = iN (3 * ((O + S) % 40) + 2) := i2
  have hm : (O + S) % 40 < 40 := Nat.mod_lt _ (by decide)
  have en : cNx σ = 3 * ((O + S) % 40) := by unfold cNx; rw [hO, hS]
  have r1 : ∀ i x, gup σ 31 i x 30 1 = iN O := fun i x => by rw [gup_ne (by omega)]; exact eo
  have r2 : ∀ i x, gup σ 31 i x 30 2 = iN S := fun i x => by rw [gup_ne (by omega)]; exact es
  have r3 : ∀ i x j y, gup (gup σ 31 i x) 31 j y 30 1 = iN O := fun i x j y => by rw [gup_ne (by omega)]; exact r1 i x
  have r4 : ∀ i x j y, gup (gup σ 31 i x) 31 j y 30 2 = iN S := fun i x j y => by rw [gup_ne (by omega)]; exact r2 i x
  have r5 : ∀ i x j y k z, gup (gup (gup σ 31 i x) 31 j y) 31 k z 30 1 = iN O := fun i x j y k z => by rw [gup_ne (by omega)]; exact r3 i x j y
  have r6 : ∀ i x j y k z, gup (gup (gup σ 31 i x) 31 j y) 31 k z 30 2 = iN S := fun i x j y k z => by rw [gup_ne (by omega)]; exact r4 i x j y
  unfold cAdd cAd3 at hK
  rw [en, hO, es] at hK
  refine w5 ?_
  rw [eo, es, i0, iN_nat (by omega)]
  refine ⟨bb, b0, c5_14 ?_⟩
  rw [r1, r2, i1, iN_nat (by omega)]
  refine ⟨bb, b1, c5_28 ?_⟩
  rw [r3, r4, i2, iN_nat (by omega)]
  refine ⟨bb, b2, c5_42 ?_⟩
  rw [r5, r6]
  refine ⟨fun h => ⟨by decide, ?_⟩, fun h => ?_⟩
  · rw [if_neg h] at hK
    rw [iN_one, show (40 : Int32) = iN 40 from rfl, iN_mod (by omega) (by decide)]
    exact hK
  · rw [if_pos h] at hK
    exact hK
noncomputable def f5 : gD := fun Lv σ => match Lv with
  | [some (.ref q0), some (.int w), some (.int a), some (.int b)] => cond (Nat.beq q0 30) (some (some (bLg σ 30), none, cAdd σ w a b)) none
  | _ => none
theorem ok5 : gFok 5 f5 := by
  intro Lv σ q h hc K hK
  unfold f5 at h
  split at h
  · rename_i q0 w a b
    obtain ⟨hb, h⟩ := c_no h
    have hb0 := hb
    have e0 := b_eq hb0
    subst e0
    cases h
    exact s5 (hc _ rfl) hK
  · cases h
noncomputable def gpco_l : List (Nat × gD) := (5, f5) :: gpcn_l
noncomputable def gpco : gP := gpl0 gpco_l
theorem gpco_ok : gPok gpco := gpl0_cons ok5 (gpcn_ok)
/-- a traveller's numbers from another: the first k -/
def cTk (σ : gS) (a b k : Nat) : gS := fun q j => if q = a ∧ j < k then σ b j else σ q j
theorem cTk_0 (σ : gS) (a b : Nat) : cTk σ a b 0 = σ := by funext q j; unfold cTk; rw [if_neg (by omega)]
theorem cTk_s (σ : gS) (a b k : Nat) : gup (cTk σ a b k) a k (cTk σ a b k b k) = cTk σ a b (k + 1) := by
  funext q j
  unfold gup cTk
  by_cases h : q = a ∧ j = k
  · rw [if_pos h, h.2, if_neg (show ¬ (b = a ∧ k < k) by omega), if_pos (show q = a ∧ k < k + 1 from ⟨h.1, by omega⟩)]
  · rw [if_neg h]
    by_cases h2 : q = a ∧ j < k
    · rw [if_pos h2, if_pos (by omega)]
    · rw [if_neg h2, if_neg (by omega)]
def cTv (σ : gS) (a b : Nat) : gS := cTk σ a b 10
theorem cTk_1 (σ : gS) (a b : Nat) : gup σ a 0 (σ b 0) = cTk σ a b 1 := by
  have := cTk_s σ a b 0
  rw [cTk_0] at this
  exact this
set_option maxRecDepth 20000 in
theorem w103 {σ : gS} {K : gK} {a b : Nat} (h : gTv b ∧ gTv a ∧ gE 103 8 [some (.ref a), some (.ref b)] [] (gup σ a 0 (σ b 0)) K) : gE 103 0 [some (.ref a), some (.ref b)] [] σ K :=
  gw_run (cy := 103) (cuts := [8, 16, 24, 32, 40, 48, 56, 64, 72]) (inl := []) (pf := gpco) gpco_ok 400 (by decide) h
set_option maxRecDepth 20000 in
theorem c103_8 {σ : gS} {K : gK} {l0 l1 : Nat} (h : gTv l1 ∧ gTv l0 ∧ gE 103 16 [some (.ref l0), some (.ref l1)] [] (gup σ l0 1 (σ l1 1)) K) : gE 103 8 [some (.ref l0), some (.ref l1)] [] σ K :=
  gw_run (cy := 103) (cuts := [8, 16, 24, 32, 40, 48, 56, 64, 72]) (inl := []) (pf := gpco) gpco_ok 400 (by decide) h
set_option maxRecDepth 20000 in
theorem c103_16 {σ : gS} {K : gK} {l0 l1 : Nat} (h : gTv l1 ∧ gTv l0 ∧ gE 103 24 [some (.ref l0), some (.ref l1)] [] (gup σ l0 2 (σ l1 2)) K) : gE 103 16 [some (.ref l0), some (.ref l1)] [] σ K :=
  gw_run (cy := 103) (cuts := [8, 16, 24, 32, 40, 48, 56, 64, 72]) (inl := []) (pf := gpco) gpco_ok 400 (by decide) h
set_option maxRecDepth 20000 in
theorem c103_24 {σ : gS} {K : gK} {l0 l1 : Nat} (h : gTv l1 ∧ gTv l0 ∧ gE 103 32 [some (.ref l0), some (.ref l1)] [] (gup σ l0 3 (σ l1 3)) K) : gE 103 24 [some (.ref l0), some (.ref l1)] [] σ K :=
  gw_run (cy := 103) (cuts := [8, 16, 24, 32, 40, 48, 56, 64, 72]) (inl := []) (pf := gpco) gpco_ok 400 (by decide) h
set_option maxRecDepth 20000 in
theorem c103_32 {σ : gS} {K : gK} {l0 l1 : Nat} (h : gTv l1 ∧ gTv l0 ∧ gE 103 40 [some (.ref l0), some (.ref l1)] [] (gup σ l0 4 (σ l1 4)) K) : gE 103 32 [some (.ref l0), some (.ref l1)] [] σ K :=
  gw_run (cy := 103) (cuts := [8, 16, 24, 32, 40, 48, 56, 64, 72]) (inl := []) (pf := gpco) gpco_ok 400 (by decide) h
set_option maxRecDepth 20000 in
theorem c103_40 {σ : gS} {K : gK} {l0 l1 : Nat} (h : gTv l1 ∧ gTv l0 ∧ gE 103 48 [some (.ref l0), some (.ref l1)] [] (gup σ l0 5 (σ l1 5)) K) : gE 103 40 [some (.ref l0), some (.ref l1)] [] σ K :=
  gw_run (cy := 103) (cuts := [8, 16, 24, 32, 40, 48, 56, 64, 72]) (inl := []) (pf := gpco) gpco_ok 400 (by decide) h
set_option maxRecDepth 20000 in
theorem c103_48 {σ : gS} {K : gK} {l0 l1 : Nat} (h : gTv l1 ∧ gTv l0 ∧ gE 103 56 [some (.ref l0), some (.ref l1)] [] (gup σ l0 6 (σ l1 6)) K) : gE 103 48 [some (.ref l0), some (.ref l1)] [] σ K :=
  gw_run (cy := 103) (cuts := [8, 16, 24, 32, 40, 48, 56, 64, 72]) (inl := []) (pf := gpco) gpco_ok 400 (by decide) h
set_option maxRecDepth 20000 in
theorem c103_56 {σ : gS} {K : gK} {l0 l1 : Nat} (h : gTv l1 ∧ gTv l0 ∧ gE 103 64 [some (.ref l0), some (.ref l1)] [] (gup σ l0 7 (σ l1 7)) K) : gE 103 56 [some (.ref l0), some (.ref l1)] [] σ K :=
  gw_run (cy := 103) (cuts := [8, 16, 24, 32, 40, 48, 56, 64, 72]) (inl := []) (pf := gpco) gpco_ok 400 (by decide) h
set_option maxRecDepth 20000 in
theorem c103_64 {σ : gS} {K : gK} {l0 l1 : Nat} (h : gTv l1 ∧ gTv l0 ∧ gE 103 72 [some (.ref l0), some (.ref l1)] [] (gup σ l0 8 (σ l1 8)) K) : gE 103 64 [some (.ref l0), some (.ref l1)] [] σ K :=
  gw_run (cy := 103) (cuts := [8, 16, 24, 32, 40, 48, 56, 64, 72]) (inl := []) (pf := gpco) gpco_ok 400 (by decide) h
set_option maxRecDepth 20000 in
theorem c103_72 {σ : gS} {K : gK} {l0 l1 : Nat} (h : gTv l1 ∧ gTv l0 ∧ K none (gup σ l0 9 (σ l1 9))) : gE 103 72 [some (.ref l0), some (.ref l1)] [] σ K :=
  gw_run (cy := 103) (cuts := [8, 16, 24, 32, 40, 48, 56, 64, 72]) (inl := []) (pf := gpco) gpco_ok 400 (by decide) h
theorem s103 {σ : gS} {K : gK} {a b : Nat} (hc : gTv a ∧ gTv b) (hK : K none (cTv σ a b)) : gE 103 0 [some (.ref a), some (.ref b)] [] σ K := by
  obtain ⟨ha, hb⟩ := hc
  unfold cTv at hK
  refine w103 ⟨hb, ha, ?_⟩
  rw [cTk_1]
  refine c103_8 ⟨hb, ha, ?_⟩
  rw [cTk_s]
  refine c103_16 ⟨hb, ha, ?_⟩
  rw [cTk_s]
  refine c103_24 ⟨hb, ha, ?_⟩
  rw [cTk_s]
  refine c103_32 ⟨hb, ha, ?_⟩
  rw [cTk_s]
  refine c103_40 ⟨hb, ha, ?_⟩
  rw [cTk_s]
  refine c103_48 ⟨hb, ha, ?_⟩
  rw [cTk_s]
  refine c103_56 ⟨hb, ha, ?_⟩
  rw [cTk_s]
  refine c103_64 ⟨hb, ha, ?_⟩
  rw [cTk_s]
  refine c103_72 ⟨hb, ha, ?_⟩
  rw [cTk_s]
  exact hK
noncomputable def f103 : gD := fun Lv σ => match Lv with
  | [some (.ref a), some (.ref b)] => some (some (gTv a ∧ gTv b), none, cTv σ a b)
  | _ => none
theorem ok103 : gFok 103 f103 := by
  intro Lv σ q h hc K hK
  unfold f103 at h
  split at h
  · rename_i a b
    cases h
    exact s103 (hc _ rfl) hK
  · cases h
/-- a train's travellers, the first k, from another train -/
def cT1 (σ : gS) (p q k : Nat) : gS := fun b j => if p + 2 ≤ b ∧ b < p + 2 + k ∧ j < 10 then σ (q + (b - p)) j else σ b j
theorem cT1_0 (σ : gS) (p q : Nat) : cT1 σ p q 0 = σ := by funext b j; unfold cT1; rw [if_neg (by omega)]
theorem cT1_s {σ : gS} {p q k : Nat} (h : q + 26 ≤ p ∨ p + 26 ≤ q) (hk : k < 20) : cTv (cT1 σ p q k) (p + 2 + k) (q + 2 + k) = cT1 σ p q (k + 1) := by
  funext b j
  unfold cTv cTk cT1
  by_cases h1 : b = p + 2 + k ∧ j < 10
  · rw [if_pos h1, if_neg (by omega), if_pos (by omega), h1.1, show q + (p + 2 + k - p) = q + 2 + k by omega]
  · rw [if_neg h1]
    by_cases h2 : p + 2 ≤ b ∧ b < p + 2 + k ∧ j < 10
    · rw [if_pos h2, if_pos (by omega)]
    · rw [if_neg h2, if_neg (by omega)]
/-- the first k numbers of place d from place s -/
def cA1 (σ : gS) (d s k : Nat) : gS := fun b j => if b = d ∧ j < k then σ s j else σ b j
theorem cA1_0 (σ : gS) (d s : Nat) : cA1 σ d s 0 = σ := by funext b j; unfold cA1; rw [if_neg (by omega)]
theorem cA1_s {σ : gS} {d s k : Nat} (h : ¬ d = s) : gup (cA1 σ d s k) d k (cA1 σ d s k s k) = cA1 σ d s (k + 1) := by
  funext b j
  unfold gup cA1
  by_cases h1 : b = d ∧ j = k
  · rw [if_pos h1, h1.2, if_neg (show ¬ (s = d ∧ k < k) by omega), if_pos (show b = d ∧ k < k + 1 from ⟨h1.1, by omega⟩)]
  · rw [if_neg h1]
    by_cases h2 : b = d ∧ j < k
    · rw [if_pos h2, if_pos (by omega)]
    · rw [if_neg h2, if_neg (by omega)]
/-- a log from another -/
def cLc (σ : gS) (d s : Nat) : gS := gup (gup (cA1 σ (d + 1) (s + 1) 120) d 1 (σ s 1)) d 2 (σ s 2)
end
