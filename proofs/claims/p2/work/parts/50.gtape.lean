/-! THE REFERENCE: the tape -/
abbrev isSm (x : Int32) : Prop := 97 ≤ x ∧ x ≤ 122
abbrev isDg (x : Int32) : Prop := 48 ≤ x ∧ x ≤ 57
abbrev RT (σ : gS) : Prop := 0 ≤ σ 323 8 ∧ σ 323 8 ≤ 1000
set_option maxRecDepth 20000 in
theorem w187 {σ : gS} {K : gK} {k : Int32} (h : ((¬ k < (σ 323 8) → ((0 : Int32) = 0 ∨ (0 : Int32) = 1) ∧ K (some (.int 0)) σ) ∧ (k < (σ 323 8) → (0 ≤ k ∧ k < 1000) ∧ (((σ 330 k.toNatClampNeg) < 97 → ((0 : Int32) = 0 ∨ (0 : Int32) = 1) ∧ K (some (.int 0)) σ) ∧ (¬ (σ 330 k.toNatClampNeg) < 97 → (0 ≤ k ∧ k < 1000) ∧ ((122 < (σ 330 k.toNatClampNeg) → ((0 : Int32) = 0 ∨ (0 : Int32) = 1) ∧ K (some (.int 0)) σ) ∧ (¬ 122 < (σ 330 k.toNatClampNeg) → ((1 : Int32) = 0 ∨ (1 : Int32) = 1) ∧ K (some (.int 1)) σ))))))) : gE 187 0 [some (.ref 323), some (.int k)] [] σ K :=
  gw_run (cy := 187) (cuts := []) (inl := []) (pf := gpfR) gpfR_ok 400 (by decide) h
theorem s187 {σ : gS} {K : gK} {k : Int32} (hc : (0 ≤ k) ∧ RT σ) (hK : K (some (.int (bI (k < σ 323 8 ∧ isSm (σ 330 k.toNatClampNeg))))) σ) : gE 187 0 [some (.ref 323), some (.int k)] [] σ K := by
  obtain ⟨h0, h1, h2⟩ := hc
  refine w187 ?_
  grind [bI]
noncomputable def f187 : gD := fun Lv σ => match Lv with
  | [some (.ref q0), some (.int k)] => cond (Nat.beq q0 323) (some (some ((0 ≤ k) ∧ RT σ), some (.int (bI (k < σ 323 8 ∧ isSm (σ 330 k.toNatClampNeg)))), σ)) none
  | _ => none
theorem ok187 : gFok 187 f187 := by
  intro Lv σ q h hc K hK
  unfold f187 at h
  split at h
  · rename_i q0 k
    obtain ⟨hb, h⟩ := c_no h
    have hb0 := hb
    have e0 := b_eq hb0
    subst e0
    cases h
    exact s187 (hc _ rfl) hK
  · cases h
set_option maxRecDepth 20000 in
theorem w188 {σ : gS} {K : gK} {k : Int32} (h : ((¬ k < (σ 323 8) → ((0 : Int32) = 0 ∨ (0 : Int32) = 1) ∧ K (some (.int 0)) σ) ∧ (k < (σ 323 8) → (0 ≤ k ∧ k < 1000) ∧ (((σ 330 k.toNatClampNeg) < 48 → ((0 : Int32) = 0 ∨ (0 : Int32) = 1) ∧ K (some (.int 0)) σ) ∧ (¬ (σ 330 k.toNatClampNeg) < 48 → (0 ≤ k ∧ k < 1000) ∧ ((57 < (σ 330 k.toNatClampNeg) → ((0 : Int32) = 0 ∨ (0 : Int32) = 1) ∧ K (some (.int 0)) σ) ∧ (¬ 57 < (σ 330 k.toNatClampNeg) → ((1 : Int32) = 0 ∨ (1 : Int32) = 1) ∧ K (some (.int 1)) σ))))))) : gE 188 0 [some (.ref 323), some (.int k)] [] σ K :=
  gw_run (cy := 188) (cuts := []) (inl := []) (pf := gpfR) gpfR_ok 400 (by decide) h
theorem s188 {σ : gS} {K : gK} {k : Int32} (hc : (0 ≤ k) ∧ RT σ) (hK : K (some (.int (bI (k < σ 323 8 ∧ isDg (σ 330 k.toNatClampNeg))))) σ) : gE 188 0 [some (.ref 323), some (.int k)] [] σ K := by
  obtain ⟨h0, h1, h2⟩ := hc
  refine w188 ?_
  grind [bI]
noncomputable def f188 : gD := fun Lv σ => match Lv with
  | [some (.ref q0), some (.int k)] => cond (Nat.beq q0 323) (some (some ((0 ≤ k) ∧ RT σ), some (.int (bI (k < σ 323 8 ∧ isDg (σ 330 k.toNatClampNeg)))), σ)) none
  | _ => none
theorem ok188 : gFok 188 f188 := by
  intro Lv σ q h hc K hK
  unfold f188 at h
  split at h
  · rename_i q0 k
    obtain ⟨hb, h⟩ := c_no h
    have hb0 := hb
    have e0 := b_eq hb0
    subst e0
    cases h
    exact s188 (hc _ rfl) hK
  · cases h
noncomputable def gpfS_l : List (Nat × gD) := (187, f187) :: (188, f188) :: gpfR_l
noncomputable def gpfS : gP := gpl0 gpfS_l
theorem gpfS_ok : gPok gpfS := gpl0_cons ok187 (gpl0_cons ok188 (gpfR_ok))
/-- k zeros from a on -/
def zsh (R : gW) (a k : Nat) : gW := fun j => if a ≤ j ∧ j < a + k then 0 else R j
theorem zsh_0 (R : gW) (a : Nat) : zsh R a 0 = R := by funext j; unfold zsh; rw [if_neg (by omega)]
theorem zsh_s (R : gW) (a k : Nat) : rup (zsh R a k) (a + k) 0 = zsh R a (k + 1) := by
  funext j
  unfold rup zsh
  by_cases h : j = a + k
  · rw [if_pos h, if_pos (by omega)]
  · rw [if_neg h]
    by_cases h2 : a ≤ j ∧ j < a + k
    · rw [if_pos h2, if_pos (by omega)]
    · rw [if_neg h2, if_neg (by omega)]
/-- a new traveller begun -/
def fNew (R : gW) (x w : Int32) : gW := rup (rup (rup (zsh R (9 + 10 * nM R) 10) (9 + 10 * nM R + 0) x) (9 + 10 * nM R + 9) w) (9 + 10 * nM R + 8) 99
set_option maxRecDepth 20000 in
theorem w201_324 {σ : gS} {K : gK} {x w : Int32} (h : (0 ≤ (3 : Int32) ∧ (3 : Int32) < 330) ∧ gE 201 7 [some (.ref 324), some (.int x), some (.int w), some (.int (σ 324 3)), some (.int 0)] [] σ K) : gE 201 0 [some (.ref 324), some (.int x), some (.int w), none, none] [] σ K :=
  gw_run (cy := 201) (cuts := [7]) (inl := []) (pf := gpfS) gpfS_ok 400 (by decide) h
set_option maxRecDepth 20000 in
theorem c324_201_7 {σ : gS} {K : gK} {l1 l2 l3 l4 : Int32} (h : ((¬ l4 < 10 → (0 ≤ (9 + 10 * l3 + (0 : Int32)) ∧ (9 + 10 * l3 + (0 : Int32)) < 330) ∧ (0 ≤ (9 + 10 * l3 + (9 : Int32)) ∧ (9 + 10 * l3 + (9 : Int32)) < 330) ∧ (0 ≤ (9 + 10 * l3 + (8 : Int32)) ∧ (9 + 10 * l3 + (8 : Int32)) < 330) ∧ K none (gup (gup (gup σ 324 (9 + 10 * l3 + (0 : Int32)).toNatClampNeg l1) 324 (9 + 10 * l3 + (9 : Int32)).toNatClampNeg l2) 324 (9 + 10 * l3 + (8 : Int32)).toNatClampNeg 99)) ∧ (l4 < 10 → (0 ≤ (9 + 10 * l3 + l4) ∧ (9 + 10 * l3 + l4) < 330) ∧ gE 201 7 [some (.ref 324), some (.int l1), some (.int l2), some (.int l3), some (.int (l4 + 1))] [] (gup σ 324 (9 + 10 * l3 + l4).toNatClampNeg 0) K))) : gE 201 7 [some (.ref 324), some (.int l1), some (.int l2), some (.int l3), some (.int l4)] [] σ K :=
  gw_run (cy := 201) (cuts := [7]) (inl := []) (pf := gpfS) gpfS_ok 400 (by decide) h
theorem s201_324 {σ : gS} {K : gK} {x w : Int32} (hc : 0 ≤ σ 324 3 ∧ σ 324 3 < 20) (hK : K none (grow σ 324 (fNew (σ 324) x w))) : gE 201 0 [some (.ref 324), some (.int x), some (.int w), none, none] [] σ K := by
  obtain ⟨e3, l3⟩ := t20 hc
  obtain ⟨n, hn⟩ : ∃ n, nM (σ 324) = n := ⟨_, rfl⟩
  have hn' : (σ 324 3).toNatClampNeg = n := hn
  rw [hn'] at e3 l3
  unfold fNew at hK
  rw [hn] at hK
  refine w201_324 ⟨by decide, ?_⟩
  rw [e3]
  have main := g_forI (y := 201) (pc := 7) (K := K) 10 (fun k => [some (.ref 324), some (.int x), some (.int w), some (.int (iN n)), some (.int (iN k))]) (fun k => grow σ 324 (zsh (σ 324) (9 + 10 * n) k)) (fun _ => True) (fun _ => by
    refine c324_201_7 ⟨fun _ => ⟨ixb0 l3, ixb9 l3, ixb8 l3, ?_⟩, fun h => absurd h (by decide)⟩
    rw [ix0 l3, ix8 l3, ix9 l3]
    simp (disch := decide) only [gup_grow, grow_grow, grow_at]
    exact hK) (fun k hk _ ih => by
    refine c324_201_7 ⟨fun h => ?_, fun h => ⟨ixbn k n l3 (by omega), ?_⟩⟩
    · exact absurd ((iN_lt (m := 10) (by omega) (by decide)).mpr hk) h
    · rw [ixn k n l3 (by omega), gup_grow, grow_grow, grow_at, zsh_s, iN_one]
      exact ih trivial) 0 (Nat.zero_le _) trivial
  rw [zsh_0, grow_id] at main
  exact main
set_option maxRecDepth 20000 in
theorem w201_325 {σ : gS} {K : gK} {x w : Int32} (h : (0 ≤ (3 : Int32) ∧ (3 : Int32) < 330) ∧ gE 201 7 [some (.ref 325), some (.int x), some (.int w), some (.int (σ 325 3)), some (.int 0)] [] σ K) : gE 201 0 [some (.ref 325), some (.int x), some (.int w), none, none] [] σ K :=
  gw_run (cy := 201) (cuts := [7]) (inl := []) (pf := gpfS) gpfS_ok 400 (by decide) h
set_option maxRecDepth 20000 in
theorem c325_201_7 {σ : gS} {K : gK} {l1 l2 l3 l4 : Int32} (h : ((¬ l4 < 10 → (0 ≤ (9 + 10 * l3 + (0 : Int32)) ∧ (9 + 10 * l3 + (0 : Int32)) < 330) ∧ (0 ≤ (9 + 10 * l3 + (9 : Int32)) ∧ (9 + 10 * l3 + (9 : Int32)) < 330) ∧ (0 ≤ (9 + 10 * l3 + (8 : Int32)) ∧ (9 + 10 * l3 + (8 : Int32)) < 330) ∧ K none (gup (gup (gup σ 325 (9 + 10 * l3 + (0 : Int32)).toNatClampNeg l1) 325 (9 + 10 * l3 + (9 : Int32)).toNatClampNeg l2) 325 (9 + 10 * l3 + (8 : Int32)).toNatClampNeg 99)) ∧ (l4 < 10 → (0 ≤ (9 + 10 * l3 + l4) ∧ (9 + 10 * l3 + l4) < 330) ∧ gE 201 7 [some (.ref 325), some (.int l1), some (.int l2), some (.int l3), some (.int (l4 + 1))] [] (gup σ 325 (9 + 10 * l3 + l4).toNatClampNeg 0) K))) : gE 201 7 [some (.ref 325), some (.int l1), some (.int l2), some (.int l3), some (.int l4)] [] σ K :=
  gw_run (cy := 201) (cuts := [7]) (inl := []) (pf := gpfS) gpfS_ok 400 (by decide) h
theorem s201_325 {σ : gS} {K : gK} {x w : Int32} (hc : 0 ≤ σ 325 3 ∧ σ 325 3 < 20) (hK : K none (grow σ 325 (fNew (σ 325) x w))) : gE 201 0 [some (.ref 325), some (.int x), some (.int w), none, none] [] σ K := by
  obtain ⟨e3, l3⟩ := t20 hc
  obtain ⟨n, hn⟩ : ∃ n, nM (σ 325) = n := ⟨_, rfl⟩
  have hn' : (σ 325 3).toNatClampNeg = n := hn
  rw [hn'] at e3 l3
  unfold fNew at hK
  rw [hn] at hK
  refine w201_325 ⟨by decide, ?_⟩
  rw [e3]
  have main := g_forI (y := 201) (pc := 7) (K := K) 10 (fun k => [some (.ref 325), some (.int x), some (.int w), some (.int (iN n)), some (.int (iN k))]) (fun k => grow σ 325 (zsh (σ 325) (9 + 10 * n) k)) (fun _ => True) (fun _ => by
    refine c325_201_7 ⟨fun _ => ⟨ixb0 l3, ixb9 l3, ixb8 l3, ?_⟩, fun h => absurd h (by decide)⟩
    rw [ix0 l3, ix8 l3, ix9 l3]
    simp (disch := decide) only [gup_grow, grow_grow, grow_at]
    exact hK) (fun k hk _ ih => by
    refine c325_201_7 ⟨fun h => ?_, fun h => ⟨ixbn k n l3 (by omega), ?_⟩⟩
    · exact absurd ((iN_lt (m := 10) (by omega) (by decide)).mpr hk) h
    · rw [ixn k n l3 (by omega), gup_grow, grow_grow, grow_at, zsh_s, iN_one]
      exact ih trivial) 0 (Nat.zero_le _) trivial
  rw [zsh_0, grow_id] at main
  exact main
noncomputable def f201 : gD := fun Lv σ => match Lv with
  | [some (.ref p), some (.int x), some (.int w), none, none] => cond (Nat.beq p 324 || Nat.beq p 325) (some (some (0 ≤ σ p 3 ∧ σ p 3 < 20), none, grow σ p (fNew (σ p) x w))) none
  | _ => none
theorem ok201 : gFok 201 f201 := by
  intro Lv σ q h hc K hK
  unfold f201 at h
  split at h
  · rename_i p x w
    obtain ⟨hb, h⟩ := c_no h
    have hb0 := hb
    rcases s_or hb0 with hb0 | hb0
    · have e := b_eq hb0
      subst e
      cases h
      exact s201_324 (hc _ rfl) hK
    · have e := b_eq hb0
      subst e
      cases h
      exact s201_325 (hc _ rfl) hK
  · cases h
/-- the number of the first k letters -/
def tnm (T : gW) : Nat → Int32
  | 0 => 0
  | k + 1 => 27 * tnm T k + T k - 96
abbrev smA (T : gW) (k : Nat) : Prop := ∀ j, j < k → isSm (T j)
theorem tnm_b {T : gW} : ∀ {k : Nat}, k ≤ 6 → smA T k → ∃ n : Nat, tnm T k = iN n ∧ n < 27 ^ k
  | 0, _, _ => ⟨0, rfl, by decide⟩
  | k + 1, hk, h => by
    obtain ⟨n, e, l⟩ := tnm_b (show k ≤ 6 by omega) (fun j hj => h j (by omega))
    obtain ⟨h1, h2⟩ := h k (by omega)
    obtain ⟨e2, l2⟩ := iN_of (show 0 ≤ T k by grind)
    obtain ⟨m, hm⟩ : ∃ m, (T k).toNatClampNeg = m := ⟨_, rfl⟩
    rw [hm] at e2 l2
    have h1 : 97 ≤ m := by
      rw [e2] at h1
      exact (iN_le (k := 97) (by decide) l2).mp h1
    have h2 : m ≤ 122 := by
      rw [e2] at h2
      exact (iN_le (m := 122) l2 (by decide)).mp h2
    have lp : 27 ^ k ≤ 27 ^ 5 := Nat.pow_le_pow_right (by decide) (by omega)
    have lp : 27 ^ k ≤ 14348907 := lp
    refine ⟨27 * n + m - 96, ?_, ?_⟩
    · show 27 * tnm T k + T k - 96 = _
      rw [e, e2, show (27 : Int32) = iN 27 from rfl, show (96 : Int32) = iN 96 from rfl, iN_mul, iN_add]
      exact iN_sub (by omega) (by omega)
    · rw [Nat.pow_succ]
      omega
def fTn (T : gW) (L : Int32) : Int32 := if (1 ≤ L ∧ L ≤ 5) ∧ smA T L.toNatClampNeg ∧ nsz (tnm T L.toNatClampNeg) ≤ 5 ∧ ¬ isKey (tnm T L.toNatClampNeg) then tnm T L.toNatClampNeg else -1
set_option maxRecDepth 20000 in
theorem w207 {σ : gS} {K : gK} (h : gE 207 14 [some (.ref 323), some (.int 0), some (.int (bI ((1 : Int32) ≤ (σ 323 8) ∧ (σ 323 8) ≤ (5 : Int32)))), some (.int 0)] [] σ K) : gE 207 0 [some (.ref 323), none, none, none] [] σ K :=
  gw_run (cy := 207) (cuts := [14]) (inl := []) (pf := gpfS) gpfS_ok 400 (by decide) h
set_option maxRecDepth 20000 in
theorem c207_14 {σ : gS} {K : gK} {l1 l2 l3 : Int32} (h : ((¬ l3 < (σ 323 8) → ((l2 = 0 → K (some (.int (-1))) σ) ∧ (¬ l2 = 0 → (0 ≤ l1) ∧ (((bI (nsz l1 ≤ 5 ∧ ¬ isKey l1)) = 0 → K (some (.int (-1))) σ) ∧ (¬ (bI (nsz l1 ≤ 5 ∧ ¬ isKey l1)) = 0 → K (some (.int l1)) σ))))) ∧ (l3 < (σ 323 8) → ((l2 = 0 → ((l2 = 0 → K (some (.int (-1))) σ) ∧ (¬ l2 = 0 → (0 ≤ l1) ∧ (((bI (nsz l1 ≤ 5 ∧ ¬ isKey l1)) = 0 → K (some (.int (-1))) σ) ∧ (¬ (bI (nsz l1 ≤ 5 ∧ ¬ isKey l1)) = 0 → K (some (.int l1)) σ))))) ∧ (¬ l2 = 0 → ((0 ≤ l3) ∧ RT σ) ∧ (0 ≤ l3 ∧ l3 < 1000) ∧ gE 207 14 [some (.ref 323), some (.int (((27 * l1) + (σ 330 l3.toNatClampNeg)) - 96)), some (.int (bI (l3 < σ 323 8 ∧ isSm (σ 330 l3.toNatClampNeg)))), some (.int (l3 + 1))] [] σ K))))) : gE 207 14 [some (.ref 323), some (.int l1), some (.int l2), some (.int l3)] [] σ K :=
  gw_run (cy := 207) (cuts := [14]) (inl := []) (pf := gpfS) gpfS_ok 400 (by decide) h
theorem s207 {σ : gS} {K : gK} (hc : RT σ) (hK : K (some (.int (fTn (σ 330) (σ 323 8)))) σ) : gE 207 0 [some (.ref 323), none, none, none] [] σ K := by
  obtain ⟨h0, h1⟩ := hc
  have no : ∀ n i, ¬ ((1 ≤ σ 323 8 ∧ σ 323 8 ≤ 5) ∧ smA (σ 330) (σ 323 8).toNatClampNeg) → gE 207 14 [some (.ref 323), some (.int n), some (.int 0), some (.int i)] [] σ K := by
    intro n i h
    have e : fTn (σ 330) (σ 323 8) = -1 := if_neg (fun q => h ⟨q.1, q.2.1⟩)
    rw [e] at hK
    exact c207_14 ⟨fun _ => ⟨fun _ => hK, fun h => absurd rfl h⟩, fun _ => ⟨fun _ => ⟨fun _ => hK, fun h => absurd rfl h⟩, fun h => absurd rfl h⟩⟩
  refine w207 ?_
  by_cases hL : 1 ≤ σ 323 8 ∧ σ 323 8 ≤ 5
  · rw [bI_t hL]
    obtain ⟨e, l⟩ := iN_of h0
    obtain ⟨L, hl⟩ : ∃ L, (σ 323 8).toNatClampNeg = L := ⟨_, rfl⟩
    rw [hl] at e l
    have l5 : L ≤ 5 := by
      have h := hL.2
      rw [e] at h
      exact (iN_le (m := 5) l (by decide)).mp h
    refine g_forI (y := 207) (pc := 14) (K := K) L (fun k => [some (.ref 323), some (.int (tnm (σ 330) k)), some (.int 1), some (.int (iN k))]) (fun _ => σ) (fun k => smA (σ 330) k) (fun hi => ?_) (fun k hk hi ih => ?_) 0 (Nat.zero_le _) (fun j hj => absurd hj (Nat.not_lt_zero j))
    · obtain ⟨n, en, ln⟩ := tnm_b (show L ≤ 6 by omega) hi
      have ln : n < 14348907 := Nat.lt_of_lt_of_le ln (show 27 ^ L ≤ 27 ^ 5 from Nat.pow_le_pow_right (by decide) l5)
      have hn0 : 0 ≤ tnm (σ 330) L := by
        rw [en]
        exact (iN_le (k := 0) (by decide) (by omega)).mpr (by omega)
      have ef : fTn (σ 330) (σ 323 8) = if nsz (tnm (σ 330) L) ≤ 5 ∧ ¬ isKey (tnm (σ 330) L) then tnm (σ 330) L else -1 := by
        unfold fTn
        rw [hl]
        by_cases h : nsz (tnm (σ 330) L) ≤ 5 ∧ ¬ isKey (tnm (σ 330) L)
        · rw [if_pos h, if_pos ⟨hL, hi, h⟩]
        · rw [if_neg h, if_neg (fun q => h q.2.2)]
      rw [ef] at hK
      refine c207_14 ⟨fun _ => ⟨fun h => absurd h (by decide), fun _ => ⟨hn0, ?_⟩⟩, fun h => ?_⟩
      · rw [bI_0]
        refine ⟨fun h => ?_, fun h => ?_⟩
        · rw [if_neg h] at hK; exact hK
        · rw [if_pos (Decidable.not_not.mp h)] at hK; exact hK
      · rw [e, iN_lt (by omega) (by omega)] at h; omega
    · refine c207_14 ⟨fun h => ?_, fun h => ⟨fun h => absurd h (by decide), fun _ => ?_⟩⟩
      · rw [e, iN_lt (by omega) (by omega)] at h; omega
      · have hk0 : 0 ≤ iN k := (iN_le (k := 0) (by decide) (by omega)).mpr (by omega)
        refine ⟨⟨hk0, h0, h1⟩, ⟨hk0, (iN_lt (m := 1000) (by omega) (by decide)).mpr (by omega)⟩, ?_⟩
        rw [iN_nat (by omega), iN_one]
        by_cases hs : isSm (σ 330 k)
        · rw [bI_t ⟨h, hs⟩]
          refine ih (fun j hj => ?_)
          rcases Nat.lt_or_ge j k with q | q
          · exact hi j q
          · have : j = k := by omega
            subst this
            exact hs
        · rw [bI_f (fun q => hs q.2)]
          refine no _ _ (fun q => hs (q.2 k ?_))
          rw [hl]; exact hk
  · rw [bI_f hL]
    exact no _ _ (fun q => hL q.1)
noncomputable def f207 : gD := fun Lv σ => match Lv with
  | [some (.ref q0), none, none, none] => cond (Nat.beq q0 323) (some (some (RT σ), some (.int (fTn (σ 330) (σ 323 8))), σ)) none
  | _ => none
theorem ok207 : gFok 207 f207 := by
  intro Lv σ q h hc K hK
  unfold f207 at h
  split at h
  · rename_i q0
    obtain ⟨hb, h⟩ := c_no h
    have hb0 := hb
    have e0 := b_eq hb0
    subst e0
    cases h
    exact s207 (hc _ rfl) hK
  · cases h
noncomputable def gpfT_l : List (Nat × gD) := (201, f201) :: (207, f207) :: gpfS_l
noncomputable def gpfT : gP := gpl0 gpfT_l
theorem gpfT_ok : gPok gpfT := gpl0_cons ok201 (gpl0_cons ok207 (gpfS_ok))
