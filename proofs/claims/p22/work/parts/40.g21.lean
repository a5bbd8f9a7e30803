-- text 21
/-! THE REFERENCE: the tape -/
abbrev isSm (x : Int32) : Prop := 97 ≤ x ∧ x ≤ 122
abbrev isDg (x : Int32) : Prop := 48 ≤ x ∧ x ≤ 57
abbrev RT (σ : gS) : Prop := 0 ≤ σ 323 8 ∧ σ 323 8 ≤ 1000
set_option maxRecDepth 20000 in
theorem w187 {σ : gS} {K : gK} {k : Int32} (h : ((¬ k < (σ 323 8) → ((0 : Int32) = 0 ∨ (0 : Int32) = 1) ∧ K (some (.int 0)) σ) ∧ (k < (σ 323 8) → (0 ≤ k ∧ k < 1000) ∧ (((σ 330 k.toNatClampNeg) < 97 → ((0 : Int32) = 0 ∨ (0 : Int32) = 1) ∧ K (some (.int 0)) σ) ∧ (¬ (σ 330 k.toNatClampNeg) < 97 → (0 ≤ k ∧ k < 1000) ∧ ((122 < (σ 330 k.toNatClampNeg) → ((0 : Int32) = 0 ∨ (0 : Int32) = 1) ∧ K (some (.int 0)) σ) ∧ (¬ 122 < (σ 330 k.toNatClampNeg) → ((1 : Int32) = 0 ∨ (1 : Int32) = 1) ∧ K (some (.int 1)) σ))))))) : gE 187 0 [some (.ref 323), some (.int k)] [] σ K :=
  gw_run (cy := 187) (cuts := []) (inl := []) (pf := gpfR) gpfR_ok 400 (by decide) h
theorem s187 {σ : gS} {K : gK} {k : Int32} (hc : (0 ≤ k) ∧ RT σ) (hK : K (some (.int (bI (k < σ 323 8 ∧ isSm (σ 330 k.toNatClampNeg))))) σ) : gE 187 0 [some (.ref 323), some (.int k)] [] σ K := by
  obtain ⟨h0, h1, h2⟩ := hc
  refine w187 ?_
  grind [bI]
noncomputable def f187 : gD := fun Lv σ => match Lv with
  | [some (.ref q0), some (.int k)] => cond (Nat.beq q0 323) (some (some ((0 ≤ k) ∧ RT σ), some (.int (bI (k < σ 323 8 ∧ isSm (σ 330 k.toNatClampNeg)))), σ)) none
  | _ => none
theorem ok187 : gFok 187 f187 := by
  intro Lv σ q h hc K hK
  unfold f187 at h
  split at h
  · rename_i q0 k
    obtain ⟨hb, h⟩ := c_no h
    have hb0 := hb
    have e0 := b_eq hb0
    subst e0
    cases h
    exact s187 (hc _ rfl) hK
  · cases h
set_option maxRecDepth 20000 in
theorem w188 {σ : gS} {K : gK} {k : Int32} (h : ((¬ k < (σ 323 8) → ((0 : Int32) = 0 ∨ (0 : Int32) = 1) ∧ K (some (.int 0)) σ) ∧ (k < (σ 323 8) → (0 ≤ k ∧ k < 1000) ∧ (((σ 330 k.toNatClampNeg) < 48 → ((0 : Int32) = 0 ∨ (0 : Int32) = 1) ∧ K (some (.int 0)) σ) ∧ (¬ (σ 330 k.toNatClampNeg) < 48 → (0 ≤ k ∧ k < 1000) ∧ ((57 < (σ 330 k.toNatClampNeg) → ((0 : Int32) = 0 ∨ (0 : Int32) = 1) ∧ K (some (.int 0)) σ) ∧ (¬ 57 < (σ 330 k.toNatClampNeg) → ((1 : Int32) = 0 ∨ (1 : Int32) = 1) ∧ K (some (.int 1)) σ))))))) : gE 188 0 [some (.ref 323), some (.int k)] [] σ K :=
  gw_run (cy := 188) (cuts := []) (inl := []) (pf := gpfR) gpfR_ok 400 (by decide) h
theorem s188 {σ : gS} {K : gK} {k : Int32} (hc : (0 ≤ k) ∧ RT σ) (hK : K (some (.int (bI (k < σ 323 8 ∧ isDg (σ 330 k.toNatClampNeg))))) σ) : gE 188 0 [some (.ref 323), some (.int k)] [] σ K := by
  obtain ⟨h0, h1, h2⟩ := hc
  refine w188 ?_
  grind [bI]
noncomputable def f188 : gD := fun Lv σ => match Lv with
  | [some (.ref q0), some (.int k)] => cond (Nat.beq q0 323) (some (some ((0 ≤ k) ∧ RT σ), some (.int (bI (k < σ 323 8 ∧ isDg (σ 330 k.toNatClampNeg)))), σ)) none
  | _ => none
theorem ok188 : gFok 188 f188 := by
  intro Lv σ q h hc K hK
  unfold f188 at h
  split at h
  · rename_i q0 k
    obtain ⟨hb, h⟩ := c_no h
    have hb0 := hb
    have e0 := b_eq hb0
    subst e0
    cases h
    exact s188 (hc _ rfl) hK
  · cases h
noncomputable def gpfS_l : List (Nat × gD) := (187, f187) :: (188, f188) :: gpfR_l
noncomputable def gpfS : gP := gpl0 gpfS_l
theorem gpfS_ok : gPok gpfS := gpl0_cons ok187 (gpl0_cons ok188 (gpfR_ok))
/-- k zeros from a on -/
def zsh (R : gW) (a k : Nat) : gW := fun j => if a ≤ j ∧ j < a + k then 0 else R j
theorem zsh_0 (R : gW) (a : Nat) : zsh R a 0 = R := by funext j; unfold zsh; rw [if_neg (by omega)]
theorem zsh_s (R : gW) (a k : Nat) : rup (zsh R a k) (a + k) 0 = zsh R a (k + 1) := by
  funext j
  unfold rup zsh
  by_cases h : j = a + k
  · rw [if_pos h, if_pos (by omega)]
  · rw [if_neg h]
    by_cases h2 : a ≤ j ∧ j < a + k
    · rw [if_pos h2, if_pos (by omega)]
    · rw [if_neg h2, if_neg (by omega)]
/-- a new traveller begun -/
def fNew (R : gW) (x w : Int32) : gW := rup (rup (rup (zsh R (9 + 10 * nM R) 10) (9 + 10 * nM R + 0) x) (9 + 10 * nM R + 9) w) (9 + 10 * nM R + 8) 99
set_option maxRecDepth 20000 in
theorem w201_324 {σ : gS} {K : gK} {x w : Int32} (h : (0 ≤ (3 : Int32) ∧ (3 : Int32) < 330) ∧ gE 201 7 [some (.ref 324), some (.int x), some (.int w), some (.int (σ 324 3)), some (.int 0)] [] σ K) : gE 201 0 [some (.ref 324), some (.int x), some (.int w), none, none] [] σ K :=
  gw_run (cy := 201) (cuts := [7]) (inl := []) (pf := gpfS) gpfS_ok 400 (by decide) h
set_option maxRecDepth 20000 in
theorem c324_201_7 {σ : gS} {K : gK} {l1 l2 l3 l4 : Int32} (h : ((¬ l4 < 10 → (0 ≤ (9 + 10 * l3 + (0 : Int32)) ∧ (9 + 10 * l3 + (0 : Int32)) < 330) ∧ (0 ≤ (9 + 10 * l3 + (9 : Int32)) ∧ (9 + 10 * l3 + (9 : Int32)) < 330) ∧ (0 ≤ (9 + 10 * l3 + (8 : Int32)) ∧ (9 + 10 * l3 + (8 : Int32)) < 330) ∧ K none (gup (gup (gup σ 324 (9 + 10 * l3 + (0 : Int32)).toNatClampNeg l1) 324 (9 + 10 * l3 + (9 : Int32)).toNatClampNeg l2) 324 (9 + 10 * l3 + (8 : Int32)).toNatClampNeg 99)) ∧ (l4 < 10 → (0 ≤ (9 + 10 * l3 + l4) ∧ (9 + 10 * l3 + l4) < 330) ∧ gE 201 7 [some (.ref 324), some (.int l1), some (.int l2), some (.int l3), some (.int (l4 + 1))] [] (gup σ 324 (9 + 10 * l3 + l4).toNatClampNeg 0) K))) : gE 201 7 [some (.ref 324), some (.int l1), some (.int l2), some (.int l3), some (.int l4)] [] σ K :=
  gw_run (cy := 201) (cuts := [7]) (inl := []) (pf := gpfS) gpfS_ok 400 (by decide) h
theorem s201_324 {σ : gS} {K : gK} {x w : Int32} (hc : 0 ≤ σ 324 3 ∧ σ 324 3 < 20) (hK : K none (grow σ 324 (fNew (σ 324) x w))) : gE 201 0 [some (.ref 324), some (.int x), some (.int w), none, none] [] σ K := by
  obtain ⟨e3, l3⟩ := t20 hc
  obtain ⟨n, hn⟩ : ∃ n, nM (σ 324) = n := ⟨_, rfl⟩
  have hn' : (σ 324 3).toNatClampNeg = n := hn
  rw [hn'] at e3 l3
  unfold fNew at hK
  rw [hn] at hK
  refine w201_324 ⟨by decide, ?_⟩
  rw [e3]
  have main := g_forI (y := 201) (pc := 7) (K := K) 10 (fun k => [some (.ref 324), some (.int x), some (.int w), some (.int (iN n)), some (.int (iN k))]) (fun k => grow σ 324 (zsh (σ 324) (9 + 10 * n) k)) (fun _ => True) (fun _ => by
    refine c324_201_7 ⟨fun _ => ⟨ixb0 l3, ixb9 l3, ixb8 l3, ?_⟩, fun h => absurd h (by decide)⟩
    rw [ix0 l3, ix8 l3, ix9 l3]
    simp (disch := decide) only [gup_grow, grow_grow, grow_at]
    exact hK) (fun k hk _ ih => by
    refine c324_201_7 ⟨fun h => ?_, fun h => ⟨ixbn k n l3 (by omega), ?_⟩⟩
    · exact absurd ((iN_lt (m := 10) (by omega) (by decide)).mpr hk) h
    · rw [ixn k n l3 (by omega), gup_grow, grow_grow, grow_at, zsh_s, iN_one]
      exact ih trivial) 0 (Nat.zero_le _) trivial
  rw [zsh_0, grow_id] at main
  exact main
set_option maxRecDepth 20000 in
theorem w201_325 {σ : gS} {K : gK} {x w : Int32} (h : (0 ≤ (3 : Int32) ∧ (3 : Int32) < 330) ∧ gE 201 7 [some (.ref 325), some (.int x), some (.int w), some (.int (σ 325 3)), some (.int 0)] [] σ K) : gE 201 0 [some (.ref 325), some (.int x), some (.int w), none, none] [] σ K :=
  gw_run (cy := 201) (cuts := [7]) (inl := []) (pf := gpfS) gpfS_ok 400 (by decide) h
set_option maxRecDepth 20000 in
theorem c325_201_7 {σ : gS} {K : gK} {l1 l2 l3 l4 : Int32} (h : ((¬ l4 < 10 → (0 ≤ (9 + 10 * l3 + (0 : Int32)) ∧ (9 + 10 * l3 + (0 : Int32)) < 330) ∧ (0 ≤ (9 + 10 * l3 + (9 : Int32)) ∧ (9 + 10 * l3 + (9 : Int32)) < 330) ∧ (0 ≤ (9 + 10 * l3 + (8 : Int32)) ∧ (9 + 10 * l3 + (8 : Int32)) < 330) ∧ K none (gup (gup (gup σ 325 (9 + 10 * l3 + (0 : Int32)).toNatClampNeg l1) 325 (9 + 10 * l3 + (9 : Int32)).toNatClampNeg l2) 325 (9 + 10 * l3 + (8 : Int32)).toNatClampNeg 99)) ∧ (l4 < 10 → (0 ≤ (9 + 10 * l3 + l4) ∧ (9 + 10 * l3 + l4) < 330) ∧ gE 201 7 [some (.ref 325), some (.int l1), some (.int l2), some (.int l3), some (.int (l4 + 1))] [] (gup σ 325 (9 + 10 * l3 + l4).toNatClampNeg 0) K))) : gE 201 7 [some (.ref 325), some (.int l1), some (.int l2), some (.int l3), some (.int l4)] [] σ K :=
  gw_run (cy := 201) (cuts := [7]) (inl := []) (pf := gpfS) gpfS_ok 400 (by decide) h
theorem s201_325 {σ : gS} {K : gK} {x w : Int32} (hc : 0 ≤ σ 325 3 ∧ σ 325 3 < 20) (hK : K none (grow σ 325 (fNew (σ 325) x w))) : gE 201 0 [some (.ref 325), some (.int x), some (.int w), none, none] [] σ K := by
  obtain ⟨e3, l3⟩ := t20 hc
  obtain ⟨n, hn⟩ : ∃ n, nM (σ 325) = n := ⟨_, rfl⟩
  have hn' : (σ 325 3).toNatClampNeg = n := hn
  rw [hn'] at e3 l3
  unfold fNew at hK
  rw [hn] at hK
  refine w201_325 ⟨by decide, ?_⟩
  rw [e3]
  have main := g_forI (y := 201) (pc := 7) (K := K) 10 (fun k => [some (.ref 325), some (.int x), some (.int w), some (.int (iN n)), some (.int (iN k))]) (fun k => grow σ 325 (zsh (σ 325) (9 + 10 * n) k)) (fun _ => True) (fun _ => by
    refine c325_201_7 ⟨fun _ => ⟨ixb0 l3, ixb9 l3, ixb8 l3, ?_⟩, fun h => absurd h (by decide)⟩
    rw [ix0 l3, ix8 l3, ix9 l3]
    simp (disch := decide) only [gup_grow, grow_grow, grow_at]
    exact hK) (fun k hk _ ih => by
    refine c325_201_7 ⟨fun h => ?_, fun h => ⟨ixbn k n l3 (by omega), ?_⟩⟩
    · exact absurd ((iN_lt (m := 10) (by omega) (by decide)).mpr hk) h
    · rw [ixn k n l3 (by omega), gup_grow, grow_grow, grow_at, zsh_s, iN_one]
      exact ih trivial) 0 (Nat.zero_le _) trivial
  rw [zsh_0, grow_id] at main
  exact main
noncomputable def f201 : gD := fun Lv σ => match Lv with
  | [some (.ref p), some (.int x), some (.int w), none, none] => cond (Nat.beq p 324 || Nat.beq p 325) (some (some (0 ≤ σ p 3 ∧ σ p 3 < 20), none, grow σ p (fNew (σ p) x w))) none
  | _ => none
theorem ok201 : gFok 201 f201 := by
  intro Lv σ q h hc K hK
  unfold f201 at h
  split at h
  · rename_i p x w
    obtain ⟨hb, h⟩ := c_no h
    have hb0 := hb
    rcases s_or hb0 with hb0 | hb0
    · have e := b_eq hb0
      subst e
      cases h
      exact s201_324 (hc _ rfl) hK
    · have e := b_eq hb0
      subst e
      cases h
      exact s201_325 (hc _ rfl) hK
  · cases h
/-- the number of the first k letters -/
def tnm (T : gW) : Nat → Int32
  | 0 => 0
  | k + 1 => 27 * tnm T k + T k - 96
abbrev smA (T : gW) (k : Nat) : Prop := ∀ j, j < k → isSm (T j)
theorem tnm_b {T : gW} : ∀ {k : Nat}, k ≤ 6 → smA T k → ∃ n : Nat, tnm T k = iN n ∧ n < 27 ^ k
  | 0, _, _ => ⟨0, rfl, by decide⟩
  | k + 1, hk, h => by
    obtain ⟨n, e, l⟩ := tnm_b (show k ≤ 6 by omega) (fun j hj => h j (by omega))
    obtain ⟨h1, h2⟩ := h k (by omega)
    obtain ⟨e2, l2⟩ := iN_of (show 0 ≤ T k by grind)
    obtain ⟨m, hm⟩ : ∃ m, (T k).toNatClampNeg = m := ⟨_, rfl⟩
    rw [hm] at e2 l2
    have h1 : 97 ≤ m := by
      rw [e2] at h1
      exact (iN_le (k := 97) (by decide) l2).mp h1
    have h2 : m ≤ 122 := by
      rw [e2] at h2
      exact (iN_le (m := 122) l2 (by decide)).mp h2
    have lp : 27 ^ k ≤ 27 ^ 5 := Nat.pow_le_pow_right (by decide) (by omega)
    have lp : 27 ^ k ≤ 14348907 := lp
    refine ⟨27 * n + m - 96, ?_, ?_⟩
    · show 27 * tnm T k + T k - 96 = _
      rw [e, e2, show (27 : Int32) = iN 27 from rfl, show (96 : Int32) = iN 96 from rfl, iN_mul, iN_add]
      exact iN_sub (by omega) (by omega)
    · rw [Nat.pow_succ]
      omega
def fTn (T : gW) (L : Int32) : Int32 := if (1 ≤ L ∧ L ≤ 5) ∧ smA T L.toNatClampNeg ∧ nsz (tnm T L.toNatClampNeg) ≤ 5 ∧ ¬ isKey (tnm T L.toNatClampNeg) then tnm T L.toNatClampNeg else -1
set_option maxRecDepth 20000 in
theorem w207 {σ : gS} {K : gK} (h : gE 207 14 [some (.ref 323), some (.int 0), some (.int (bI ((1 : Int32) ≤ (σ 323 8) ∧ (σ 323 8) ≤ (5 : Int32)))), some (.int 0)] [] σ K) : gE 207 0 [some (.ref 323), none, none, none] [] σ K :=
  gw_run (cy := 207) (cuts := [14]) (inl := []) (pf := gpfS) gpfS_ok 400 (by decide) h
set_option maxRecDepth 20000 in
theorem c207_14 {σ : gS} {K : gK} {l1 l2 l3 : Int32} (h : ((¬ l3 < (σ 323 8) → ((l2 = 0 → K (some (.int (-1))) σ) ∧ (¬ l2 = 0 → (0 ≤ l1) ∧ (((bI (nsz l1 ≤ 5 ∧ ¬ isKey l1)) = 0 → K (some (.int (-1))) σ) ∧ (¬ (bI (nsz l1 ≤ 5 ∧ ¬ isKey l1)) = 0 → K (some (.int l1)) σ))))) ∧ (l3 < (σ 323 8) → ((l2 = 0 → ((l2 = 0 → K (some (.int (-1))) σ) ∧ (¬ l2 = 0 → (0 ≤ l1) ∧ (((bI (nsz l1 ≤ 5 ∧ ¬ isKey l1)) = 0 → K (some (.int (-1))) σ) ∧ (¬ (bI (nsz l1 ≤ 5 ∧ ¬ isKey l1)) = 0 → K (some (.int l1)) σ))))) ∧ (¬ l2 = 0 → ((0 ≤ l3) ∧ RT σ) ∧ (0 ≤ l3 ∧ l3 < 1000) ∧ gE 207 14 [some (.ref 323), some (.int (((27 * l1) + (σ 330 l3.toNatClampNeg)) - 96)), some (.int (bI (l3 < σ 323 8 ∧ isSm (σ 330 l3.toNatClampNeg)))), some (.int (l3 + 1))] [] σ K))))) : gE 207 14 [some (.ref 323), some (.int l1), some (.int l2), some (.int l3)] [] σ K :=
  gw_run (cy := 207) (cuts := [14]) (inl := []) (pf := gpfS) gpfS_ok 400 (by decide) h
theorem s207 {σ : gS} {K : gK} (hc : RT σ) (hK : K (some (.int (fTn (σ 330) (σ 323 8)))) σ) : gE 207 0 [some (.ref 323), none, none, none] [] σ K := by
  obtain ⟨h0, h1⟩ := hc
  have no : ∀ n i, ¬ ((1 ≤ σ 323 8 ∧ σ 323 8 ≤ 5) ∧ smA (σ 330) (σ 323 8).toNatClampNeg) → gE 207 14 [some (.ref 323), some (.int n), some (.int 0), some (.int i)] [] σ K := by
    intro n i h
    have e : fTn (σ 330) (σ 323 8) = -1 := if_neg (fun q => h ⟨q.1, q.2.1⟩)
    rw [e] at hK
    exact c207_14 ⟨fun _ => ⟨fun _ => hK, fun h => absurd rfl h⟩, fun _ => ⟨fun _ => ⟨fun _ => hK, fun h => absurd rfl h⟩, fun h => absurd rfl h⟩⟩
  refine w207 ?_
  by_cases hL : 1 ≤ σ 323 8 ∧ σ 323 8 ≤ 5
  · rw [bI_t hL]
    obtain ⟨e, l⟩ := iN_of h0
    obtain ⟨L, hl⟩ : ∃ L, (σ 323 8).toNatClampNeg = L := ⟨_, rfl⟩
    rw [hl] at e l
    have l5 : L ≤ 5 := by
      have h := hL.2
      rw [e] at h
      exact (iN_le (m := 5) l (by decide)).mp h
    refine g_forI (y := 207) (pc := 14) (K := K) L (fun k => [some (.ref 323), some (.int (tnm (σ 330) k)), some (.int 1), some (.int (iN k))]) (fun _ => σ) (fun k => smA (σ 330) k) (fun hi => ?_) (fun k hk hi ih => ?_) 0 (Nat.zero_le _) (fun j hj => absurd hj (Nat.not_lt_zero j))
    · obtain ⟨n, en, ln⟩ := tnm_b (show L ≤ 6 by omega) hi
      have ln : n < 14348907 := Nat.lt_of_lt_of_le ln (show 27 ^ L ≤ 27 ^ 5 from Nat.pow_le_pow_right (by decide) l5)
      have hn0 : 0 ≤ tnm (σ 330) L := by
        rw [en]
        exact (iN_le (k := 0) (by decide) (by omega)).mpr (by omega)
      have ef : fTn (σ 330) (σ 323 8) = if nsz (tnm (σ 330) L) ≤ 5 ∧ ¬ isKey (tnm (σ 330) L) then tnm (σ 330) L else -1 := by
        unfold fTn
        rw [hl]
        by_cases h : nsz (tnm (σ 330) L) ≤ 5 ∧ ¬ isKey (tnm (σ 330) L)
        · rw [if_pos h, if_pos ⟨hL, hi, h⟩]
        · rw [if_neg h, if_neg (fun q => h q.2.2)]
      rw [ef] at hK
      refine c207_14 ⟨fun _ => ⟨fun h => absurd h (by decide), fun _ => ⟨hn0, ?_⟩⟩, fun h => ?_⟩
      · rw [bI_0]
        refine ⟨fun h => ?_, fun h => ?_⟩
        · rw [if_neg h] at hK; exact hK
        · rw [if_pos (Decidable.not_not.mp h)] at hK; exact hK
      · rw [e, iN_lt (by omega) (by omega)] at h; omega
    · refine c207_14 ⟨fun h => ?_, fun h => ⟨fun h => absurd h (by decide), fun _ => ?_⟩⟩
      · rw [e, iN_lt (by omega) (by omega)] at h; omega
      · have hk0 : 0 ≤ iN k := (iN_le (k := 0) (by decide) (by omega)).mpr (by omega)
        refine ⟨⟨hk0, h0, h1⟩, ⟨hk0, (iN_lt (m := 1000) (by omega) (by decide)).mpr (by omega)⟩, ?_⟩
        rw [iN_nat (by omega), iN_one]
        by_cases hs : isSm (σ 330 k)
        · rw [bI_t ⟨h, hs⟩]
          refine ih (fun j hj => ?_)
          rcases Nat.lt_or_ge j k with q | q
          · exact hi j q
          · have : j = k := by omega
            subst this
            exact hs
        · rw [bI_f (fun q => hs q.2)]
          refine no _ _ (fun q => hs (q.2 k ?_))
          rw [hl]; exact hk
  · rw [bI_f hL]
    exact no _ _ (fun q => hL q.1)
noncomputable def f207 : gD := fun Lv σ => match Lv with
  | [some (.ref q0), none, none, none] => cond (Nat.beq q0 323) (some (some (RT σ), some (.int (fTn (σ 330) (σ 323 8))), σ)) none
  | _ => none
theorem ok207 : gFok 207 f207 := by
  intro Lv σ q h hc K hK
  unfold f207 at h
  split at h
  · rename_i q0
    obtain ⟨hb, h⟩ := c_no h
    have hb0 := hb
    have e0 := b_eq hb0
    subst e0
    cases h
    exact s207 (hc _ rfl) hK
  · cases h
noncomputable def gpfT_l : List (Nat × gD) := (201, f201) :: (207, f207) :: gpfS_l
noncomputable def gpfT : gP := gpl0 gpfT_l
theorem gpfT_ok : gPok gpfT := gpl0_cons ok201 (gpl0_cons ok207 (gpfS_ok))
-- text 22
/-! THE REFERENCE: append, truncate, come -/
def wrd (a b c d e : Int32) (k : Nat) : Int32 := if k < 4 then a else if k < 8 then b else if k < 12 then c else if k < 16 then d else e
def byt (a b c d e : Int32) (k : Nat) : Int32 := wrd a b c d e k >>> iN (24 - 8 * (k % 4)) &&& 255
theorem sh20 : ∀ k, k < 20 → (24 - (8 * (iN k - iN k / 4 * 4))) &&& 31 = iN (24 - 8 * (k % 4)) := by decide +kernel
/-- k of the bytes behind n of the tape's -/
def fAp (T : gW) (n : Nat) (B : Nat → Int32) (k : Nat) : gW := fun j => if n ≤ j ∧ j < n + k then B (j - n) else T j
theorem fAp_0 (T : gW) (n : Nat) (B : Nat → Int32) : fAp T n B 0 = T := by funext j; unfold fAp; rw [if_neg (by omega)]
theorem fAp_s (T : gW) (n : Nat) (B : Nat → Int32) (k : Nat) : rup (fAp T n B k) (n + k) (B k) = fAp T n B (k + 1) := by
  funext j
  unfold rup fAp
  by_cases h : j = n + k
  · rw [if_pos h, if_pos (by omega), h, show n + k - n = k by omega]
  · rw [if_neg h]
    by_cases h2 : n ≤ j ∧ j < n + k
    · rw [if_pos h2, if_pos (by omega)]
    · rw [if_neg h2, if_neg (by omega)]
def hAp (σ : gS) (B : Nat → Int32) : gS := if 1000 < σ 323 8 + 20 then σ else grow (grow σ 330 (fAp (σ 330) (σ 323 8).toNatClampNeg B 20)) 323 (rup (σ 323) 8 (σ 323 8 + 20))
theorem l1000 {x : Int32} (h : 0 ≤ x ∧ x ≤ 1000) : x = iN x.toNatClampNeg ∧ x.toNatClampNeg ≤ 1000 := by
  obtain ⟨e, l⟩ := iN_of h.1
  refine ⟨e, ?_⟩
  have h2 := h.2
  rw [e] at h2
  exact (iN_le (m := 1000) l (by decide)).mp h2
set_option maxRecDepth 20000 in
theorem w184 {σ : gS} {K : gK} {a b c d e : Int32} (h : ((¬ 1000 < ((σ 323 8) + 20) → gE 184 18 [some (.ref 323), some (.int a), some (.int b), some (.int c), some (.int d), some (.int e), some (.int 0), none] [] σ K) ∧ (1000 < ((σ 323 8) + 20) → K (some (.int (-1))) σ))) : gE 184 0 [some (.ref 323), some (.int a), some (.int b), some (.int c), some (.int d), some (.int e), none, none] [] σ K :=
  gw_run (cy := 184) (cuts := [18]) (inl := []) (pf := gpfT) gpfT_ok 400 (by decide) h
set_option maxRecDepth 20000 in
theorem c184_18 {σ : gS} {K : gK} {l1 l2 l3 l4 l5 l6 : Int32} {l7 : Option Value} (h : ((¬ l6 < 20 → K (some (.int (σ 323 8))) σ) ∧ (l6 < 20 → ((¬ l6 < 4 → ((¬ l6 < 8 → ((¬ l6 < 12 → ((¬ l6 < 16 → (4 : Int32) ≠ 0 ∧ (0 ≤ (σ 323 8) ∧ (σ 323 8) < 1000) ∧ gE 184 18 [some (.ref 323), some (.int l1), some (.int l2), some (.int l3), some (.int l4), some (.int l5), some (.int (l6 + 1)), some (.int l5)] [] (gup (gup σ 330 (σ 323 8).toNatClampNeg ((l5 >>> ((24 - (8 * (l6 - l6 / 4 * 4))) &&& 31)) &&& 255)) 323 8 (((gup σ 330 (σ 323 8).toNatClampNeg ((l5 >>> ((24 - (8 * (l6 - l6 / 4 * 4))) &&& 31)) &&& 255)) 323 8) + 1)) K) ∧ (l6 < 16 → (4 : Int32) ≠ 0 ∧ (0 ≤ (σ 323 8) ∧ (σ 323 8) < 1000) ∧ gE 184 18 [some (.ref 323), some (.int l1), some (.int l2), some (.int l3), some (.int l4), some (.int l5), some (.int (l6 + 1)), some (.int l4)] [] (gup (gup σ 330 (σ 323 8).toNatClampNeg ((l4 >>> ((24 - (8 * (l6 - l6 / 4 * 4))) &&& 31)) &&& 255)) 323 8 (((gup σ 330 (σ 323 8).toNatClampNeg ((l4 >>> ((24 - (8 * (l6 - l6 / 4 * 4))) &&& 31)) &&& 255)) 323 8) + 1)) K))) ∧ (l6 < 12 → (4 : Int32) ≠ 0 ∧ (0 ≤ (σ 323 8) ∧ (σ 323 8) < 1000) ∧ gE 184 18 [some (.ref 323), some (.int l1), some (.int l2), some (.int l3), some (.int l4), some (.int l5), some (.int (l6 + 1)), some (.int l3)] [] (gup (gup σ 330 (σ 323 8).toNatClampNeg ((l3 >>> ((24 - (8 * (l6 - l6 / 4 * 4))) &&& 31)) &&& 255)) 323 8 (((gup σ 330 (σ 323 8).toNatClampNeg ((l3 >>> ((24 - (8 * (l6 - l6 / 4 * 4))) &&& 31)) &&& 255)) 323 8) + 1)) K))) ∧ (l6 < 8 → (4 : Int32) ≠ 0 ∧ (0 ≤ (σ 323 8) ∧ (σ 323 8) < 1000) ∧ gE 184 18 [some (.ref 323), some (.int l1), some (.int l2), some (.int l3), some (.int l4), some (.int l5), some (.int (l6 + 1)), some (.int l2)] [] (gup (gup σ 330 (σ 323 8).toNatClampNeg ((l2 >>> ((24 - (8 * (l6 - l6 / 4 * 4))) &&& 31)) &&& 255)) 323 8 (((gup σ 330 (σ 323 8).toNatClampNeg ((l2 >>> ((24 - (8 * (l6 - l6 / 4 * 4))) &&& 31)) &&& 255)) 323 8) + 1)) K))) ∧ (l6 < 4 → (4 : Int32) ≠ 0 ∧ (0 ≤ (σ 323 8) ∧ (σ 323 8) < 1000) ∧ gE 184 18 [some (.ref 323), some (.int l1), some (.int l2), some (.int l3), some (.int l4), some (.int l5), some (.int (l6 + 1)), some (.int l1)] [] (gup (gup σ 330 (σ 323 8).toNatClampNeg ((l1 >>> ((24 - (8 * (l6 - l6 / 4 * 4))) &&& 31)) &&& 255)) 323 8 (((gup σ 330 (σ 323 8).toNatClampNeg ((l1 >>> ((24 - (8 * (l6 - l6 / 4 * 4))) &&& 31)) &&& 255)) 323 8) + 1)) K))))) : gE 184 18 [some (.ref 323), some (.int l1), some (.int l2), some (.int l3), some (.int l4), some (.int l5), some (.int l6), l7] [] σ K :=
  gw_run (cy := 184) (cuts := [18]) (inl := []) (pf := gpfT) gpfT_ok 400 (by decide) h
theorem s184 {σ : gS} {K : gK} {a b c d e : Int32} (hc : RT σ) (hK : K (some (.int (if 1000 < σ 323 8 + 20 then -1 else σ 323 8 + 20))) (hAp σ (byt a b c d e))) : gE 184 0 [some (.ref 323), some (.int a), some (.int b), some (.int c), some (.int d), some (.int e), none, none] [] σ K := by
  unfold hAp at hK
  refine w184 ⟨fun h => ?_, fun h => ?_⟩
  · rw [if_neg h, if_neg h] at hK
    obtain ⟨e0, l0⟩ := l1000 hc
    obtain ⟨n, hn⟩ : ∃ n, (σ 323 8).toNatClampNeg = n := ⟨_, rfl⟩
    rw [hn] at e0 l0 hK
    have n980 : n ≤ 980 := by
      rw [e0, show (20 : Int32) = iN 20 from rfl, iN_add, show (1000 : Int32) = iN 1000 from rfl, iN_lt (by omega) (by omega)] at h
      omega
    rw [e0, show (20 : Int32) = iN 20 from rfl, iN_add] at hK
    have main := g_forJ (y := 184) (pc := 18) (K := K) 20 (fun k u => [some (.ref 323), some (.int a), some (.int b), some (.int c), some (.int d), some (.int e), some (.int (iN k)), u]) (fun k => grow (grow σ 330 (fAp (σ 330) n (byt a b c d e) k)) 323 (rup (σ 323) 8 (iN (n + k)))) (fun _ => True) (fun _ u => by
      refine c184_18 ⟨fun _ => ?_, fun h => absurd h (by decide)⟩
      rw [grow_at, rup_at]
      exact hK) (fun k hk _ ih u => by
      have ih := ih trivial
      have hs : grow (grow σ 330 (fAp (σ 330) n (byt a b c d e) k)) 323 (rup (σ 323) 8 (iN (n + k))) 323 8 = iN (n + k) := by rw [grow_at, rup_at]
      have fin : ∀ w, w = wrd a b c d e k → gE 184 18 [some (.ref 323), some (.int a), some (.int b), some (.int c), some (.int d), some (.int e), some (.int (iN k + 1)), some (.int w)] [] (gup (gup (grow (grow σ 330 (fAp (σ 330) n (byt a b c d e) k)) 323 (rup (σ 323) 8 (iN (n + k)))) 330 (grow (grow σ 330 (fAp (σ 330) n (byt a b c d e) k)) 323 (rup (σ 323) 8 (iN (n + k))) 323 8).toNatClampNeg ((w >>> ((24 - (8 * (iN k - iN k / 4 * 4))) &&& 31)) &&& 255)) 323 8 (((gup (grow (grow σ 330 (fAp (σ 330) n (byt a b c d e) k)) 323 (rup (σ 323) 8 (iN (n + k)))) 330 (grow (grow σ 330 (fAp (σ 330) n (byt a b c d e) k)) 323 (rup (σ 323) 8 (iN (n + k))) 323 8).toNatClampNeg ((w >>> ((24 - (8 * (iN k - iN k / 4 * 4))) &&& 31)) &&& 255)) 323 8) + 1)) K := by
        intro w hw
        rw [hs, iN_nat (by omega), sh20 k hk]
        have hb : (w >>> iN (24 - 8 * (k % 4)) &&& 255) = byt a b c d e k := by rw [hw]; rfl
        rw [hb]
        have eh : gup (gup (grow (grow σ 330 (fAp (σ 330) n (byt a b c d e) k)) 323 (rup (σ 323) 8 (iN (n + k)))) 330 (n + k) (byt a b c d e k)) 323 8 (((gup (grow (grow σ 330 (fAp (σ 330) n (byt a b c d e) k)) 323 (rup (σ 323) 8 (iN (n + k)))) 330 (n + k) (byt a b c d e k)) 323 8) + 1) = grow (grow σ 330 (fAp (σ 330) n (byt a b c d e) (k + 1))) 323 (rup (σ 323) 8 (iN (n + (k + 1)))) := by
          rw [← fAp_s]
          simp (disch := decide) only [gup_grow, grow_at, grow_ne, rup_at]
          rw [iN_one, Nat.add_assoc]
          funext p j
          unfold grow rup
          grind
        rw [eh, iN_one]
        exact ih _
      have bd : 0 ≤ iN (n + k) ∧ iN (n + k) < 1000 := ⟨(iN_le (k := 0) (by decide) (by omega)).mpr (by omega), (iN_lt (m := 1000) (by omega) (by decide)).mpr (by omega)⟩
      have lt : ∀ m : Nat, m < 100 → (iN k < iN m ↔ k < m) := fun m hm => iN_lt (by omega) (by omega)
      refine c184_18 ⟨fun h => absurd ((lt 20 (by decide)).mpr hk) h, fun _ => ⟨fun h4 => ⟨fun h8 => ⟨fun h12 => ⟨fun h16 => ⟨by decide, by rw [hs]; exact bd, fin _ ?_⟩, fun h16 => ⟨by decide, by rw [hs]; exact bd, fin _ ?_⟩⟩, fun h12 => ⟨by decide, by rw [hs]; exact bd, fin _ ?_⟩⟩, fun h8 => ⟨by decide, by rw [hs]; exact bd, fin _ ?_⟩⟩, fun h4 => ⟨by decide, by rw [hs]; exact bd, fin _ ?_⟩⟩⟩ <;> unfold wrd
      · have h4 := fun q => h4 ((lt 4 (by decide)).mpr q)
        have h8 := fun q => h8 ((lt 8 (by decide)).mpr q)
        have h12 := fun q => h12 ((lt 12 (by decide)).mpr q)
        have h16 := fun q => h16 ((lt 16 (by decide)).mpr q)
        rw [if_neg h4, if_neg h8, if_neg h12, if_neg h16]
      · have h4 := fun q => h4 ((lt 4 (by decide)).mpr q)
        have h8 := fun q => h8 ((lt 8 (by decide)).mpr q)
        have h12 := fun q => h12 ((lt 12 (by decide)).mpr q)
        rw [if_neg h4, if_neg h8, if_neg h12, if_pos ((lt 16 (by decide)).mp h16)]
      · have h4 := fun q => h4 ((lt 4 (by decide)).mpr q)
        have h8 := fun q => h8 ((lt 8 (by decide)).mpr q)
        rw [if_neg h4, if_neg h8, if_pos ((lt 12 (by decide)).mp h12)]
      · have h4 := fun q => h4 ((lt 4 (by decide)).mpr q)
        rw [if_neg h4, if_pos ((lt 8 (by decide)).mp h8)]
      · rw [if_pos ((lt 4 (by decide)).mp h4)]) 0 (Nat.zero_le _) trivial none
    have e00 : grow (grow σ 330 (fAp (σ 330) n (byt a b c d e) 0)) 323 (rup (σ 323) 8 (iN (n + 0))) = σ := by
      rw [fAp_0, grow_id, Nat.add_zero, ← e0]
      have : rup (σ 323) 8 (σ 323 8) = σ 323 := by
        funext j
        unfold rup
        split
        · rename_i h; rw [h]
        · rfl
      rw [this, grow_id]
    rw [e00] at main
    exact main
  · rw [if_pos h, if_pos h] at hK; exact hK
noncomputable def f184 : gD := fun Lv σ => match Lv with
  | [some (.ref q0), some (.int a), some (.int b), some (.int c), some (.int d), some (.int e), none, none] => cond (Nat.beq q0 323) (some (some (RT σ), some (.int (if 1000 < σ 323 8 + 20 then -1 else σ 323 8 + 20)), hAp σ (byt a b c d e))) none
  | _ => none
theorem ok184 : gFok 184 f184 := by
  intro Lv σ q h hc K hK
  unfold f184 at h
  split at h
  · rename_i q0 a b c d e
    obtain ⟨hb, h⟩ := c_no h
    have hb0 := hb
    have e0 := b_eq hb0
    subst e0
    cases h
    exact s184 (hc _ rfl) hK
  · cases h
abbrev gTru (L n : Int32) : Prop := ¬ n < 0 ∧ ¬ L < n
set_option maxRecDepth 20000 in
theorem w185 {σ : gS} {K : gK} {n : Int32} (h : ((n < 0 → K (some (.int (-1))) σ) ∧ (¬ n < 0 → ((¬ (σ 323 8) < n → K (some (.int ((gup σ 323 8 ((σ 323 8) - n)) 323 8))) (gup σ 323 8 ((σ 323 8) - n))) ∧ ((σ 323 8) < n → K (some (.int (-1))) σ))))) : gE 185 0 [some (.ref 323), some (.int n)] [] σ K :=
  gw_run (cy := 185) (cuts := []) (inl := []) (pf := gpfT) gpfT_ok 400 (by decide) h
theorem s185 {σ : gS} {K : gK} {n : Int32} (hK : K (some (.int (if gTru (σ 323 8) n then σ 323 8 - n else -1))) (if gTru (σ 323 8) n then grow σ 323 (rup (σ 323) 8 (σ 323 8 - n)) else σ)) : gE 185 0 [some (.ref 323), some (.int n)] [] σ K := by
  refine w185 ⟨fun h => ?_, fun h => ⟨fun h2 => ?_, fun h2 => ?_⟩⟩
  · rw [if_neg (fun q => q.1 h), if_neg (fun q => q.1 h)] at hK; exact hK
  · rw [if_pos ⟨h, h2⟩, if_pos ⟨h, h2⟩] at hK
    rw [gup_grow, grow_at, rup_at]
    exact hK
  · rw [if_neg (fun q => q.2 h2), if_neg (fun q => q.2 h2)] at hK; exact hK
noncomputable def f185 : gD := fun Lv σ => match Lv with
  | [some (.ref q0), some (.int n)] => cond (Nat.beq q0 323) (some (none, some (.int (if gTru (σ 323 8) n then σ 323 8 - n else -1)), if gTru (σ 323 8) n then grow σ 323 (rup (σ 323) 8 (σ 323 8 - n)) else σ)) none
  | _ => none
theorem ok185 : gFok 185 f185 := by
  intro Lv σ q h hc K hK
  unfold f185 at h
  split at h
  · rename_i q0 n
    obtain ⟨hb, h⟩ := c_no h
    have hb0 := hb
    have e0 := b_eq hb0
    subst e0
    cases h
    exact s185 hK
  · cases h
set_option maxRecDepth 20000 in
theorem w186 {σ : gS} {K : gK} (h : K (some (.int (σ 323 9))) σ) : gE 186 0 [some (.ref 323)] [] σ K :=
  gw_run (cy := 186) (cuts := []) (inl := []) (pf := gpfT) gpfT_ok 400 (by decide) h
theorem s186 {σ : gS} {K : gK} (hK : K (some (.int (σ 323 9))) σ) : gE 186 0 [some (.ref 323)] [] σ K := by
  exact w186 hK
noncomputable def f186 : gD := fun Lv σ => match Lv with
  | [some (.ref q0)] => cond (Nat.beq q0 323) (some (none, some (.int (σ 323 9)), σ)) none
  | _ => none
theorem ok186 : gFok 186 f186 := by
  intro Lv σ q h hc K hK
  unfold f186 at h
  split at h
  · rename_i q0
    obtain ⟨hb, h⟩ := c_no h
    have hb0 := hb
    have e0 := b_eq hb0
    subst e0
    cases h
    exact s186 hK
  · cases h
/-- what come asks of its numbers -/
abbrev okC (σ : gS) (x k f w s : Int32) : Prop := (((((isS (σ 324) x ∧ (0 ≤ k ∧ k ≤ 1)) ∧ (0 ≤ f ∧ f ≤ 9)) ∧ (0 ≤ w ∧ w ≤ 99)) ∧ (1 ≤ s ∧ s ≤ 99)) ∧ ¬ fTn (σ 330) (σ 323 8) < 0)
abbrev gCom (σ : gS) (x k f w s : Int32) : Prop := (okC σ x k f w s ∧ ¬ σ 324 3 = 20) ∧ (fWho (σ 324) x < 0 ∧ (k = 1 ∨ σ 324 1 ≤ x / 4))
def aCom (σ : gS) (x k f w s : Int32) : Int32 := if okC σ x k f w s then (if σ 324 3 = 20 then -3 else if fWho (σ 324) x < 0 ∧ (k = 1 ∨ σ 324 1 ≤ x / 4) then σ 324 3 else -4) else -1
def nCom (R : gW) (x k f w s nm : Int32) : gW := fTe (radd (rup (rup (rup (rup (fNew R x nm) (9 + 10 * nM R + 1) k) (9 + 10 * nM R + 2) f) (9 + 10 * nM R + 7) w) (9 + 10 * nM R + 8) s) 3 1) 0 (R 3) x
def hCom (σ : gS) (x k f w s : Int32) : gS := if gCom σ x k f w s then grow (grow (hKe σ) 323 (rup (hKe σ 323) 8 0)) 324 (nCom (σ 324) x k f w s (fTn (σ 330) (σ 323 8))) else σ
theorem fNew_ne {R : gW} {x w : Int32} {j : Nat} (h : j < 9 + 10 * nM R ∨ 9 + 10 * nM R + 10 ≤ j) : fNew R x w j = R j := by
  unfold fNew
  rw [rup_ne (by omega), rup_ne (by omega), rup_ne (by omega)]
  unfold zsh
  rw [if_neg (by omega)]
set_option maxRecDepth 20000 in
theorem w208 {σ : gS} {K : gK} {x k f w s : Int32} (h : (RT σ) ∧ (((bI (isS (σ 324) x)) = 0 → K (some (.int (-1))) σ) ∧ (¬ (bI (isS (σ 324) x)) = 0 → (((bI ((0 : Int32) ≤ k ∧ k ≤ (1 : Int32))) = 0 → K (some (.int (-1))) σ) ∧ (¬ (bI ((0 : Int32) ≤ k ∧ k ≤ (1 : Int32))) = 0 → (((bI ((0 : Int32) ≤ f ∧ f ≤ (9 : Int32))) = 0 → K (some (.int (-1))) σ) ∧ (¬ (bI ((0 : Int32) ≤ f ∧ f ≤ (9 : Int32))) = 0 → (((bI ((0 : Int32) ≤ w ∧ w ≤ (99 : Int32))) = 0 → K (some (.int (-1))) σ) ∧ (¬ (bI ((0 : Int32) ≤ w ∧ w ≤ (99 : Int32))) = 0 → (((bI ((1 : Int32) ≤ s ∧ s ≤ (99 : Int32))) = 0 → K (some (.int (-1))) σ) ∧ (¬ (bI ((1 : Int32) ≤ s ∧ s ≤ (99 : Int32))) = 0 → ((¬ (fTn (σ 330) (σ 323 8)) < 0 → (0 ≤ (3 : Int32) ∧ (3 : Int32) < 330) ∧ ((¬ (σ 324 3) = 20 → (0 ≤ σ 324 3 ∧ σ 324 3 ≤ 20) ∧ ((¬ (fWho (σ 324) x) < 0 → K (some (.int (-4))) σ) ∧ ((fWho (σ 324) x) < 0 → (0 ≤ (1 : Int32) ∧ (1 : Int32) < 330) ∧ ((¬ (bI (k = 1 ∨ (σ 324 1) ≤ x / 4)) = 0 → (0 ≤ σ 323 6 ∧ σ 323 6 ≤ 8) ∧ (0 ≤ (3 : Int32) ∧ (3 : Int32) < 330) ∧ (0 ≤ (gup (hKe σ) 323 8 0) 324 3 ∧ (gup (hKe σ) 323 8 0) 324 3 < 20) ∧ (0 ≤ (9 + 10 * ((gup (hKe σ) 323 8 0) 324 3) + (1 : Int32)) ∧ (9 + 10 * ((gup (hKe σ) 323 8 0) 324 3) + (1 : Int32)) < 330) ∧ gE 208 143 [some (.ref 323), some (.int x), some (.int k), some (.int f), some (.int w), some (.int s), some (.int (fTn (σ 330) (σ 323 8))), some (.int ((gup (hKe σ) 323 8 0) 324 3))] [] (gup (grow (gup (hKe σ) 323 8 0) 324 (fNew ((gup (hKe σ) 323 8 0) 324) x (fTn (σ 330) (σ 323 8)))) 324 (9 + 10 * ((gup (hKe σ) 323 8 0) 324 3) + (1 : Int32)).toNatClampNeg k) K) ∧ ((bI (k = 1 ∨ (σ 324 1) ≤ x / 4)) = 0 → K (some (.int (-4))) σ))))) ∧ ((σ 324 3) = 20 → K (some (.int (-3))) σ))) ∧ ((fTn (σ 330) (σ 323 8)) < 0 → K (some (.int (-1))) σ))))))))))))) : gE 208 0 [some (.ref 323), some (.int x), some (.int k), some (.int f), some (.int w), some (.int s), none, none] [] σ K :=
  gw_run (cy := 208) (cuts := [143, 155, 169, 183, 193]) (inl := []) (pf := gpfT) gpfT_ok 400 (by decide) h
set_option maxRecDepth 20000 in
theorem c208_143 {σ : gS} {K : gK} {l1 l2 l3 l4 l5 l6 l7 : Int32} (h : (0 ≤ (9 + 10 * l7 + (2 : Int32)) ∧ (9 + 10 * l7 + (2 : Int32)) < 330) ∧ gE 208 155 [some (.ref 323), some (.int l1), some (.int l2), some (.int l3), some (.int l4), some (.int l5), some (.int l6), some (.int l7)] [] (gup σ 324 (9 + 10 * l7 + (2 : Int32)).toNatClampNeg l3) K) : gE 208 143 [some (.ref 323), some (.int l1), some (.int l2), some (.int l3), some (.int l4), some (.int l5), some (.int l6), some (.int l7)] [] σ K :=
  gw_run (cy := 208) (cuts := [143, 155, 169, 183, 193]) (inl := []) (pf := gpfT) gpfT_ok 400 (by decide) h
set_option maxRecDepth 20000 in
theorem c208_155 {σ : gS} {K : gK} {l1 l2 l3 l4 l5 l6 l7 : Int32} (h : (0 ≤ (9 + 10 * l7 + (7 : Int32)) ∧ (9 + 10 * l7 + (7 : Int32)) < 330) ∧ gE 208 169 [some (.ref 323), some (.int l1), some (.int l2), some (.int l3), some (.int l4), some (.int l5), some (.int l6), some (.int l7)] [] (gup σ 324 (9 + 10 * l7 + (7 : Int32)).toNatClampNeg l4) K) : gE 208 155 [some (.ref 323), some (.int l1), some (.int l2), some (.int l3), some (.int l4), some (.int l5), some (.int l6), some (.int l7)] [] σ K :=
  gw_run (cy := 208) (cuts := [143, 155, 169, 183, 193]) (inl := []) (pf := gpfT) gpfT_ok 400 (by decide) h
set_option maxRecDepth 20000 in
theorem c208_169 {σ : gS} {K : gK} {l1 l2 l3 l4 l5 l6 l7 : Int32} (h : (0 ≤ (9 + 10 * l7 + (8 : Int32)) ∧ (9 + 10 * l7 + (8 : Int32)) < 330) ∧ gE 208 183 [some (.ref 323), some (.int l1), some (.int l2), some (.int l3), some (.int l4), some (.int l5), some (.int l6), some (.int l7)] [] (gup σ 324 (9 + 10 * l7 + (8 : Int32)).toNatClampNeg l5) K) : gE 208 169 [some (.ref 323), some (.int l1), some (.int l2), some (.int l3), some (.int l4), some (.int l5), some (.int l6), some (.int l7)] [] σ K :=
  gw_run (cy := 208) (cuts := [143, 155, 169, 183, 193]) (inl := []) (pf := gpfT) gpfT_ok 400 (by decide) h
set_option maxRecDepth 20000 in
theorem c208_183 {σ : gS} {K : gK} {l1 l2 l3 l4 l5 l6 l7 : Int32} (h : (0 ≤ (3 : Int32) ∧ (3 : Int32) < 330) ∧ (0 ≤ (3 : Int32) ∧ (3 : Int32) < 330) ∧ gE 208 193 [some (.ref 323), some (.int l1), some (.int l2), some (.int l3), some (.int l4), some (.int l5), some (.int l6), some (.int l7)] [] (gup σ 324 3 ((σ 324 3) + 1)) K) : gE 208 183 [some (.ref 323), some (.int l1), some (.int l2), some (.int l3), some (.int l4), some (.int l5), some (.int l6), some (.int l7)] [] σ K :=
  gw_run (cy := 208) (cuts := [143, 155, 169, 183, 193]) (inl := []) (pf := gpfT) gpfT_ok 400 (by decide) h
set_option maxRecDepth 20000 in
theorem c208_193 {σ : gS} {K : gK} {l1 l2 l3 l4 l5 l6 l7 : Int32} (h : (0 ≤ σ 324 209 ∧ σ 324 209 ≤ 40) ∧ K (some (.int l7)) (grow σ 324 (fTe (σ 324) (0 : Int32) l7 l1))) : gE 208 193 [some (.ref 323), some (.int l1), some (.int l2), some (.int l3), some (.int l4), some (.int l5), some (.int l6), some (.int l7)] [] σ K :=
  gw_run (cy := 208) (cuts := [143, 155, 169, 183, 193]) (inl := []) (pf := gpfT) gpfT_ok 400 (by decide) h
theorem s208 {σ : gS} {K : gK} {x k f w s : Int32} (hc : RS σ ∧ RT σ) (hK : K (some (.int (aCom σ x k f w s))) (hCom σ x k f w s)) : gE 208 0 [some (.ref 323), some (.int x), some (.int k), some (.int f), some (.int w), some (.int s), none, none] [] σ K := by
  obtain ⟨⟨⟨h3, h9⟩, hu⟩, hT⟩ := hc
  unfold aCom hCom at hK
  have no : ¬ okC σ x k f w s → K (some (.int (-1))) σ := by
    intro q
    rw [if_neg q, if_neg (fun e => q e.1.1)] at hK
    exact hK
  refine w208 ⟨hT, ?_⟩
  simp only [bI_0]
  refine ⟨fun h => no (fun q => h q.1.1.1.1.1), fun h => ⟨fun h1 => no (fun q => h1 q.1.1.1.1.2), fun h1 => ⟨fun h2 => no (fun q => h2 q.1.1.1.2), fun h2 => ⟨fun h4 => no (fun q => h4 q.1.1.2), fun h4 => ⟨fun h5 => no (fun q => h5 q.1.2), fun h5 => ⟨fun h6 => ?_, fun h6 => no (fun q => q.2 h6)⟩⟩⟩⟩⟩⟩
  have hok : okC σ x k f w s := ⟨⟨⟨⟨⟨Decidable.not_not.mp h, Decidable.not_not.mp h1⟩, Decidable.not_not.mp h2⟩, Decidable.not_not.mp h4⟩, Decidable.not_not.mp h5⟩, h6⟩
  rw [if_pos hok] at hK
  refine ⟨by decide, fun h7 => ⟨h3, fun h8 => ?_, fun h8 => ⟨by decide, fun h10 => ⟨hu, by decide, ?_⟩, fun h10 => ?_⟩⟩, fun h7 => ?_⟩
  · have n8 : ¬ (fWho (σ 324) x < 0 ∧ (k = 1 ∨ σ 324 1 ≤ x / 4)) := fun q => h8 q.1
    rw [if_neg h7, if_neg n8, if_neg (show ¬ gCom σ x k f w s from fun q => n8 q.2)] at hK; exact hK
  · have h10 := Decidable.not_not.mp h10
    rw [if_neg h7, if_pos ⟨h8, h10⟩, if_pos (show gCom σ x k f w s from ⟨⟨hok, h7⟩, h8, h10⟩)] at hK
    have h20 : 0 ≤ σ 324 3 ∧ σ 324 3 < 20 := ⟨h3.1, by have := h3.2; grind⟩
    obtain ⟨e3, l3⟩ := t20 h20
    obtain ⟨n, hn⟩ : ∃ n, nM (σ 324) = n := ⟨_, rfl⟩
    have hn' : (σ 324 3).toNatClampNeg = n := hn
    rw [hn'] at e3 l3
    have e0 : gup (hKe σ) 323 8 0 324 = σ 324 := by rw [gup_grow, grow_ne (by decide), hKe_324]
    rw [e0]
    refine ⟨h20, by rw [e3]; exact ixb1 l3, ?_⟩
    unfold nCom at hK
    rw [hn] at hK
    rw [e3, ix1 l3]
    refine c208_143 ⟨ixb2 l3, c208_155 ⟨ixb7 l3, c208_169 ⟨ixb8 l3, c208_183 ⟨by decide, by decide, c208_193 ?_⟩⟩⟩⟩
    rw [ix2 l3, ix7 l3, ix8 l3]
    simp (disch := decide) only [gup_grow, grow_grow, grow_at]
    refine ⟨?_, ?_⟩
    · refine bnd209 (by decide) (bnd209 (by omega) (bnd209 (by omega) (bnd209 (by omega) (bnd209 (by omega) ?_))))
      rw [fNew_ne (by omega)]
      exact h9
    · rw [e3] at hK
      exact hK
  · have n8 : ¬ (fWho (σ 324) x < 0 ∧ (k = 1 ∨ σ 324 1 ≤ x / 4)) := fun q => h10 q.2
    rw [if_neg h7, if_neg n8, if_neg (show ¬ gCom σ x k f w s from fun q => n8 q.2)] at hK; exact hK
  · rw [if_pos h7, if_neg (show ¬ gCom σ x k f w s from fun q => q.1.2 h7)] at hK; exact hK
noncomputable def f208 : gD := fun Lv σ => match Lv with
  | [some (.ref q0), some (.int x), some (.int k), some (.int f), some (.int w), some (.int s), none, none] => cond (Nat.beq q0 323) (some (some (RS σ ∧ RT σ), some (.int (aCom σ x k f w s)), hCom σ x k f w s)) none
  | _ => none
theorem ok208 : gFok 208 f208 := by
  intro Lv σ q h hc K hK
  unfold f208 at h
  split at h
  · rename_i q0 x k f w s
    obtain ⟨hb, h⟩ := c_no h
    have hb0 := hb
    have e0 := b_eq hb0
    subst e0
    cases h
    exact s208 (hc _ rfl) hK
  · cases h
