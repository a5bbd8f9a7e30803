/-! THE READER, forward: a text's first token, told by its letters -/
def gLs (u : List Int32) : gW := fun j => u.getD j 0
noncomputable def nS (u : List Int32) : Nat := tkS (gLs u) u.length 0
noncomputable def nK (u : List Int32) : Int32 := rKi (gLs u) u.length (nS u)
noncomputable def nV (u : List Int32) : Int32 := rVa (gLs u) u.length (nS u)
noncomputable def nE (u : List Int32) : Nat := rPl (gLs u) u.length (nS u)
noncomputable def nU (u : List Int32) : List Int32 := u.drop (nE u)
theorem skp_sh {P : Nat → Bool} {p : Nat} : ∀ d s, skp P d (p + s) = p + skp (fun i => P (p + i)) d s
  | 0, s => rfl
  | d + 1, s => by
    show (if P (p + s) = true then skp P d (p + s + 1) else p + s) = p + (if P (p + s) = true then skp (fun i => P (p + i)) d (s + 1) else s)
    by_cases h : P (p + s) = true
    · rw [if_pos h, if_pos h]
      exact skp_sh d (s + 1)
    · rw [if_neg h, if_neg h]
theorem skq_cg {P Q : Nat → Bool} : ∀ d s, (∀ i, s ≤ i → i < s + d → P i = Q i) → skp P d s = skp Q d s
  | 0, s, _ => rfl
  | d + 1, s, h => by
    show (if P s = true then skp P d (s + 1) else s) = (if Q s = true then skp Q d (s + 1) else s)
    rw [h s (Nat.le_refl _) (by omega), skq_cg d (s + 1) (fun i h1 h2 => h i (by omega) (by omega))]
theorem skp_n {P : Nat → Bool} : ∀ n d s, n ≤ d → (∀ j, j < n → P (s + j) = true) → (n = d ∨ P (s + n) = false) → skp P d s = s + n
  | 0, 0, s, _, _, _ => rfl
  | 0, d + 1, s, _, _, h => by
    show (if P s = true then skp P d (s + 1) else s) = s
    rcases h with h | h
    · omega
    · have h : P s = false := h
      rw [h]
      rfl
  | n + 1, 0, s, h, _, _ => by omega
  | n + 1, d + 1, s, h, hp, he => by
    show (if P s = true then skp P d (s + 1) else s) = s + (n + 1)
    rw [if_pos (show P s = true from hp 0 (by omega)), skp_n n d (s + 1) (by omega) (fun j hj => ?_) ?_]
    · omega
    · rcases he with he | he
      · exact Or.inl (by omega)
      · right
        rw [show s + 1 + n = s + (n + 1) by omega]
        exact he
    · rw [show s + 1 + j = s + (j + 1) by omega]
      exact hp (j + 1) (by omega)
section RD
variable {T G : gW} {p n S : Nat}
theorem tk_sh (h : ∀ i, i < n → T (p + i) = G i) : tkS T (p + n) p = p + tkS G n 0 := by
  unfold tkS
  rw [show p + n - p = n - 0 by omega]
  refine (skp_sh (p := p) (n - 0) 0).trans ?_
  rw [skq_cg (P := fun i => decide (cKd (T (p + i)) = 1)) (Q := fun i => decide (cKd (G i) = 1)) (n - 0) 0 (fun i _ hi => by rw [h i (by omega)])]
theorem rn_sh {c : Int32} (h : ∀ i, i < n → T (p + i) = G i) : rnE c T (p + n) (p + S) = p + rnE c G n S := by
  unfold rnE
  rw [show p + n - (p + S) = n - S by omega]
  refine (skp_sh (p := p) (n - S) S).trans ?_
  rw [skq_cg (P := fun i => decide (cKd (T (p + i)) = c)) (Q := fun i => decide (cKd (G i) = c)) (n - S) S (fun i _ hi => by rw [h i (by omega)])]
theorem wv_sh (h : ∀ i, i < n → T (p + i) = G i) : ∀ k, S + k ≤ n → wvN T (p + S) k = wvN G S k
  | 0, _ => rfl
  | k + 1, hk => by
    show 27 * wvN T (p + S) k + T (p + S + k) - 96 = 27 * wvN G S k + G (S + k) - 96
    rw [wv_sh h k (by omega), show p + S + k = p + (S + k) by omega, h (S + k) (by omega)]
theorem nu_sh (h : ∀ i, i < n → T (p + i) = G i) : ∀ k, S + k ≤ n → nuN T (p + S) k = nuN G S k
  | 0, _ => rfl
  | k + 1, hk => by
    show 10 * nuN T (p + S) k + T (p + S + k) - 48 = 10 * nuN G S k + G (S + k) - 48
    rw [nu_sh h k (by omega), show p + S + k = p + (S + k) by omega, h (S + k) (by omega)]
theorem pl_sh (h : ∀ i, i < n → T (p + i) = G i) (hS : S ≤ n) : rPl T (p + n) (p + S) = p + rPl G n S := by
  unfold rPl
  by_cases z : S = n
  · rw [if_pos (by omega), if_pos z]
  · rw [if_neg (by omega), if_neg z, h S (by omega), rn_sh h, rn_sh h]
    split
    · rfl
    · split <;> rfl
theorem pl_b (hS : S ≤ n) : S ≤ rPl G n S ∧ rPl G n S ≤ n := by
  unfold rPl
  by_cases z : S = n
  · rw [if_pos z]
    omega
  · rw [if_neg z]
    split
    · exact rnE_b hS
    · split
      · exact rnE_b hS
      · omega
theorem va_sh (h : ∀ i, i < n → T (p + i) = G i) (hS : S ≤ n) : rVa T (p + n) (p + S) = rVa G n S := by
  have hb := pl_b (G := G) hS
  unfold rVa
  by_cases z : S = n
  · rw [if_pos (by omega), if_pos z]
  · rw [if_neg (by omega), if_neg z, h S (by omega), pl_sh h hS, show p + rPl G n S - (p + S) = rPl G n S - S by omega, wv_sh h _ (by omega), nu_sh h _ (by omega)]
theorem ki_sh (h : ∀ i, i < n → T (p + i) = G i) (hS : S ≤ n) : rKi T (p + n) (p + S) = rKi G n S := by
  unfold rKi
  by_cases z : S = n
  · rw [if_pos (by omega), if_pos z]
  · rw [if_neg (by omega), if_neg z, h S (by omega), pl_sh h hS, show p + rPl G n S - (p + S) = rPl G n S - S by omega]
theorem tk_b : tkS G n 0 ≤ n := by
  have := skp_b (P := fun i => decide (cKd (G i) = 1)) (d := n - 0) (s := 0)
  unfold tkS
  omega
end RD
/-- the reader stands on a token of kind k, number v; behind it the letters u; the draft is D; the rest is as in ρ -/
def TK (ρ σ : gS) (k v : Int32) (u : List Int32) (D : gW) : Prop := ((σ 323 15 = 0 ∧ σ 323 9 = -2) ∧ (σ 323 13 = k ∧ σ 323 14 = v)) ∧ (∃ p, σ 323 11 = iN p ∧ σ 323 8 = iN (p + u.length) ∧ p + u.length ≤ 1000 ∧ ∀ j, j < u.length → σ 330 (p + j) = u.getD j 0) ∧ σ 325 = D ∧ (∀ q, ¬ q = 323 → ¬ q = 325 → σ q = ρ q) ∧ ∀ j, (j < 9 ∨ 17 < j) → σ 323 j = ρ 323 j
section TKS
variable {ρ σ : gS} {k v : Int32} {u : List Int32} {D : gW}
theorem nx_go (h : TK ρ σ k v u D) : TK ρ (rNx σ) (nK u) (nV u) (nU u) D := by
  obtain ⟨⟨⟨h15, h9⟩, h13, h14⟩, ⟨p, h11, h8, hL, hT⟩, h25, hf, hj⟩ := h
  have n11 : (σ 323 11).toNatClampNeg = p := by rw [h11]; exact iN_nat (by omega)
  have n8 : (σ 323 8).toNatClampNeg = p + u.length := by rw [h8]; exact iN_nat (by omega)
  have hS : nS u ≤ u.length := tk_b
  have hE := pl_b (G := gLs u) hS
  have e1 : rSt σ = p + nS u := by
    unfold rSt
    rw [n8, n11]
    exact tk_sh hT
  have e2 : rNx σ = rNx4 σ (p + nS u) (nV u) (nK u) (p + nE u) := by
    rw [rNx_e, e1, n8, va_sh (G := gLs u) hT hS, ki_sh (G := gLs u) hT hS, pl_sh (G := gLs u) hT hS]
    rfl
  have hE2 : nE u ≤ u.length := hE.2
  have lU : (nU u).length = u.length - nE u := List.length_drop
  rw [e2]
  have ff : ∀ q j, ¬ q = 323 → rNx4 σ (p + nS u) (nV u) (nK u) (p + nE u) q j = σ q j := fun q j hq => if_neg hq
  have fj : ∀ j, ¬ (j = 11 ∨ j = 12 ∨ j = 13 ∨ j = 14) → rNx4 σ (p + nS u) (nV u) (nK u) (p + nE u) 323 j = σ 323 j := by
    intro j hj
    show (if 323 = 323 then _ else _) = _
    rw [if_pos rfl, if_neg (by omega), if_neg (by omega), if_neg (by omega), if_neg (by omega)]
  refine ⟨⟨⟨(fj 15 (by omega)).trans h15, (fj 9 (by omega)).trans h9⟩, rfl, rfl⟩, ⟨p + nE u, rfl, ?_, by omega, fun j hj => ?_⟩, ?_, fun q h1 h2 => ?_, fun j h1 => ?_⟩
  · rw [fj 8 (by omega), h8]
    congr 1
    omega
  · rw [ff 330 _ (by decide), show p + nE u + j = p + (nE u + j) by omega, hT _ (by omega)]
    unfold nU
    rw [List.getD_eq_getElem?_getD, List.getD_eq_getElem?_getD, List.getElem?_drop]
  · rw [← h25]
    funext j
    exact ff 325 j (by decide)
  · rw [← hf q h1 h2]
    funext j
    exact ff q j h1
  · rw [fj j (by omega)]
    exact hj j h1
theorem tk_go {c : Int32} (h : TK ρ σ k v u D) (hc : ¬ c = 0) : TK ρ (rTk σ c) (nK u) (nV u) (nU u) D := by
  rw [rTk_e, if_pos h.1.1.1, if_neg hc]
  exact nx_go h
theorem bI_nz {P : Prop} [Decidable P] (h : P) : ¬ bI P = 0 := by
  unfold bI
  rw [if_pos h]
  decide
theorem tn_go {a b : Int32} (h : TK ρ σ 2 v u D) (hv : a ≤ v ∧ v ≤ b) : TK ρ (rTn σ a b) (nK u) (nV u) (nU u) D ∧ rNm σ a b = v := by
  have ho : rOk σ a b := ⟨h.1.2.1, by rw [h.1.2.2]; exact hv⟩
  refine ⟨tk_go h (bI_nz ho), ?_⟩
  unfold rNm
  rw [if_pos ⟨h.1.1.1, ho⟩]
  exact h.1.2.2
theorem TK.up {j : Nat} {x : Int32} (h : TK ρ σ k v u D) : TK ρ (gup σ 325 j x) k v u (rup D j x) := by
  obtain ⟨⟨⟨h15, h9⟩, h13, h14⟩, ⟨p, h11, h8, hL, hT⟩, h25, hf, hj⟩ := h
  have ff : ∀ q, ¬ q = 325 → gup σ 325 j x q = σ q := fun q hq => by
    funext i
    exact gup_ne (by omega)
  refine ⟨⟨⟨by rw [ff 323 (by decide)]; exact h15, by rw [ff 323 (by decide)]; exact h9⟩, by rw [ff 323 (by decide)]; exact h13, by rw [ff 323 (by decide)]; exact h14⟩, ⟨p, by rw [ff 323 (by decide)]; exact h11, by rw [ff 323 (by decide)]; exact h8, hL, fun i hi => by rw [ff 330 (by decide)]; exact hT i hi⟩, ?_, fun q h1 h2 => (ff q h2).trans (hf q h1 h2), fun i hi => by rw [ff 323 (by decide)]; exact hj i hi⟩
  rw [← h25]
  funext i
  unfold gup rup
  grind
theorem TK.gr {R : gW} (h : TK ρ σ k v u D) : TK ρ (grow σ 325 R) k v u R := by
  obtain ⟨⟨⟨h15, h9⟩, h13, h14⟩, ⟨p, h11, h8, hL, hT⟩, h25, hf, hj⟩ := h
  have ff : ∀ q, ¬ q = 325 → grow σ 325 R q = σ q := fun q hq => grow_ne hq
  exact ⟨⟨⟨by rw [ff 323 (by decide)]; exact h15, by rw [ff 323 (by decide)]; exact h9⟩, by rw [ff 323 (by decide)]; exact h13, by rw [ff 323 (by decide)]; exact h14⟩, ⟨p, by rw [ff 323 (by decide)]; exact h11, by rw [ff 323 (by decide)]; exact h8, hL, fun i hi => by rw [ff 330 (by decide)]; exact hT i hi⟩, grow_at _ _ _, fun q h1 h2 => (ff q h2).trans (hf q h1 h2), fun i hi => by rw [ff 323 (by decide)]; exact hj i hi⟩
end TKS
/-! a text's first token -/
theorem gLs_1 {c : Int32} {u : List Int32} (i : Nat) : gLs (c :: u) (1 + i) = gLs u i := by
  unfold gLs
  rw [Nat.add_comm 1 i]
  rfl
theorem sp_S (u : List Int32) : nS (32 :: u) = 1 + nS u := by
  unfold nS tkS
  show skp _ (u.length + 1 - 0) 0 = _
  rw [show u.length + 1 - 0 = u.length + 1 by omega]
  show (if decide (cKd (gLs (32 :: u) 0) = 1) = true then skp _ u.length (0 + 1) else 0) = _
  rw [if_pos (decide_eq_true (show cKd (gLs (32 :: u) 0) = 1 from (by decide : cKd 32 = 1)))]
  refine (skp_sh (p := 1) u.length 0).trans ?_
  rw [skq_cg (P := fun i => decide (cKd (gLs (32 :: u) (1 + i)) = 1)) (Q := fun i => decide (cKd (gLs u i) = 1)) u.length 0 (fun i _ hi => by rw [gLs_1])]
  rfl
/-- a space before is passed -/
theorem sp_T (u : List Int32) : nK (32 :: u) = nK u ∧ nV (32 :: u) = nV u ∧ nU (32 :: u) = nU u := by
  have h : ∀ i, i < u.length → gLs (32 :: u) (1 + i) = gLs u i := fun i _ => gLs_1 i
  have hS : nS u ≤ u.length := tk_b
  have e : (32 :: u).length = 1 + u.length := Nat.add_comm u.length 1
  have eE : nE (32 :: u) = 1 + nE u := by
    unfold nE
    rw [sp_S, e]
    exact pl_sh h hS
  refine ⟨?_, ?_, ?_⟩
  · unfold nK
    rw [sp_S, e]
    exact ki_sh h hS
  · unfold nV
    rw [sp_S, e]
    exact va_sh h hS
  · unfold nU
    rw [eE, Nat.add_comm]
    rfl
theorem no_S {c : Int32} {u : List Int32} (h : ¬ cKd c = 1) : nS (c :: u) = 0 := by
  unfold nS tkS
  show (if decide (cKd (gLs (c :: u) 0) = 1) = true then skp _ u.length (0 + 1) else 0) = _
  rw [if_neg (by rw [decide_eq_true_eq]; exact h)]
/-- the end -/
theorem en_T : nK [] = 0 ∧ nV [] = 0 ∧ nU [] = [] := by
  have e : nS [] = 0 := rfl
  refine ⟨?_, ?_, ?_⟩
  · unfold nK rKi
    rw [e, if_pos (show 0 = ([] : List Int32).length from rfl)]
  · unfold nV rVa
    rw [e, if_pos (show 0 = ([] : List Int32).length from rfl)]
  · unfold nU
    rw [List.drop_nil]
/-- a sign -/
theorem sg_T {c : Int32} (u : List Int32) (h : c = 59 ∨ c = 43 ∨ c = 45) : nK (c :: u) = (if c = 59 then 3 else if c = 43 then 4 else 5) ∧ nV (c :: u) = 0 ∧ nU (c :: u) = u := by
  have e0 : nS (c :: u) = 0 := no_S (by rcases h with rfl | rfl | rfl <;> decide)
  have eg : gLs (c :: u) 0 = c := rfl
  have h1 : ¬ isSm c := by rcases h with rfl | rfl | rfl <;> decide
  have h2 : ¬ isDg c := by rcases h with rfl | rfl | rfl <;> decide
  refine ⟨?_, ?_, ?_⟩
  · unfold nK rKi
    rw [e0, eg, if_neg (by show ¬ 0 = u.length + 1; omega), if_neg h1, if_neg h2]
    rcases h with rfl | rfl | rfl <;> rfl
  · unfold nV rVa
    rw [e0, eg, if_neg (by show ¬ 0 = u.length + 1; omega), if_neg h1, if_neg h2]
  · unfold nU nE rPl
    rw [e0, eg, if_neg (by show ¬ 0 = u.length + 1; omega), if_neg h1, if_neg h2]
    rfl
theorem rn_run {c : Int32} {w u : List Int32} (hw : ∀ x ∈ w, cKd x = c) (hu : u = [] ∨ ¬ cKd (u.getD 0 0) = c) : rnE c (gLs (w ++ u)) (w ++ u).length 0 = w.length := by
  unfold rnE
  rw [skp_n w.length ((w ++ u).length - 0) 0 (by rw [List.length_append]; omega) (fun j hj => ?_) ?_, Nat.zero_add]
  · rcases hu with rfl | hu
    · left
      rw [List.append_nil]
      rfl
    · right
      rw [Nat.zero_add]
      refine decide_eq_false ?_
      unfold gLs
      rw [getD_app2 (Nat.le_refl _), Nat.sub_self]
      exact hu
  · rw [Nat.zero_add]
    refine decide_eq_true (hw _ ?_)
    unfold gLs
    rw [getD_app1 hj]
    exact getD_mem hj
/-- a word's number -/
noncomputable def wvl (w : List Int32) : Int32 := wvN (gLs w) 0 w.length
theorem wv_app {w u : List Int32} : ∀ k, k ≤ w.length → wvN (gLs (w ++ u)) 0 k = wvN (gLs w) 0 k
  | 0, _ => rfl
  | k + 1, hk => by
    show 27 * wvN (gLs (w ++ u)) 0 k + gLs (w ++ u) (0 + k) - 96 = 27 * wvN (gLs w) 0 k + gLs w (0 + k) - 96
    rw [wv_app k (by omega)]
    unfold gLs
    rw [getD_app1 (by omega)]
theorem nu_app {w u : List Int32} : ∀ k, k ≤ w.length → nuN (gLs (w ++ u)) 0 k = nuN (gLs w) 0 k
  | 0, _ => rfl
  | k + 1, hk => by
    show 10 * nuN (gLs (w ++ u)) 0 k + gLs (w ++ u) (0 + k) - 48 = 10 * nuN (gLs w) 0 k + gLs w (0 + k) - 48
    rw [nu_app k (by omega)]
    unfold gLs
    rw [getD_app1 (by omega)]
theorem wd_T {w u : List Int32} (hw : ∀ x ∈ w, isSm x) (h1 : 1 ≤ w.length ∧ w.length ≤ 6) (hu : u = [] ∨ ¬ isSm (u.getD 0 0)) : nK (w ++ u) = 1 ∧ nV (w ++ u) = wvl w ∧ nU (w ++ u) = u := by
  obtain ⟨c, w', rfl⟩ : ∃ c w', w = c :: w' := by
    cases w with
    | nil => exact absurd h1.1 (by decide)
    | cons c w' => exact ⟨c, w', rfl⟩
  have hc : isSm c := hw c List.mem_cons_self
  have e0 : nS (c :: w' ++ u) = 0 := no_S (u := w' ++ u) (by rw [cKd_2.mpr hc]; decide)
  have eg : gLs (c :: w' ++ u) 0 = c := rfl
  have er := rn_run (c := 2) (w := c :: w') (u := u) (fun x hx => cKd_2.mpr (hw x hx)) (hu.imp id (fun z => fun y => z (cKd_2.mp y)))
  have hl : ¬ 0 = (c :: w' ++ u).length := by
    rw [List.length_append]
    omega
  have ep : rPl (gLs (c :: w' ++ u)) (c :: w' ++ u).length 0 = (c :: w').length := by
    unfold rPl
    rw [if_neg hl, eg, if_pos hc]
    exact er
  refine ⟨?_, ?_, ?_⟩
  · unfold nK rKi
    rw [e0, ep, if_neg hl, eg, if_pos hc, if_neg (by omega)]
  · unfold nV rVa
    rw [e0, ep, if_neg hl, eg, if_pos hc, Nat.sub_zero, Nat.min_eq_left h1.2]
    exact wv_app _ (Nat.le_refl _)
  · unfold nU nE
    rw [e0, ep]
    exact List.drop_left
theorem dg_d : ∀ k, k < 100 → (∀ x ∈ dg k, isDg x) ∧ nuN (gLs (dg k)) 0 (dg k).length = iN k := by
  have e : ∀ k, k < 100 → (∀ x ∈ dg k, isDg x) ∧ nuN (gLs (dg k)) 0 (dg k).length = Int32.ofNat k := by decide +kernel
  exact e
theorem nu_T {k : Nat} {u : List Int32} (hk : k < 100) (hu : u = [] ∨ ¬ isDg (u.getD 0 0)) : nK (dg k ++ u) = 2 ∧ nV (dg k ++ u) = iN k ∧ nU (dg k ++ u) = u := by
  obtain ⟨hw, hv⟩ := dg_d k hk
  obtain ⟨-, l2, l1⟩ := dg_lt k hk
  generalize dg k = w at *
  obtain ⟨c, w', rfl⟩ : ∃ c w', w = c :: w' := by
    cases w with
    | nil => exact absurd l1 (by decide)
    | cons c w' => exact ⟨c, w', rfl⟩
  have hc : isDg c := hw c List.mem_cons_self
  have hn : ¬ isSm c := by
    unfold isSm isDg at *
    grind
  have e0 : nS (c :: w' ++ u) = 0 := no_S (u := w' ++ u) (by rw [cKd_3.mpr hc]; decide)
  have eg : gLs (c :: w' ++ u) 0 = c := rfl
  have er := rn_run (c := 3) (w := c :: w') (u := u) (fun x hx => cKd_3.mpr (hw x hx)) (hu.imp id (fun z => fun y => z (cKd_3.mp y)))
  have hl : ¬ 0 = (c :: w' ++ u).length := by
    rw [List.length_append]
    omega
  have ep : rPl (gLs (c :: w' ++ u)) (c :: w' ++ u).length 0 = (c :: w').length := by
    unfold rPl
    rw [if_neg hl, eg, if_neg hn, if_pos hc]
    exact er
  refine ⟨?_, ?_, ?_⟩
  · unfold nK rKi
    rw [e0, ep, if_neg hl, eg, if_neg hn, if_pos hc, if_neg (by omega)]
  · unfold nV rVa
    rw [e0, ep, if_neg hl, eg, if_neg hn, if_pos hc, Nat.sub_zero, Nat.min_eq_left l2, nu_app _ (Nat.le_refl _)]
    exact hv
  · unfold nU nE
    rw [e0, ep]
    exact List.drop_left
