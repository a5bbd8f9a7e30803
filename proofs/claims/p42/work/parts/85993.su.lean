/-! THE SETUP'S TEXT, of the row alone -/
theorem wr_n : ∀ (l : List Int32) (σ : gS) (c : Nat), σ 5 0 = iN c → wr σ l 5 0 = iN (c + l.length)
  | [], _, _, h => by
    rw [wr_nil]
    exact h
  | x :: l, σ, c, h => by
    have e : pu σ x 5 0 = iN (c + 1) := by
      unfold pu
      split
      · rw [gup_at, gup_ne (by omega), h, iN_one]
      · rw [gup_at, h, iN_one]
    have := wr_n l (pu σ x) (c + 1) e
    rw [wr_cons, List.length_cons, show c + (l.length + 1) = c + 1 + l.length by omega]
    exact this
theorem pu_1 {σ : gS} {x : Int32} : pu σ x 5 1 = σ 5 1 := by
  unfold pu
  split
  · rw [gup_ne (by omega), gup_ne (by omega)]
  · rw [gup_ne (by omega)]
theorem wr_1 : ∀ (l : List Int32) (σ : gS), wr σ l 5 1 = σ 5 1
  | [], σ => by rw [wr_nil]
  | x :: l, σ => by
    rw [wr_cons]
    exact (wr_1 l (pu σ x)).trans pu_1
theorem wr_2 {p : Nat} (hp : p < 2147483648) : ∀ (l : List Int32) (σ : gS) (c : Nat), σ 5 0 = iN c → σ 5 1 = iN p → c + l.length < 2147483648 → wr σ l 5 2 = if c ≤ p ∧ p < c + l.length then l.getD (p - c) 0 else σ 5 2
  | [], σ, c, _, _, _ => by
    rw [if_neg (by rw [List.length_nil]; omega), wr_nil]
  | x :: l, σ, c, h0, h1, hc => by
    rw [List.length_cons] at hc ⊢
    have e0 : pu σ x 5 0 = iN (c + 1) := by
      unfold pu
      split
      · rw [gup_at, gup_ne (by omega), h0, iN_one]
      · rw [gup_at, h0, iN_one]
    have e1 : pu σ x 5 1 = iN p := pu_1.trans h1
    have := wr_2 hp l (pu σ x) (c + 1) e0 e1 (by omega)
    rw [wr_cons, this]
    by_cases z : c = p
    · rw [if_neg (by omega), if_pos (by omega), show p - c = 0 by omega]
      unfold pu
      rw [if_pos (by rw [h0, h1, z]), gup_ne (by omega), gup_at]
      rfl
    · have e2 : pu σ x 5 2 = σ 5 2 := by
        unfold pu
        rw [if_neg (fun y => z ((iN_inj (by omega) (by omega)).mp (h0.symm.trans (y.trans h1)))), gup_ne (by omega)]
      rw [e2]
      by_cases q : c + 1 ≤ p ∧ p < c + 1 + l.length
      · rw [if_pos q, if_pos (by omega), show p - c = p - (c + 1) + 1 by omega]
        rfl
      · rw [if_neg q, if_neg (by omega)]
/-- the writer told to find the letter at p -/
noncomputable def wz5 (σ : gS) (p : Int32) : gS := gup (gup (gup σ 5 0 0) 5 1 p) 5 2 (-2)
theorem wz5_o {σ : gS} {p : Int32} {q : Nat} (h : ¬ q = 5) : wz5 σ p q = σ q := by
  unfold wz5
  funext j
  rw [gup_ne (by omega), gup_ne (by omega), gup_ne (by omega)]
theorem p34 {σ : gS} {P : gS → Prop} {p : Int32} {n : Nat} (h20 : n ≤ 20) (h7 : σ 6 7 = iN n) (h : P (wr (wz5 σ p) (gSe σ n))) : gXv 34 [some (.ref 5), some (.ref 6), some (.int p), none] σ P := by
  have o : ∀ (l : List Int32) (τ : gS), wr τ l 6 = τ 6 := fun l τ => wr_o (by decide) l τ
  have oo : wz5 σ p 6 = σ 6 := wz5_o (by decide)
  unfold gSe at h
  rw [wr_app, wr_app, wr_app, wr_app, wr_app] at h
  refine w34 (p39_10 (c34_22 (p38 (c34_30 (p39_11 (c34_36 (p38 (c34_44 (p40 (e52 h20 n 0 _ (Nat.zero_add n) ?_ ?_))))))))))
  · show wr (wr (wr (wr (wr (wz5 σ p) (oT 10)) _) (oT 11)) _) [59] 6 7 = _
    rw [o, o, o, o, o, oo]
    exact h7
  · show P (wr (wr (wr (wr (wr (wr (wz5 σ p) (oT 10)) (numL (wr (wz5 σ p) (oT 10) 6 4))) (oT 11)) (numL (wr (wr (wr (wz5 σ p) (oT 10)) (numL (wr (wz5 σ p) (oT 10) 6 4))) (oT 11) 6 5))) [59]) (gLn _ n 0))
    have eg : ∀ τ : gS, (∀ q, ¬ q = 5 → τ q = σ q) → gLn τ n 0 = gLn σ n 0 := fun τ z => gLn_cg z n 0
    rw [eg]
    · rw [o, o, o, o, oo]
      exact h
    · intro q hq
      rw [wr_o hq, wr_o hq, wr_o hq, wr_o hq, wr_o hq]
      exact wz5_o hq
theorem wz5_u {σ : gS} {p : Int32} {l : List Int32} : Uw σ (wr (wz5 σ p) l) := fun q hq => (wr_o hq _ _).trans (wz5_o hq)
/-- the setup's text over a SeatSwap: its letters -/
noncomputable def stX (σ : gS) : List Int32 := gSe σ (σ 6 7).toNatClampNeg
theorem s145x {σ : gS} {K : gK} (h3 : 0 ≤ σ 6 7 ∧ σ 6 7 ≤ 20) (h : K (some (.int (iN (stX σ).length))) (wr (wz5 σ (-2)) (stX σ))) : gE 145 0 [some (.ref 0)] [] σ K := by
  obtain ⟨e, l⟩ := iN_of h3.1
  have l20 : (σ 6 7).toNatClampNeg ≤ 20 := by
    have h2 := h3.2
    rw [e] at h2
    exact (iN_le (m := 20) l (by decide)).mp h2
  refine w145 (p34 l20 e ?_)
  have en : wr (wz5 σ (-2)) (gSe σ (σ 6 7).toNatClampNeg) 5 0 = iN (stX σ).length := by
    rw [wr_n (gSe σ (σ 6 7).toNatClampNeg) (wz5 σ (-2)) 0 (by unfold wz5; rw [gup_ne (by omega), gup_ne (by omega), gup_at]; rfl), Nat.zero_add]
    rfl
  rw [en]
  exact h
theorem s146x {σ : gS} {K : gK} {p : Nat} (h3 : 0 ≤ σ 6 7 ∧ σ 6 7 ≤ 20) (hp : p < (stX σ).length) (hl : (stX σ).length < 2147483648) (h : K (some (.int ((stX σ).getD p 0))) (wr (wz5 σ (iN p)) (stX σ))) : gE 146 0 [some (.ref 0), some (.int (iN p))] [] σ K := by
  obtain ⟨e, l⟩ := iN_of h3.1
  have l20 : (σ 6 7).toNatClampNeg ≤ 20 := by
    have h2 := h3.2
    rw [e] at h2
    exact (iN_le (m := 20) l (by decide)).mp h2
  refine w146 ⟨fun _ => p34 l20 e ?_, fun z => absurd z (Int32.not_lt.mpr ((iN_le (k := 0) (by decide) (by omega)).mpr (Nat.zero_le _)))⟩
  have en : wr (wz5 σ (iN p)) (gSe σ (σ 6 7).toNatClampNeg) 5 2 = (stX σ).getD p 0 := by
    rw [wr_2 (p := p) (by omega) (gSe σ (σ 6 7).toNatClampNeg) (wz5 σ (iN p)) 0 (by unfold wz5; rw [gup_ne (by omega), gup_ne (by omega), gup_at]; rfl) (by unfold wz5; rw [gup_ne (by omega), gup_at]) (by rw [Nat.zero_add]; exact hl), if_pos ⟨Nat.zero_le _, by rw [Nat.zero_add]; exact hp⟩, Nat.sub_zero]
    rfl
  rw [en]
  exact h
/-! numbers below a hundred, names -/
theorem numL_d : ∀ k, k < 100 → numL (iN k) = dg k := by
  have h : ∀ k, k < 100 → nzL (Int32.ofNat k) false [100000, 10000, 1000, 100, 10, 1] = dg k := by decide +kernel
  intro k hk
  rw [numL_e]
  exact h k hk
