-- text 39
/-! THE CLASS: settling -/
def csS (R : gW) (a j : Nat) (s : Int32 × Int32 × Int32) : Int32 × Int32 × Int32 := if fWhy R a (a + 1 + j) 0 = 0 ∧ s.1 < fJa (rsw R a (a + 1 + j)) then (fJa (rsw R a (a + 1 + j)), iN a, iN (a + 1 + j)) else s
def csR (R : gW) (a : Nat) (s : Int32 × Int32 × Int32) : Int32 × Int32 × Int32 := nfold (csS R a) (nM R - (a + 1)) s
def cBst (R : gW) : Int32 × Int32 × Int32 := nfold (csR R) (nM R) (fJa R, -2, -2)
/-- nothing found, or two travellers -/
def csOk (n : Nat) (s : Int32 × Int32 × Int32) : Prop := s.2.1 = -2 ∨ ∃ a b, a < b ∧ b < n ∧ s.2.1 = iN a ∧ s.2.2 = iN b
theorem nfold_ok {α : Type} {P : α → Prop} {f : Nat → α → α} {n : Nat} {s : α} (h0 : P s) (h : ∀ k, k < n → ∀ s, P s → P (f k s)) : P (nfold f n s) := by
  induction n with
  | zero => exact h0
  | succ n ih => exact h n (by omega) _ (ih (fun k hk => h k (by omega)))
theorem cBst_c (R : gW) : csOk (nM R) (cBst R) := by
  refine nfold_ok (Or.inl rfl) (fun a ha s hs => nfold_ok hs (fun j hj s hs => ?_))
  unfold csS
  split
  · exact Or.inr ⟨a, a + 1 + j, by omega, by omega, rfl, rfl⟩
  · exact hs
/-- the best exchange is done -/
def cOnce (σ : gS) : gS := if (cBst (cR σ 32)).2.1 = -2 then σ else cExS σ 32 (cBst (cR σ 32)).2.1.toNatClampNeg (cBst (cR σ 32)).2.2.toNatClampNeg
set_option maxRecDepth 20000 in
theorem w98_32 {σ : gS} {K : gK} (h : (TC σ 32) ∧ gE 98 14 [some (.ref 32), some (.int (fJa (cR σ 32))), some (.int (-2)), some (.int (-2)), some (.int 0), none, none] [] σ K) : gE 98 0 [some (.ref 32), none, none, none, none, none, none] [] σ K :=
  gw_run (cy := 98) (cuts := [14, 29, 102]) (inl := []) (pf := gpcx) gpcx_ok 400 (by decide) h
set_option maxRecDepth 20000 in
theorem v98_a {σ : gS} {K : gK} {g x y a : Int32} {u1 u2 : Option Value} (h : ((¬ a < (σ 32 7) → gE 98 102 [some (.ref 32), some (.int g), some (.int x), some (.int y), some (.int a), u1, u2] [] σ K) ∧ (a < (σ 32 7) → gE 98 29 [some (.ref 32), some (.int g), some (.int x), some (.int y), some (.int a), some (.int (a + 1)), u2] [] σ K))) : gE 98 14 [some (.ref 32), some (.int g), some (.int x), some (.int y), some (.int a), u1, u2] [] σ K :=
  gw_run (cy := 98) (cuts := [14, 29, 102]) (inl := []) (pf := gpcx) gpcx_ok 400 (by decide) h
set_option maxRecDepth 20000 in
theorem v98_b {σ : gS} {K : gK} {g x y a b : Int32} {u2 : Option Value} (h : ((¬ b < (σ 32 7) → gE 98 14 [some (.ref 32), some (.int g), some (.int x), some (.int y), some (.int (a + 1)), some (.int b), u2] [] σ K) ∧ (b < (σ 32 7) → (isN σ 32 a ∧ isN σ 32 b ∧ TC σ 32) ∧ (((fWhy (cR σ 32) a.toNatClampNeg b.toNatClampNeg (0 : Int32)) = 0 → ((0 ≤ a ∧ a < 20) ∧ (0 ≤ b ∧ b < 20)) ∧ (TC (cExS σ 32 a.toNatClampNeg b.toNatClampNeg) 32) ∧ ((0 ≤ a ∧ a < 20) ∧ (0 ≤ b ∧ b < 20)) ∧ ((¬ g < (fJa (cR (cExS σ 32 a.toNatClampNeg b.toNatClampNeg) 32)) → gE 98 29 [some (.ref 32), some (.int g), some (.int x), some (.int y), some (.int a), some (.int (b + 1)), some (.int (fJa (cR (cExS σ 32 a.toNatClampNeg b.toNatClampNeg) 32)))] [] (cExS (cExS σ 32 a.toNatClampNeg b.toNatClampNeg) 32 a.toNatClampNeg b.toNatClampNeg) K) ∧ (g < (fJa (cR (cExS σ 32 a.toNatClampNeg b.toNatClampNeg) 32)) → gE 98 29 [some (.ref 32), some (.int (fJa (cR (cExS σ 32 a.toNatClampNeg b.toNatClampNeg) 32))), some (.int a), some (.int b), some (.int a), some (.int (b + 1)), some (.int (fJa (cR (cExS σ 32 a.toNatClampNeg b.toNatClampNeg) 32)))] [] (cExS (cExS σ 32 a.toNatClampNeg b.toNatClampNeg) 32 a.toNatClampNeg b.toNatClampNeg) K))) ∧ (¬ (fWhy (cR σ 32) a.toNatClampNeg b.toNatClampNeg (0 : Int32)) = 0 → gE 98 29 [some (.ref 32), some (.int g), some (.int x), some (.int y), some (.int a), some (.int (b + 1)), u2] [] σ K))))) : gE 98 29 [some (.ref 32), some (.int g), some (.int x), some (.int y), some (.int a), some (.int b), u2] [] σ K :=
  gw_run (cy := 98) (cuts := [14, 29, 102]) (inl := []) (pf := gpcx) gpcx_ok 400 (by decide) h
set_option maxRecDepth 20000 in
theorem v98_c {σ : gS} {K : gK} {g x y a : Int32} {u1 u2 : Option Value} (h : ((¬ x = (-2) → ((0 ≤ x ∧ x < 20) ∧ (0 ≤ y ∧ y < 20)) ∧ ((1 : Int32) = 0 ∨ (1 : Int32) = 1) ∧ K (some (.int 1)) (cExS σ 32 x.toNatClampNeg y.toNatClampNeg)) ∧ (x = (-2) → ((0 : Int32) = 0 ∨ (0 : Int32) = 1) ∧ K (some (.int 0)) σ))) : gE 98 102 [some (.ref 32), some (.int g), some (.int x), some (.int y), some (.int a), u1, u2] [] σ K :=
  gw_run (cy := 98) (cuts := [14, 29, 102]) (inl := []) (pf := gpcx) gpcx_ok 400 (by decide) h
theorem s98 {σ : gS} {K : gK} (hc : TC σ 32) (hK : K (some (.int (bI (¬ (cBst (cR σ 32)).2.1 = -2)))) (cOnce σ)) : gE 98 0 [some (.ref 32), none, none, none, none, none, none] [] σ K := by
  obtain ⟨R, hR⟩ : ∃ R, cR σ 32 = R := ⟨_, rfl⟩
  have h3 : 0 ≤ R 3 ∧ R 3 ≤ 20 := by rw [← hR]; exact hc.1
  have hn := (nM_of h3).2
  have h7 : σ 32 7 = R 3 := by rw [← hR, cR_3]
  have inN : ∀ k, k < nM R → isN σ 32 (iN k) := fun k hk => ⟨b20 (by omega), by rw [iN_nat (by omega), hR]; exact hk⟩
  have inner : ∀ (a : Nat) (s : Int32 × Int32 × Int32) (u : Option Value), a < nM R → (∀ u1 u2, gE 98 14 [some (.ref 32), some (.int (csR R a s).1), some (.int (csR R a s).2.1), some (.int (csR R a s).2.2), some (.int (iN (a + 1))), u1, u2] [] σ K) → gE 98 29 [some (.ref 32), some (.int s.1), some (.int s.2.1), some (.int s.2.2), some (.int (iN a)), some (.int (iN (a + 1))), u] [] σ K := by
    intro a s u ha hout
    refine g_forJ (nM R - (a + 1)) (fun k u => [some (.ref 32), some (.int (nfold (csS R a) k s).1), some (.int (nfold (csS R a) k s).2.1), some (.int (nfold (csS R a) k s).2.2), some (.int (iN a)), some (.int (iN (a + 1 + k))), u]) (fun _ => σ) (fun _ => True) (fun _ u => ?_) (fun k hk _ ih u => ?_) 0 (Nat.zero_le _) trivial u
    · refine v98_b ⟨fun _ => ?_, fun h => ?_⟩
      · rw [iN_one]
        exact hout _ _
      · rw [h7, nM_lt h3 (by omega)] at h; omega
    · have ih := ih trivial
      have e : nfold (csS R a) (k + 1) s = csS R a k (nfold (csS R a) k s) := rfl
      rw [e] at ih
      generalize nfold (csS R a) k s = s at ih ⊢
      unfold csS at ih
      have na : (iN a).toNatClampNeg = a := iN_nat (by omega)
      have nb : (iN (a + 1 + k)).toNatClampNeg = a + 1 + k := iN_nat (by omega)
      have ia := inN a ha
      have ib := inN (a + 1 + k) (by omega)
      have la : a < nM (cR σ 32) := by rw [hR]; exact ha
      have lb : a + 1 + k < nM (cR σ 32) := by rw [hR]; omega
      obtain ⟨r1, t1, f1⟩ := cExS_ok hc la lb
      refine v98_b ⟨fun h => ?_, fun _ => ⟨⟨ia, ib, hc⟩, fun h => ⟨⟨ia.1, ib.1⟩, ?_, ⟨ia.1, ib.1⟩, fun h2 => ?_, fun h2 => ?_⟩, fun h => ?_⟩⟩
      · rw [h7, nM_lt h3 (by omega)] at h; omega
      · rw [na, nb]; exact t1
      · rw [na, nb, r1, hR] at h2
        rw [if_neg (fun q => h2 q.2)] at ih
        rw [na, nb, iN_one, r1, hR, cExS_bk hc la lb]
        exact ih _
      · rw [na, nb, r1, hR] at h2
        rw [hR, na, nb] at h
        rw [if_pos ⟨h, h2⟩] at ih
        rw [na, nb, iN_one, r1, hR, cExS_bk hc la lb]
        exact ih _
      · rw [hR, na, nb] at h
        rw [if_neg (fun q => h q.1)] at ih
        rw [iN_one]
        exact ih _
  unfold cOnce at hK
  rw [hR] at hK
  have hB := cBst_c R
  unfold cBst at hK hB
  refine w98_32 ⟨hc, ?_⟩
  rw [hR]
  refine g_forJ (J := Option Value × Option Value) (nM R) (fun k u => [some (.ref 32), some (.int (nfold (csR R) k (fJa R, -2, -2)).1), some (.int (nfold (csR R) k (fJa R, -2, -2)).2.1), some (.int (nfold (csR R) k (fJa R, -2, -2)).2.2), some (.int (iN k)), u.1, u.2]) (fun _ => σ) (fun _ => True) (fun _ u => ?_) (fun k hk _ ih u => ?_) 0 (Nat.zero_le _) trivial (none, none)
  · refine v98_a ⟨fun _ => ?_, fun h => ?_⟩
    · generalize nfold (csR R) (nM R) (fJa R, -2, -2) = s at hB hK ⊢
      refine v98_c ⟨fun h => ?_, fun h => ?_⟩
      · rw [if_neg h, show bI (¬ s.2.1 = -2) = 1 from if_pos h] at hK
        rcases hB with e | ⟨a, b, hab, hb, ea, eb⟩
        · exact absurd e h
        · exact ⟨⟨by rw [ea]; exact b20 (by omega), by rw [eb]; exact b20 (by omega)⟩, Or.inr rfl, hK⟩
      · rw [if_pos h, show bI (¬ s.2.1 = -2) = 0 from if_neg (fun q => q h)] at hK
        exact ⟨Or.inl rfl, hK⟩
    · rw [h7, nM_lt h3 (by omega)] at h; omega
  · refine v98_a ⟨fun h => ?_, fun _ => ?_⟩
    · rw [h7, nM_lt h3 (by omega)] at h; omega
    · rw [iN_one]
      exact inner k _ _ hk (fun u1 u2 => ih trivial (u1, u2))
