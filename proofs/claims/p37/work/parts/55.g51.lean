section
-- text 51
/-! THE CLASS: words -/
abbrev RW (σ : gS) : Prop := (0 ≤ σ 2 1 ∧ σ 2 1 ≤ 1000) ∧ (0 ≤ σ 1 2 ∧ σ 1 2 ≤ 1000)
theorem RW_n {σ : gS} (h : RW σ) : ∃ L S, σ 2 1 = iN L ∧ σ 1 2 = iN S ∧ L ≤ 1000 ∧ S ≤ 1000 ∧ (σ 2 1).toNatClampNeg = L ∧ (σ 1 2).toNatClampNeg = S := by
  obtain ⟨eL, lL⟩ := l1000 h.1
  obtain ⟨eS, lS⟩ := l1000 h.2
  exact ⟨_, _, eL, eS, lL, lS, rfl, rfl⟩
theorem cBy_e2 {T : gW} {L s : Nat} (hL : L ≤ 1000) (hs : s ≤ 100000) : (if 0 ≤ iN s ∧ iN s < iN L then T (iN s).toNatClampNeg else -1) = cBy T L s := by
  rw [iN_nat (by omega)]
  unfold cBy
  have e : (0 ≤ iN s ∧ iN s < iN L) ↔ s < L := by
    rw [iN_lt (by omega) (by omega)]
    exact ⟨fun h => h.2, fun h => ⟨(iN_le (k := 0) (by decide) (by omega)).mpr (by omega), h⟩⟩
  simp only [e]
/-- the bytes of a word of the class -/
def jW (p : Nat) : List Int32 := jv_byt.getD (p - 1000001) []
/-- the token is that word -/
abbrev cWd (σ : gS) (B : List Int32) : Prop := σ 1 4 = 2 ∧ σ 1 3 - σ 1 2 = iN B.length ∧ ∀ i, i < B.length → cBy (σ 3) (σ 2 1).toNatClampNeg ((σ 1 2).toNatClampNeg + i) = B.getD i 0
theorem bI_y {P : Prop} [Decidable P] (h : P) : bI P = 1 := if_pos h
theorem bI_n {P : Prop} [Decidable P] (h : ¬ P) : bI P = 0 := if_neg h
set_option maxRecDepth 20000 in
theorem w17_1000001 {σ : gS} {K : gK} (h : ((¬ (σ 1 4) = 2 → ((0 : Int32) = 0 ∨ (0 : Int32) = 1) ∧ K (some (.int 0)) σ) ∧ ((σ 1 4) = 2 → ((((σ 1 3) - (σ 1 2)) = 5 → gE 17 28 [some (.ref 1), some (.ref 1000001), some (.int 0)] [] σ K) ∧ (¬ ((σ 1 3) - (σ 1 2)) = 5 → ((0 : Int32) = 0 ∨ (0 : Int32) = 1) ∧ K (some (.int 0)) σ))))) : gE 17 0 [some (.ref 1), some (.ref 1000001), none] [] σ K :=
  gw_run (cy := 17) (cuts := [28]) (inl := []) (pf := gpdh) gpdh_ok 400 (by decide) h
set_option maxRecDepth 20000 in
theorem v17_1000001 {σ : gS} {K : gK} {k : Int32} (h : ((¬ k < 5 → ((1 : Int32) = 0 ∨ (1 : Int32) = 1) ∧ K (some (.int 1)) σ) ∧ (k < 5 → (σ 2 1 ≤ 1000) ∧ (0 ≤ k ∧ k < 5) ∧ (((if 0 ≤ ((σ 1 2) + k) ∧ ((σ 1 2) + k) < σ 2 1 then σ 3 ((σ 1 2) + k).toNatClampNeg else -1) = ((jv_byt.getD 0 []).getD k.toNatClampNeg 0) → gE 17 28 [some (.ref 1), some (.ref 1000001), some (.int (k + 1))] [] σ K) ∧ (¬ (if 0 ≤ ((σ 1 2) + k) ∧ ((σ 1 2) + k) < σ 2 1 then σ 3 ((σ 1 2) + k).toNatClampNeg else -1) = ((jv_byt.getD 0 []).getD k.toNatClampNeg 0) → ((0 : Int32) = 0 ∨ (0 : Int32) = 1) ∧ K (some (.int 0)) σ))))) : gE 17 28 [some (.ref 1), some (.ref 1000001), some (.int k)] [] σ K :=
  gw_run (cy := 17) (cuts := [28]) (inl := []) (pf := gpdh) gpdh_ok 400 (by decide) h
theorem s17_1000001 {σ : gS} {K : gK} (hc : RW σ) (hK : K (some (.int (bI (cWd σ (jW 1000001))))) σ) : gE 17 0 [some (.ref 1), some (.ref 1000001), none] [] σ K := by
  obtain ⟨L, S, eL, eS, lL, lS, nL, nS⟩ := RW_n hc
  obtain ⟨N, hN⟩ : ∃ N, (jW 1000001).length = N := ⟨_, rfl⟩
  have l10 : N ≤ 10 := by rw [← hN]; decide
  have eN : N = (jW 1000001).length := hN.symm
  have lN : (jW 1000001).length = (jW 1000001).length := rfl
  have iL : ∀ k : Nat, k ≤ 10 → (iN k < iN N ↔ k < N) := fun k hk => iN_lt (by omega) (by omega)
  have no : ¬ cWd σ (jW 1000001) → K (some (.int 0)) σ := fun h => by rw [bI_n h] at hK; exact hK
  have hlit : iN N = iN (jW 1000001).length := by rw [hN]
  have key : ∀ d k, k + d = N → σ 1 4 = 2 → σ 1 3 - σ 1 2 = iN N → (∀ i, i < k → cBy (σ 3) L (S + i) = (jW 1000001).getD i 0) → gE 17 28 [some (.ref 1), some (.ref 1000001), some (.int (iN k))] [] σ K := by
    intro d
    induction d with
    | zero =>
      intro k hk h1 h2 h3
      have : k = N := by omega
      subst this
      refine v17_1000001 ⟨fun _ => ⟨Or.inr rfl, ?_⟩, fun h => ?_⟩
      · have yes : cWd σ (jW 1000001) := by
          refine ⟨h1, by rw [hN]; exact h2, fun i hi => ?_⟩
          rw [nL, nS]
          exact h3 i (by omega)
        rw [bI_y yes] at hK
        exact hK
      · have q : iN k < iN k := by rw [hlit] at h ⊢; exact h
        exact absurd ((iN_lt (by omega) (by omega)).mp q) (by omega)
    | succ d ih =>
      intro k hk h1 h2 h3
      have hkN : k < N := by omega
      have qk : iN k < iN N := (iL k (by omega)).mpr hkN
      refine v17_1000001 ⟨fun h => ?_, fun h => ⟨hc.1.2, ⟨(iN_le (k := 0) (by decide) (by omega)).mpr (by omega), h⟩, fun h4 => ?_, fun h4 => ?_⟩⟩
      · exact absurd (by rw [hlit] at qk; exact qk) h
      · rw [eL, eS, iN_add, cBy_e2 lL (by omega), iN_nat (by omega)] at h4
        rw [iN_one]
        refine ih (k + 1) (by omega) h1 h2 (fun i hi => ?_)
        by_cases e : i = k
        · subst e; exact h4
        · exact h3 i (by omega)
      · rw [eL, eS, iN_add, cBy_e2 lL (by omega), iN_nat (by omega)] at h4
        refine ⟨Or.inl rfl, no (fun q => h4 ?_)⟩
        have := q.2.2 k (by omega)
        rw [nL, nS] at this
        exact this
  refine w17_1000001 ⟨fun h => ⟨Or.inl rfl, no (fun q => h q.1)⟩, fun h => ⟨fun h2 => ?_, fun h2 => ⟨Or.inl rfl, no (fun q => h2 (q.2.1))⟩⟩⟩
  exact key N 0 (by omega) h (by rw [hlit]; exact h2) (fun i hi => absurd hi (Nat.not_lt_zero _))
set_option maxRecDepth 20000 in
theorem w17_1000002 {σ : gS} {K : gK} (h : ((¬ (σ 1 4) = 2 → ((0 : Int32) = 0 ∨ (0 : Int32) = 1) ∧ K (some (.int 0)) σ) ∧ ((σ 1 4) = 2 → ((((σ 1 3) - (σ 1 2)) = 5 → gE 17 28 [some (.ref 1), some (.ref 1000002), some (.int 0)] [] σ K) ∧ (¬ ((σ 1 3) - (σ 1 2)) = 5 → ((0 : Int32) = 0 ∨ (0 : Int32) = 1) ∧ K (some (.int 0)) σ))))) : gE 17 0 [some (.ref 1), some (.ref 1000002), none] [] σ K :=
  gw_run (cy := 17) (cuts := [28]) (inl := []) (pf := gpdh) gpdh_ok 400 (by decide) h
set_option maxRecDepth 20000 in
theorem v17_1000002 {σ : gS} {K : gK} {k : Int32} (h : ((¬ k < 5 → ((1 : Int32) = 0 ∨ (1 : Int32) = 1) ∧ K (some (.int 1)) σ) ∧ (k < 5 → (σ 2 1 ≤ 1000) ∧ (0 ≤ k ∧ k < 5) ∧ (((if 0 ≤ ((σ 1 2) + k) ∧ ((σ 1 2) + k) < σ 2 1 then σ 3 ((σ 1 2) + k).toNatClampNeg else -1) = ((jv_byt.getD 1 []).getD k.toNatClampNeg 0) → gE 17 28 [some (.ref 1), some (.ref 1000002), some (.int (k + 1))] [] σ K) ∧ (¬ (if 0 ≤ ((σ 1 2) + k) ∧ ((σ 1 2) + k) < σ 2 1 then σ 3 ((σ 1 2) + k).toNatClampNeg else -1) = ((jv_byt.getD 1 []).getD k.toNatClampNeg 0) → ((0 : Int32) = 0 ∨ (0 : Int32) = 1) ∧ K (some (.int 0)) σ))))) : gE 17 28 [some (.ref 1), some (.ref 1000002), some (.int k)] [] σ K :=
  gw_run (cy := 17) (cuts := [28]) (inl := []) (pf := gpdh) gpdh_ok 400 (by decide) h
theorem s17_1000002 {σ : gS} {K : gK} (hc : RW σ) (hK : K (some (.int (bI (cWd σ (jW 1000002))))) σ) : gE 17 0 [some (.ref 1), some (.ref 1000002), none] [] σ K := by
  obtain ⟨L, S, eL, eS, lL, lS, nL, nS⟩ := RW_n hc
  obtain ⟨N, hN⟩ : ∃ N, (jW 1000002).length = N := ⟨_, rfl⟩
  have l10 : N ≤ 10 := by rw [← hN]; decide
  have eN : N = (jW 1000002).length := hN.symm
  have lN : (jW 1000002).length = (jW 1000002).length := rfl
  have iL : ∀ k : Nat, k ≤ 10 → (iN k < iN N ↔ k < N) := fun k hk => iN_lt (by omega) (by omega)
  have no : ¬ cWd σ (jW 1000002) → K (some (.int 0)) σ := fun h => by rw [bI_n h] at hK; exact hK
  have hlit : iN N = iN (jW 1000002).length := by rw [hN]
  have key : ∀ d k, k + d = N → σ 1 4 = 2 → σ 1 3 - σ 1 2 = iN N → (∀ i, i < k → cBy (σ 3) L (S + i) = (jW 1000002).getD i 0) → gE 17 28 [some (.ref 1), some (.ref 1000002), some (.int (iN k))] [] σ K := by
    intro d
    induction d with
    | zero =>
      intro k hk h1 h2 h3
      have : k = N := by omega
      subst this
      refine v17_1000002 ⟨fun _ => ⟨Or.inr rfl, ?_⟩, fun h => ?_⟩
      · have yes : cWd σ (jW 1000002) := by
          refine ⟨h1, by rw [hN]; exact h2, fun i hi => ?_⟩
          rw [nL, nS]
          exact h3 i (by omega)
        rw [bI_y yes] at hK
        exact hK
      · have q : iN k < iN k := by rw [hlit] at h ⊢; exact h
        exact absurd ((iN_lt (by omega) (by omega)).mp q) (by omega)
    | succ d ih =>
      intro k hk h1 h2 h3
      have hkN : k < N := by omega
      have qk : iN k < iN N := (iL k (by omega)).mpr hkN
      refine v17_1000002 ⟨fun h => ?_, fun h => ⟨hc.1.2, ⟨(iN_le (k := 0) (by decide) (by omega)).mpr (by omega), h⟩, fun h4 => ?_, fun h4 => ?_⟩⟩
      · exact absurd (by rw [hlit] at qk; exact qk) h
      · rw [eL, eS, iN_add, cBy_e2 lL (by omega), iN_nat (by omega)] at h4
        rw [iN_one]
        refine ih (k + 1) (by omega) h1 h2 (fun i hi => ?_)
        by_cases e : i = k
        · subst e; exact h4
        · exact h3 i (by omega)
      · rw [eL, eS, iN_add, cBy_e2 lL (by omega), iN_nat (by omega)] at h4
        refine ⟨Or.inl rfl, no (fun q => h4 ?_)⟩
        have := q.2.2 k (by omega)
        rw [nL, nS] at this
        exact this
  refine w17_1000002 ⟨fun h => ⟨Or.inl rfl, no (fun q => h q.1)⟩, fun h => ⟨fun h2 => ?_, fun h2 => ⟨Or.inl rfl, no (fun q => h2 (q.2.1))⟩⟩⟩
  exact key N 0 (by omega) h (by rw [hlit]; exact h2) (fun i hi => absurd hi (Nat.not_lt_zero _))
set_option maxRecDepth 20000 in
theorem w17_1000003 {σ : gS} {K : gK} (h : ((¬ (σ 1 4) = 2 → ((0 : Int32) = 0 ∨ (0 : Int32) = 1) ∧ K (some (.int 0)) σ) ∧ ((σ 1 4) = 2 → ((((σ 1 3) - (σ 1 2)) = 4 → gE 17 28 [some (.ref 1), some (.ref 1000003), some (.int 0)] [] σ K) ∧ (¬ ((σ 1 3) - (σ 1 2)) = 4 → ((0 : Int32) = 0 ∨ (0 : Int32) = 1) ∧ K (some (.int 0)) σ))))) : gE 17 0 [some (.ref 1), some (.ref 1000003), none] [] σ K :=
  gw_run (cy := 17) (cuts := [28]) (inl := []) (pf := gpdh) gpdh_ok 400 (by decide) h
set_option maxRecDepth 20000 in
theorem v17_1000003 {σ : gS} {K : gK} {k : Int32} (h : ((¬ k < 4 → ((1 : Int32) = 0 ∨ (1 : Int32) = 1) ∧ K (some (.int 1)) σ) ∧ (k < 4 → (σ 2 1 ≤ 1000) ∧ (0 ≤ k ∧ k < 4) ∧ (((if 0 ≤ ((σ 1 2) + k) ∧ ((σ 1 2) + k) < σ 2 1 then σ 3 ((σ 1 2) + k).toNatClampNeg else -1) = ((jv_byt.getD 2 []).getD k.toNatClampNeg 0) → gE 17 28 [some (.ref 1), some (.ref 1000003), some (.int (k + 1))] [] σ K) ∧ (¬ (if 0 ≤ ((σ 1 2) + k) ∧ ((σ 1 2) + k) < σ 2 1 then σ 3 ((σ 1 2) + k).toNatClampNeg else -1) = ((jv_byt.getD 2 []).getD k.toNatClampNeg 0) → ((0 : Int32) = 0 ∨ (0 : Int32) = 1) ∧ K (some (.int 0)) σ))))) : gE 17 28 [some (.ref 1), some (.ref 1000003), some (.int k)] [] σ K :=
  gw_run (cy := 17) (cuts := [28]) (inl := []) (pf := gpdh) gpdh_ok 400 (by decide) h
theorem s17_1000003 {σ : gS} {K : gK} (hc : RW σ) (hK : K (some (.int (bI (cWd σ (jW 1000003))))) σ) : gE 17 0 [some (.ref 1), some (.ref 1000003), none] [] σ K := by
  obtain ⟨L, S, eL, eS, lL, lS, nL, nS⟩ := RW_n hc
  obtain ⟨N, hN⟩ : ∃ N, (jW 1000003).length = N := ⟨_, rfl⟩
  have l10 : N ≤ 10 := by rw [← hN]; decide
  have eN : N = (jW 1000003).length := hN.symm
  have lN : (jW 1000003).length = (jW 1000003).length := rfl
  have iL : ∀ k : Nat, k ≤ 10 → (iN k < iN N ↔ k < N) := fun k hk => iN_lt (by omega) (by omega)
  have no : ¬ cWd σ (jW 1000003) → K (some (.int 0)) σ := fun h => by rw [bI_n h] at hK; exact hK
  have hlit : iN N = iN (jW 1000003).length := by rw [hN]
  have key : ∀ d k, k + d = N → σ 1 4 = 2 → σ 1 3 - σ 1 2 = iN N → (∀ i, i < k → cBy (σ 3) L (S + i) = (jW 1000003).getD i 0) → gE 17 28 [some (.ref 1), some (.ref 1000003), some (.int (iN k))] [] σ K := by
    intro d
    induction d with
    | zero =>
      intro k hk h1 h2 h3
      have : k = N := by omega
      subst this
      refine v17_1000003 ⟨fun _ => ⟨Or.inr rfl, ?_⟩, fun h => ?_⟩
      · have yes : cWd σ (jW 1000003) := by
          refine ⟨h1, by rw [hN]; exact h2, fun i hi => ?_⟩
          rw [nL, nS]
          exact h3 i (by omega)
        rw [bI_y yes] at hK
        exact hK
      · have q : iN k < iN k := by rw [hlit] at h ⊢; exact h
        exact absurd ((iN_lt (by omega) (by omega)).mp q) (by omega)
    | succ d ih =>
      intro k hk h1 h2 h3
      have hkN : k < N := by omega
      have qk : iN k < iN N := (iL k (by omega)).mpr hkN
      refine v17_1000003 ⟨fun h => ?_, fun h => ⟨hc.1.2, ⟨(iN_le (k := 0) (by decide) (by omega)).mpr (by omega), h⟩, fun h4 => ?_, fun h4 => ?_⟩⟩
      · exact absurd (by rw [hlit] at qk; exact qk) h
      · rw [eL, eS, iN_add, cBy_e2 lL (by omega), iN_nat (by omega)] at h4
        rw [iN_one]
        refine ih (k + 1) (by omega) h1 h2 (fun i hi => ?_)
        by_cases e : i = k
        · subst e; exact h4
        · exact h3 i (by omega)
      · rw [eL, eS, iN_add, cBy_e2 lL (by omega), iN_nat (by omega)] at h4
        refine ⟨Or.inl rfl, no (fun q => h4 ?_)⟩
        have := q.2.2 k (by omega)
        rw [nL, nS] at this
        exact this
  refine w17_1000003 ⟨fun h => ⟨Or.inl rfl, no (fun q => h q.1)⟩, fun h => ⟨fun h2 => ?_, fun h2 => ⟨Or.inl rfl, no (fun q => h2 (q.2.1))⟩⟩⟩
  exact key N 0 (by omega) h (by rw [hlit]; exact h2) (fun i hi => absurd hi (Nat.not_lt_zero _))
set_option maxRecDepth 20000 in
theorem w17_1000004 {σ : gS} {K : gK} (h : ((¬ (σ 1 4) = 2 → ((0 : Int32) = 0 ∨ (0 : Int32) = 1) ∧ K (some (.int 0)) σ) ∧ ((σ 1 4) = 2 → ((((σ 1 3) - (σ 1 2)) = 6 → gE 17 28 [some (.ref 1), some (.ref 1000004), some (.int 0)] [] σ K) ∧ (¬ ((σ 1 3) - (σ 1 2)) = 6 → ((0 : Int32) = 0 ∨ (0 : Int32) = 1) ∧ K (some (.int 0)) σ))))) : gE 17 0 [some (.ref 1), some (.ref 1000004), none] [] σ K :=
  gw_run (cy := 17) (cuts := [28]) (inl := []) (pf := gpdh) gpdh_ok 400 (by decide) h
set_option maxRecDepth 20000 in
theorem v17_1000004 {σ : gS} {K : gK} {k : Int32} (h : ((¬ k < 6 → ((1 : Int32) = 0 ∨ (1 : Int32) = 1) ∧ K (some (.int 1)) σ) ∧ (k < 6 → (σ 2 1 ≤ 1000) ∧ (0 ≤ k ∧ k < 6) ∧ (((if 0 ≤ ((σ 1 2) + k) ∧ ((σ 1 2) + k) < σ 2 1 then σ 3 ((σ 1 2) + k).toNatClampNeg else -1) = ((jv_byt.getD 3 []).getD k.toNatClampNeg 0) → gE 17 28 [some (.ref 1), some (.ref 1000004), some (.int (k + 1))] [] σ K) ∧ (¬ (if 0 ≤ ((σ 1 2) + k) ∧ ((σ 1 2) + k) < σ 2 1 then σ 3 ((σ 1 2) + k).toNatClampNeg else -1) = ((jv_byt.getD 3 []).getD k.toNatClampNeg 0) → ((0 : Int32) = 0 ∨ (0 : Int32) = 1) ∧ K (some (.int 0)) σ))))) : gE 17 28 [some (.ref 1), some (.ref 1000004), some (.int k)] [] σ K :=
  gw_run (cy := 17) (cuts := [28]) (inl := []) (pf := gpdh) gpdh_ok 400 (by decide) h
theorem s17_1000004 {σ : gS} {K : gK} (hc : RW σ) (hK : K (some (.int (bI (cWd σ (jW 1000004))))) σ) : gE 17 0 [some (.ref 1), some (.ref 1000004), none] [] σ K := by
  obtain ⟨L, S, eL, eS, lL, lS, nL, nS⟩ := RW_n hc
  obtain ⟨N, hN⟩ : ∃ N, (jW 1000004).length = N := ⟨_, rfl⟩
  have l10 : N ≤ 10 := by rw [← hN]; decide
  have eN : N = (jW 1000004).length := hN.symm
  have lN : (jW 1000004).length = (jW 1000004).length := rfl
  have iL : ∀ k : Nat, k ≤ 10 → (iN k < iN N ↔ k < N) := fun k hk => iN_lt (by omega) (by omega)
  have no : ¬ cWd σ (jW 1000004) → K (some (.int 0)) σ := fun h => by rw [bI_n h] at hK; exact hK
  have hlit : iN N = iN (jW 1000004).length := by rw [hN]
  have key : ∀ d k, k + d = N → σ 1 4 = 2 → σ 1 3 - σ 1 2 = iN N → (∀ i, i < k → cBy (σ 3) L (S + i) = (jW 1000004).getD i 0) → gE 17 28 [some (.ref 1), some (.ref 1000004), some (.int (iN k))] [] σ K := by
    intro d
    induction d with
    | zero =>
      intro k hk h1 h2 h3
      have : k = N := by omega
      subst this
      refine v17_1000004 ⟨fun _ => ⟨Or.inr rfl, ?_⟩, fun h => ?_⟩
      · have yes : cWd σ (jW 1000004) := by
          refine ⟨h1, by rw [hN]; exact h2, fun i hi => ?_⟩
          rw [nL, nS]
          exact h3 i (by omega)
        rw [bI_y yes] at hK
        exact hK
      · have q : iN k < iN k := by rw [hlit] at h ⊢; exact h
        exact absurd ((iN_lt (by omega) (by omega)).mp q) (by omega)
    | succ d ih =>
      intro k hk h1 h2 h3
      have hkN : k < N := by omega
      have qk : iN k < iN N := (iL k (by omega)).mpr hkN
      refine v17_1000004 ⟨fun h => ?_, fun h => ⟨hc.1.2, ⟨(iN_le (k := 0) (by decide) (by omega)).mpr (by omega), h⟩, fun h4 => ?_, fun h4 => ?_⟩⟩
      · exact absurd (by rw [hlit] at qk; exact qk) h
      · rw [eL, eS, iN_add, cBy_e2 lL (by omega), iN_nat (by omega)] at h4
        rw [iN_one]
        refine ih (k + 1) (by omega) h1 h2 (fun i hi => ?_)
        by_cases e : i = k
        · subst e; exact h4
        · exact h3 i (by omega)
      · rw [eL, eS, iN_add, cBy_e2 lL (by omega), iN_nat (by omega)] at h4
        refine ⟨Or.inl rfl, no (fun q => h4 ?_)⟩
        have := q.2.2 k (by omega)
        rw [nL, nS] at this
        exact this
  refine w17_1000004 ⟨fun h => ⟨Or.inl rfl, no (fun q => h q.1)⟩, fun h => ⟨fun h2 => ?_, fun h2 => ⟨Or.inl rfl, no (fun q => h2 (q.2.1))⟩⟩⟩
  exact key N 0 (by omega) h (by rw [hlit]; exact h2) (fun i hi => absurd hi (Nat.not_lt_zero _))
set_option maxRecDepth 20000 in
theorem w17_1000005 {σ : gS} {K : gK} (h : ((¬ (σ 1 4) = 2 → ((0 : Int32) = 0 ∨ (0 : Int32) = 1) ∧ K (some (.int 0)) σ) ∧ ((σ 1 4) = 2 → ((((σ 1 3) - (σ 1 2)) = 6 → gE 17 28 [some (.ref 1), some (.ref 1000005), some (.int 0)] [] σ K) ∧ (¬ ((σ 1 3) - (σ 1 2)) = 6 → ((0 : Int32) = 0 ∨ (0 : Int32) = 1) ∧ K (some (.int 0)) σ))))) : gE 17 0 [some (.ref 1), some (.ref 1000005), none] [] σ K :=
  gw_run (cy := 17) (cuts := [28]) (inl := []) (pf := gpdh) gpdh_ok 400 (by decide) h
set_option maxRecDepth 20000 in
theorem v17_1000005 {σ : gS} {K : gK} {k : Int32} (h : ((¬ k < 6 → ((1 : Int32) = 0 ∨ (1 : Int32) = 1) ∧ K (some (.int 1)) σ) ∧ (k < 6 → (σ 2 1 ≤ 1000) ∧ (0 ≤ k ∧ k < 6) ∧ (((if 0 ≤ ((σ 1 2) + k) ∧ ((σ 1 2) + k) < σ 2 1 then σ 3 ((σ 1 2) + k).toNatClampNeg else -1) = ((jv_byt.getD 4 []).getD k.toNatClampNeg 0) → gE 17 28 [some (.ref 1), some (.ref 1000005), some (.int (k + 1))] [] σ K) ∧ (¬ (if 0 ≤ ((σ 1 2) + k) ∧ ((σ 1 2) + k) < σ 2 1 then σ 3 ((σ 1 2) + k).toNatClampNeg else -1) = ((jv_byt.getD 4 []).getD k.toNatClampNeg 0) → ((0 : Int32) = 0 ∨ (0 : Int32) = 1) ∧ K (some (.int 0)) σ))))) : gE 17 28 [some (.ref 1), some (.ref 1000005), some (.int k)] [] σ K :=
  gw_run (cy := 17) (cuts := [28]) (inl := []) (pf := gpdh) gpdh_ok 400 (by decide) h
theorem s17_1000005 {σ : gS} {K : gK} (hc : RW σ) (hK : K (some (.int (bI (cWd σ (jW 1000005))))) σ) : gE 17 0 [some (.ref 1), some (.ref 1000005), none] [] σ K := by
  obtain ⟨L, S, eL, eS, lL, lS, nL, nS⟩ := RW_n hc
  obtain ⟨N, hN⟩ : ∃ N, (jW 1000005).length = N := ⟨_, rfl⟩
  have l10 : N ≤ 10 := by rw [← hN]; decide
  have eN : N = (jW 1000005).length := hN.symm
  have lN : (jW 1000005).length = (jW 1000005).length := rfl
  have iL : ∀ k : Nat, k ≤ 10 → (iN k < iN N ↔ k < N) := fun k hk => iN_lt (by omega) (by omega)
  have no : ¬ cWd σ (jW 1000005) → K (some (.int 0)) σ := fun h => by rw [bI_n h] at hK; exact hK
  have hlit : iN N = iN (jW 1000005).length := by rw [hN]
  have key : ∀ d k, k + d = N → σ 1 4 = 2 → σ 1 3 - σ 1 2 = iN N → (∀ i, i < k → cBy (σ 3) L (S + i) = (jW 1000005).getD i 0) → gE 17 28 [some (.ref 1), some (.ref 1000005), some (.int (iN k))] [] σ K := by
    intro d
    induction d with
    | zero =>
      intro k hk h1 h2 h3
      have : k = N := by omega
      subst this
      refine v17_1000005 ⟨fun _ => ⟨Or.inr rfl, ?_⟩, fun h => ?_⟩
      · have yes : cWd σ (jW 1000005) := by
          refine ⟨h1, by rw [hN]; exact h2, fun i hi => ?_⟩
          rw [nL, nS]
          exact h3 i (by omega)
        rw [bI_y yes] at hK
        exact hK
      · have q : iN k < iN k := by rw [hlit] at h ⊢; exact h
        exact absurd ((iN_lt (by omega) (by omega)).mp q) (by omega)
    | succ d ih =>
      intro k hk h1 h2 h3
      have hkN : k < N := by omega
      have qk : iN k < iN N := (iL k (by omega)).mpr hkN
      refine v17_1000005 ⟨fun h => ?_, fun h => ⟨hc.1.2, ⟨(iN_le (k := 0) (by decide) (by omega)).mpr (by omega), h⟩, fun h4 => ?_, fun h4 => ?_⟩⟩
      · exact absurd (by rw [hlit] at qk; exact qk) h
      · rw [eL, eS, iN_add, cBy_e2 lL (by omega), iN_nat (by omega)] at h4
        rw [iN_one]
        refine ih (k + 1) (by omega) h1 h2 (fun i hi => ?_)
        by_cases e : i = k
        · subst e; exact h4
        · exact h3 i (by omega)
      · rw [eL, eS, iN_add, cBy_e2 lL (by omega), iN_nat (by omega)] at h4
        refine ⟨Or.inl rfl, no (fun q => h4 ?_)⟩
        have := q.2.2 k (by omega)
        rw [nL, nS] at this
        exact this
  refine w17_1000005 ⟨fun h => ⟨Or.inl rfl, no (fun q => h q.1)⟩, fun h => ⟨fun h2 => ?_, fun h2 => ⟨Or.inl rfl, no (fun q => h2 (q.2.1))⟩⟩⟩
  exact key N 0 (by omega) h (by rw [hlit]; exact h2) (fun i hi => absurd hi (Nat.not_lt_zero _))
set_option maxRecDepth 20000 in
theorem w17_1000006 {σ : gS} {K : gK} (h : ((¬ (σ 1 4) = 2 → ((0 : Int32) = 0 ∨ (0 : Int32) = 1) ∧ K (some (.int 0)) σ) ∧ ((σ 1 4) = 2 → ((((σ 1 3) - (σ 1 2)) = 6 → gE 17 28 [some (.ref 1), some (.ref 1000006), some (.int 0)] [] σ K) ∧ (¬ ((σ 1 3) - (σ 1 2)) = 6 → ((0 : Int32) = 0 ∨ (0 : Int32) = 1) ∧ K (some (.int 0)) σ))))) : gE 17 0 [some (.ref 1), some (.ref 1000006), none] [] σ K :=
  gw_run (cy := 17) (cuts := [28]) (inl := []) (pf := gpdh) gpdh_ok 400 (by decide) h
set_option maxRecDepth 20000 in
theorem v17_1000006 {σ : gS} {K : gK} {k : Int32} (h : ((¬ k < 6 → ((1 : Int32) = 0 ∨ (1 : Int32) = 1) ∧ K (some (.int 1)) σ) ∧ (k < 6 → (σ 2 1 ≤ 1000) ∧ (0 ≤ k ∧ k < 6) ∧ (((if 0 ≤ ((σ 1 2) + k) ∧ ((σ 1 2) + k) < σ 2 1 then σ 3 ((σ 1 2) + k).toNatClampNeg else -1) = ((jv_byt.getD 5 []).getD k.toNatClampNeg 0) → gE 17 28 [some (.ref 1), some (.ref 1000006), some (.int (k + 1))] [] σ K) ∧ (¬ (if 0 ≤ ((σ 1 2) + k) ∧ ((σ 1 2) + k) < σ 2 1 then σ 3 ((σ 1 2) + k).toNatClampNeg else -1) = ((jv_byt.getD 5 []).getD k.toNatClampNeg 0) → ((0 : Int32) = 0 ∨ (0 : Int32) = 1) ∧ K (some (.int 0)) σ))))) : gE 17 28 [some (.ref 1), some (.ref 1000006), some (.int k)] [] σ K :=
  gw_run (cy := 17) (cuts := [28]) (inl := []) (pf := gpdh) gpdh_ok 400 (by decide) h
theorem s17_1000006 {σ : gS} {K : gK} (hc : RW σ) (hK : K (some (.int (bI (cWd σ (jW 1000006))))) σ) : gE 17 0 [some (.ref 1), some (.ref 1000006), none] [] σ K := by
  obtain ⟨L, S, eL, eS, lL, lS, nL, nS⟩ := RW_n hc
  obtain ⟨N, hN⟩ : ∃ N, (jW 1000006).length = N := ⟨_, rfl⟩
  have l10 : N ≤ 10 := by rw [← hN]; decide
  have eN : N = (jW 1000006).length := hN.symm
  have lN : (jW 1000006).length = (jW 1000006).length := rfl
  have iL : ∀ k : Nat, k ≤ 10 → (iN k < iN N ↔ k < N) := fun k hk => iN_lt (by omega) (by omega)
  have no : ¬ cWd σ (jW 1000006) → K (some (.int 0)) σ := fun h => by rw [bI_n h] at hK; exact hK
  have hlit : iN N = iN (jW 1000006).length := by rw [hN]
  have key : ∀ d k, k + d = N → σ 1 4 = 2 → σ 1 3 - σ 1 2 = iN N → (∀ i, i < k → cBy (σ 3) L (S + i) = (jW 1000006).getD i 0) → gE 17 28 [some (.ref 1), some (.ref 1000006), some (.int (iN k))] [] σ K := by
    intro d
    induction d with
    | zero =>
      intro k hk h1 h2 h3
      have : k = N := by omega
      subst this
      refine v17_1000006 ⟨fun _ => ⟨Or.inr rfl, ?_⟩, fun h => ?_⟩
      · have yes : cWd σ (jW 1000006) := by
          refine ⟨h1, by rw [hN]; exact h2, fun i hi => ?_⟩
          rw [nL, nS]
          exact h3 i (by omega)
        rw [bI_y yes] at hK
        exact hK
      · have q : iN k < iN k := by rw [hlit] at h ⊢; exact h
        exact absurd ((iN_lt (by omega) (by omega)).mp q) (by omega)
    | succ d ih =>
      intro k hk h1 h2 h3
      have hkN : k < N := by omega
      have qk : iN k < iN N := (iL k (by omega)).mpr hkN
      refine v17_1000006 ⟨fun h => ?_, fun h => ⟨hc.1.2, ⟨(iN_le (k := 0) (by decide) (by omega)).mpr (by omega), h⟩, fun h4 => ?_, fun h4 => ?_⟩⟩
      · exact absurd (by rw [hlit] at qk; exact qk) h
      · rw [eL, eS, iN_add, cBy_e2 lL (by omega), iN_nat (by omega)] at h4
        rw [iN_one]
        refine ih (k + 1) (by omega) h1 h2 (fun i hi => ?_)
        by_cases e : i = k
        · subst e; exact h4
        · exact h3 i (by omega)
      · rw [eL, eS, iN_add, cBy_e2 lL (by omega), iN_nat (by omega)] at h4
        refine ⟨Or.inl rfl, no (fun q => h4 ?_)⟩
        have := q.2.2 k (by omega)
        rw [nL, nS] at this
        exact this
  refine w17_1000006 ⟨fun h => ⟨Or.inl rfl, no (fun q => h q.1)⟩, fun h => ⟨fun h2 => ?_, fun h2 => ⟨Or.inl rfl, no (fun q => h2 (q.2.1))⟩⟩⟩
  exact key N 0 (by omega) h (by rw [hlit]; exact h2) (fun i hi => absurd hi (Nat.not_lt_zero _))
set_option maxRecDepth 20000 in
theorem w17_1000007 {σ : gS} {K : gK} (h : ((¬ (σ 1 4) = 2 → ((0 : Int32) = 0 ∨ (0 : Int32) = 1) ∧ K (some (.int 0)) σ) ∧ ((σ 1 4) = 2 → ((((σ 1 3) - (σ 1 2)) = 5 → gE 17 28 [some (.ref 1), some (.ref 1000007), some (.int 0)] [] σ K) ∧ (¬ ((σ 1 3) - (σ 1 2)) = 5 → ((0 : Int32) = 0 ∨ (0 : Int32) = 1) ∧ K (some (.int 0)) σ))))) : gE 17 0 [some (.ref 1), some (.ref 1000007), none] [] σ K :=
  gw_run (cy := 17) (cuts := [28]) (inl := []) (pf := gpdh) gpdh_ok 400 (by decide) h
set_option maxRecDepth 20000 in
theorem v17_1000007 {σ : gS} {K : gK} {k : Int32} (h : ((¬ k < 5 → ((1 : Int32) = 0 ∨ (1 : Int32) = 1) ∧ K (some (.int 1)) σ) ∧ (k < 5 → (σ 2 1 ≤ 1000) ∧ (0 ≤ k ∧ k < 5) ∧ (((if 0 ≤ ((σ 1 2) + k) ∧ ((σ 1 2) + k) < σ 2 1 then σ 3 ((σ 1 2) + k).toNatClampNeg else -1) = ((jv_byt.getD 6 []).getD k.toNatClampNeg 0) → gE 17 28 [some (.ref 1), some (.ref 1000007), some (.int (k + 1))] [] σ K) ∧ (¬ (if 0 ≤ ((σ 1 2) + k) ∧ ((σ 1 2) + k) < σ 2 1 then σ 3 ((σ 1 2) + k).toNatClampNeg else -1) = ((jv_byt.getD 6 []).getD k.toNatClampNeg 0) → ((0 : Int32) = 0 ∨ (0 : Int32) = 1) ∧ K (some (.int 0)) σ))))) : gE 17 28 [some (.ref 1), some (.ref 1000007), some (.int k)] [] σ K :=
  gw_run (cy := 17) (cuts := [28]) (inl := []) (pf := gpdh) gpdh_ok 400 (by decide) h
theorem s17_1000007 {σ : gS} {K : gK} (hc : RW σ) (hK : K (some (.int (bI (cWd σ (jW 1000007))))) σ) : gE 17 0 [some (.ref 1), some (.ref 1000007), none] [] σ K := by
  obtain ⟨L, S, eL, eS, lL, lS, nL, nS⟩ := RW_n hc
  obtain ⟨N, hN⟩ : ∃ N, (jW 1000007).length = N := ⟨_, rfl⟩
  have l10 : N ≤ 10 := by rw [← hN]; decide
  have eN : N = (jW 1000007).length := hN.symm
  have lN : (jW 1000007).length = (jW 1000007).length := rfl
  have iL : ∀ k : Nat, k ≤ 10 → (iN k < iN N ↔ k < N) := fun k hk => iN_lt (by omega) (by omega)
  have no : ¬ cWd σ (jW 1000007) → K (some (.int 0)) σ := fun h => by rw [bI_n h] at hK; exact hK
  have hlit : iN N = iN (jW 1000007).length := by rw [hN]
  have key : ∀ d k, k + d = N → σ 1 4 = 2 → σ 1 3 - σ 1 2 = iN N → (∀ i, i < k → cBy (σ 3) L (S + i) = (jW 1000007).getD i 0) → gE 17 28 [some (.ref 1), some (.ref 1000007), some (.int (iN k))] [] σ K := by
    intro d
    induction d with
    | zero =>
      intro k hk h1 h2 h3
      have : k = N := by omega
      subst this
      refine v17_1000007 ⟨fun _ => ⟨Or.inr rfl, ?_⟩, fun h => ?_⟩
      · have yes : cWd σ (jW 1000007) := by
          refine ⟨h1, by rw [hN]; exact h2, fun i hi => ?_⟩
          rw [nL, nS]
          exact h3 i (by omega)
        rw [bI_y yes] at hK
        exact hK
      · have q : iN k < iN k := by rw [hlit] at h ⊢; exact h
        exact absurd ((iN_lt (by omega) (by omega)).mp q) (by omega)
    | succ d ih =>
      intro k hk h1 h2 h3
      have hkN : k < N := by omega
      have qk : iN k < iN N := (iL k (by omega)).mpr hkN
      refine v17_1000007 ⟨fun h => ?_, fun h => ⟨hc.1.2, ⟨(iN_le (k := 0) (by decide) (by omega)).mpr (by omega), h⟩, fun h4 => ?_, fun h4 => ?_⟩⟩
      · exact absurd (by rw [hlit] at qk; exact qk) h
      · rw [eL, eS, iN_add, cBy_e2 lL (by omega), iN_nat (by omega)] at h4
        rw [iN_one]
        refine ih (k + 1) (by omega) h1 h2 (fun i hi => ?_)
        by_cases e : i = k
        · subst e; exact h4
        · exact h3 i (by omega)
      · rw [eL, eS, iN_add, cBy_e2 lL (by omega), iN_nat (by omega)] at h4
        refine ⟨Or.inl rfl, no (fun q => h4 ?_)⟩
        have := q.2.2 k (by omega)
        rw [nL, nS] at this
        exact this
  refine w17_1000007 ⟨fun h => ⟨Or.inl rfl, no (fun q => h q.1)⟩, fun h => ⟨fun h2 => ?_, fun h2 => ⟨Or.inl rfl, no (fun q => h2 (q.2.1))⟩⟩⟩
  exact key N 0 (by omega) h (by rw [hlit]; exact h2) (fun i hi => absurd hi (Nat.not_lt_zero _))
set_option maxRecDepth 20000 in
theorem w17_1000008 {σ : gS} {K : gK} (h : ((¬ (σ 1 4) = 2 → ((0 : Int32) = 0 ∨ (0 : Int32) = 1) ∧ K (some (.int 0)) σ) ∧ ((σ 1 4) = 2 → ((((σ 1 3) - (σ 1 2)) = 3 → gE 17 28 [some (.ref 1), some (.ref 1000008), some (.int 0)] [] σ K) ∧ (¬ ((σ 1 3) - (σ 1 2)) = 3 → ((0 : Int32) = 0 ∨ (0 : Int32) = 1) ∧ K (some (.int 0)) σ))))) : gE 17 0 [some (.ref 1), some (.ref 1000008), none] [] σ K :=
  gw_run (cy := 17) (cuts := [28]) (inl := []) (pf := gpdh) gpdh_ok 400 (by decide) h
set_option maxRecDepth 20000 in
theorem v17_1000008 {σ : gS} {K : gK} {k : Int32} (h : ((¬ k < 3 → ((1 : Int32) = 0 ∨ (1 : Int32) = 1) ∧ K (some (.int 1)) σ) ∧ (k < 3 → (σ 2 1 ≤ 1000) ∧ (0 ≤ k ∧ k < 3) ∧ (((if 0 ≤ ((σ 1 2) + k) ∧ ((σ 1 2) + k) < σ 2 1 then σ 3 ((σ 1 2) + k).toNatClampNeg else -1) = ((jv_byt.getD 7 []).getD k.toNatClampNeg 0) → gE 17 28 [some (.ref 1), some (.ref 1000008), some (.int (k + 1))] [] σ K) ∧ (¬ (if 0 ≤ ((σ 1 2) + k) ∧ ((σ 1 2) + k) < σ 2 1 then σ 3 ((σ 1 2) + k).toNatClampNeg else -1) = ((jv_byt.getD 7 []).getD k.toNatClampNeg 0) → ((0 : Int32) = 0 ∨ (0 : Int32) = 1) ∧ K (some (.int 0)) σ))))) : gE 17 28 [some (.ref 1), some (.ref 1000008), some (.int k)] [] σ K :=
  gw_run (cy := 17) (cuts := [28]) (inl := []) (pf := gpdh) gpdh_ok 400 (by decide) h
theorem s17_1000008 {σ : gS} {K : gK} (hc : RW σ) (hK : K (some (.int (bI (cWd σ (jW 1000008))))) σ) : gE 17 0 [some (.ref 1), some (.ref 1000008), none] [] σ K := by
  obtain ⟨L, S, eL, eS, lL, lS, nL, nS⟩ := RW_n hc
  obtain ⟨N, hN⟩ : ∃ N, (jW 1000008).length = N := ⟨_, rfl⟩
  have l10 : N ≤ 10 := by rw [← hN]; decide
  have eN : N = (jW 1000008).length := hN.symm
  have lN : (jW 1000008).length = (jW 1000008).length := rfl
  have iL : ∀ k : Nat, k ≤ 10 → (iN k < iN N ↔ k < N) := fun k hk => iN_lt (by omega) (by omega)
  have no : ¬ cWd σ (jW 1000008) → K (some (.int 0)) σ := fun h => by rw [bI_n h] at hK; exact hK
  have hlit : iN N = iN (jW 1000008).length := by rw [hN]
  have key : ∀ d k, k + d = N → σ 1 4 = 2 → σ 1 3 - σ 1 2 = iN N → (∀ i, i < k → cBy (σ 3) L (S + i) = (jW 1000008).getD i 0) → gE 17 28 [some (.ref 1), some (.ref 1000008), some (.int (iN k))] [] σ K := by
    intro d
    induction d with
    | zero =>
      intro k hk h1 h2 h3
      have : k = N := by omega
      subst this
      refine v17_1000008 ⟨fun _ => ⟨Or.inr rfl, ?_⟩, fun h => ?_⟩
      · have yes : cWd σ (jW 1000008) := by
          refine ⟨h1, by rw [hN]; exact h2, fun i hi => ?_⟩
          rw [nL, nS]
          exact h3 i (by omega)
        rw [bI_y yes] at hK
        exact hK
      · have q : iN k < iN k := by rw [hlit] at h ⊢; exact h
        exact absurd ((iN_lt (by omega) (by omega)).mp q) (by omega)
    | succ d ih =>
      intro k hk h1 h2 h3
      have hkN : k < N := by omega
      have qk : iN k < iN N := (iL k (by omega)).mpr hkN
      refine v17_1000008 ⟨fun h => ?_, fun h => ⟨hc.1.2, ⟨(iN_le (k := 0) (by decide) (by omega)).mpr (by omega), h⟩, fun h4 => ?_, fun h4 => ?_⟩⟩
      · exact absurd (by rw [hlit] at qk; exact qk) h
      · rw [eL, eS, iN_add, cBy_e2 lL (by omega), iN_nat (by omega)] at h4
        rw [iN_one]
        refine ih (k + 1) (by omega) h1 h2 (fun i hi => ?_)
        by_cases e : i = k
        · subst e; exact h4
        · exact h3 i (by omega)
      · rw [eL, eS, iN_add, cBy_e2 lL (by omega), iN_nat (by omega)] at h4
        refine ⟨Or.inl rfl, no (fun q => h4 ?_)⟩
        have := q.2.2 k (by omega)
        rw [nL, nS] at this
        exact this
  refine w17_1000008 ⟨fun h => ⟨Or.inl rfl, no (fun q => h q.1)⟩, fun h => ⟨fun h2 => ?_, fun h2 => ⟨Or.inl rfl, no (fun q => h2 (q.2.1))⟩⟩⟩
  exact key N 0 (by omega) h (by rw [hlit]; exact h2) (fun i hi => absurd hi (Nat.not_lt_zero _))
set_option maxRecDepth 20000 in
theorem w17_1000009 {σ : gS} {K : gK} (h : ((¬ (σ 1 4) = 2 → ((0 : Int32) = 0 ∨ (0 : Int32) = 1) ∧ K (some (.int 0)) σ) ∧ ((σ 1 4) = 2 → ((((σ 1 3) - (σ 1 2)) = 6 → gE 17 28 [some (.ref 1), some (.ref 1000009), some (.int 0)] [] σ K) ∧ (¬ ((σ 1 3) - (σ 1 2)) = 6 → ((0 : Int32) = 0 ∨ (0 : Int32) = 1) ∧ K (some (.int 0)) σ))))) : gE 17 0 [some (.ref 1), some (.ref 1000009), none] [] σ K :=
  gw_run (cy := 17) (cuts := [28]) (inl := []) (pf := gpdh) gpdh_ok 400 (by decide) h
set_option maxRecDepth 20000 in
theorem v17_1000009 {σ : gS} {K : gK} {k : Int32} (h : ((¬ k < 6 → ((1 : Int32) = 0 ∨ (1 : Int32) = 1) ∧ K (some (.int 1)) σ) ∧ (k < 6 → (σ 2 1 ≤ 1000) ∧ (0 ≤ k ∧ k < 6) ∧ (((if 0 ≤ ((σ 1 2) + k) ∧ ((σ 1 2) + k) < σ 2 1 then σ 3 ((σ 1 2) + k).toNatClampNeg else -1) = ((jv_byt.getD 8 []).getD k.toNatClampNeg 0) → gE 17 28 [some (.ref 1), some (.ref 1000009), some (.int (k + 1))] [] σ K) ∧ (¬ (if 0 ≤ ((σ 1 2) + k) ∧ ((σ 1 2) + k) < σ 2 1 then σ 3 ((σ 1 2) + k).toNatClampNeg else -1) = ((jv_byt.getD 8 []).getD k.toNatClampNeg 0) → ((0 : Int32) = 0 ∨ (0 : Int32) = 1) ∧ K (some (.int 0)) σ))))) : gE 17 28 [some (.ref 1), some (.ref 1000009), some (.int k)] [] σ K :=
  gw_run (cy := 17) (cuts := [28]) (inl := []) (pf := gpdh) gpdh_ok 400 (by decide) h
theorem s17_1000009 {σ : gS} {K : gK} (hc : RW σ) (hK : K (some (.int (bI (cWd σ (jW 1000009))))) σ) : gE 17 0 [some (.ref 1), some (.ref 1000009), none] [] σ K := by
  obtain ⟨L, S, eL, eS, lL, lS, nL, nS⟩ := RW_n hc
  obtain ⟨N, hN⟩ : ∃ N, (jW 1000009).length = N := ⟨_, rfl⟩
  have l10 : N ≤ 10 := by rw [← hN]; decide
  have eN : N = (jW 1000009).length := hN.symm
  have lN : (jW 1000009).length = (jW 1000009).length := rfl
  have iL : ∀ k : Nat, k ≤ 10 → (iN k < iN N ↔ k < N) := fun k hk => iN_lt (by omega) (by omega)
  have no : ¬ cWd σ (jW 1000009) → K (some (.int 0)) σ := fun h => by rw [bI_n h] at hK; exact hK
  have hlit : iN N = iN (jW 1000009).length := by rw [hN]
  have key : ∀ d k, k + d = N → σ 1 4 = 2 → σ 1 3 - σ 1 2 = iN N → (∀ i, i < k → cBy (σ 3) L (S + i) = (jW 1000009).getD i 0) → gE 17 28 [some (.ref 1), some (.ref 1000009), some (.int (iN k))] [] σ K := by
    intro d
    induction d with
    | zero =>
      intro k hk h1 h2 h3
      have : k = N := by omega
      subst this
      refine v17_1000009 ⟨fun _ => ⟨Or.inr rfl, ?_⟩, fun h => ?_⟩
      · have yes : cWd σ (jW 1000009) := by
          refine ⟨h1, by rw [hN]; exact h2, fun i hi => ?_⟩
          rw [nL, nS]
          exact h3 i (by omega)
        rw [bI_y yes] at hK
        exact hK
      · have q : iN k < iN k := by rw [hlit] at h ⊢; exact h
        exact absurd ((iN_lt (by omega) (by omega)).mp q) (by omega)
    | succ d ih =>
      intro k hk h1 h2 h3
      have hkN : k < N := by omega
      have qk : iN k < iN N := (iL k (by omega)).mpr hkN
      refine v17_1000009 ⟨fun h => ?_, fun h => ⟨hc.1.2, ⟨(iN_le (k := 0) (by decide) (by omega)).mpr (by omega), h⟩, fun h4 => ?_, fun h4 => ?_⟩⟩
      · exact absurd (by rw [hlit] at qk; exact qk) h
      · rw [eL, eS, iN_add, cBy_e2 lL (by omega), iN_nat (by omega)] at h4
        rw [iN_one]
        refine ih (k + 1) (by omega) h1 h2 (fun i hi => ?_)
        by_cases e : i = k
        · subst e; exact h4
        · exact h3 i (by omega)
      · rw [eL, eS, iN_add, cBy_e2 lL (by omega), iN_nat (by omega)] at h4
        refine ⟨Or.inl rfl, no (fun q => h4 ?_)⟩
        have := q.2.2 k (by omega)
        rw [nL, nS] at this
        exact this
  refine w17_1000009 ⟨fun h => ⟨Or.inl rfl, no (fun q => h q.1)⟩, fun h => ⟨fun h2 => ?_, fun h2 => ⟨Or.inl rfl, no (fun q => h2 (q.2.1))⟩⟩⟩
  exact key N 0 (by omega) h (by rw [hlit]; exact h2) (fun i hi => absurd hi (Nat.not_lt_zero _))
set_option maxRecDepth 20000 in
theorem w17_1000010 {σ : gS} {K : gK} (h : ((¬ (σ 1 4) = 2 → ((0 : Int32) = 0 ∨ (0 : Int32) = 1) ∧ K (some (.int 0)) σ) ∧ ((σ 1 4) = 2 → ((((σ 1 3) - (σ 1 2)) = 4 → gE 17 28 [some (.ref 1), some (.ref 1000010), some (.int 0)] [] σ K) ∧ (¬ ((σ 1 3) - (σ 1 2)) = 4 → ((0 : Int32) = 0 ∨ (0 : Int32) = 1) ∧ K (some (.int 0)) σ))))) : gE 17 0 [some (.ref 1), some (.ref 1000010), none] [] σ K :=
  gw_run (cy := 17) (cuts := [28]) (inl := []) (pf := gpdh) gpdh_ok 400 (by decide) h
set_option maxRecDepth 20000 in
theorem v17_1000010 {σ : gS} {K : gK} {k : Int32} (h : ((¬ k < 4 → ((1 : Int32) = 0 ∨ (1 : Int32) = 1) ∧ K (some (.int 1)) σ) ∧ (k < 4 → (σ 2 1 ≤ 1000) ∧ (0 ≤ k ∧ k < 4) ∧ (((if 0 ≤ ((σ 1 2) + k) ∧ ((σ 1 2) + k) < σ 2 1 then σ 3 ((σ 1 2) + k).toNatClampNeg else -1) = ((jv_byt.getD 9 []).getD k.toNatClampNeg 0) → gE 17 28 [some (.ref 1), some (.ref 1000010), some (.int (k + 1))] [] σ K) ∧ (¬ (if 0 ≤ ((σ 1 2) + k) ∧ ((σ 1 2) + k) < σ 2 1 then σ 3 ((σ 1 2) + k).toNatClampNeg else -1) = ((jv_byt.getD 9 []).getD k.toNatClampNeg 0) → ((0 : Int32) = 0 ∨ (0 : Int32) = 1) ∧ K (some (.int 0)) σ))))) : gE 17 28 [some (.ref 1), some (.ref 1000010), some (.int k)] [] σ K :=
  gw_run (cy := 17) (cuts := [28]) (inl := []) (pf := gpdh) gpdh_ok 400 (by decide) h
theorem s17_1000010 {σ : gS} {K : gK} (hc : RW σ) (hK : K (some (.int (bI (cWd σ (jW 1000010))))) σ) : gE 17 0 [some (.ref 1), some (.ref 1000010), none] [] σ K := by
  obtain ⟨L, S, eL, eS, lL, lS, nL, nS⟩ := RW_n hc
  obtain ⟨N, hN⟩ : ∃ N, (jW 1000010).length = N := ⟨_, rfl⟩
  have l10 : N ≤ 10 := by rw [← hN]; decide
  have eN : N = (jW 1000010).length := hN.symm
  have lN : (jW 1000010).length = (jW 1000010).length := rfl
  have iL : ∀ k : Nat, k ≤ 10 → (iN k < iN N ↔ k < N) := fun k hk => iN_lt (by omega) (by omega)
  have no : ¬ cWd σ (jW 1000010) → K (some (.int 0)) σ := fun h => by rw [bI_n h] at hK; exact hK
  have hlit : iN N = iN (jW 1000010).length := by rw [hN]
  have key : ∀ d k, k + d = N → σ 1 4 = 2 → σ 1 3 - σ 1 2 = iN N → (∀ i, i < k → cBy (σ 3) L (S + i) = (jW 1000010).getD i 0) → gE 17 28 [some (.ref 1), some (.ref 1000010), some (.int (iN k))] [] σ K := by
    intro d
    induction d with
    | zero =>
      intro k hk h1 h2 h3
      have : k = N := by omega
      subst this
      refine v17_1000010 ⟨fun _ => ⟨Or.inr rfl, ?_⟩, fun h => ?_⟩
      · have yes : cWd σ (jW 1000010) := by
          refine ⟨h1, by rw [hN]; exact h2, fun i hi => ?_⟩
          rw [nL, nS]
          exact h3 i (by omega)
        rw [bI_y yes] at hK
        exact hK
      · have q : iN k < iN k := by rw [hlit] at h ⊢; exact h
        exact absurd ((iN_lt (by omega) (by omega)).mp q) (by omega)
    | succ d ih =>
      intro k hk h1 h2 h3
      have hkN : k < N := by omega
      have qk : iN k < iN N := (iL k (by omega)).mpr hkN
      refine v17_1000010 ⟨fun h => ?_, fun h => ⟨hc.1.2, ⟨(iN_le (k := 0) (by decide) (by omega)).mpr (by omega), h⟩, fun h4 => ?_, fun h4 => ?_⟩⟩
      · exact absurd (by rw [hlit] at qk; exact qk) h
      · rw [eL, eS, iN_add, cBy_e2 lL (by omega), iN_nat (by omega)] at h4
        rw [iN_one]
        refine ih (k + 1) (by omega) h1 h2 (fun i hi => ?_)
        by_cases e : i = k
        · subst e; exact h4
        · exact h3 i (by omega)
      · rw [eL, eS, iN_add, cBy_e2 lL (by omega), iN_nat (by omega)] at h4
        refine ⟨Or.inl rfl, no (fun q => h4 ?_)⟩
        have := q.2.2 k (by omega)
        rw [nL, nS] at this
        exact this
  refine w17_1000010 ⟨fun h => ⟨Or.inl rfl, no (fun q => h q.1)⟩, fun h => ⟨fun h2 => ?_, fun h2 => ⟨Or.inl rfl, no (fun q => h2 (q.2.1))⟩⟩⟩
  exact key N 0 (by omega) h (by rw [hlit]; exact h2) (fun i hi => absurd hi (Nat.not_lt_zero _))
noncomputable def f17 : gD := fun Lv σ => match Lv with
  | [some (.ref q0), some (.ref p), none] => cond ((Nat.beq p 1000001 || Nat.beq p 1000002 || Nat.beq p 1000003 || Nat.beq p 1000004 || Nat.beq p 1000005 || Nat.beq p 1000006 || Nat.beq p 1000007 || Nat.beq p 1000008 || Nat.beq p 1000009 || Nat.beq p 1000010) && (Nat.beq q0 1)) (some (some (RW σ), some (.int (bI (cWd σ (jW p)))), σ)) none
  | _ => none
theorem ok17 : gFok 17 f17 := by
  intro Lv σ q h hc K hK
  unfold f17 at h
  split at h
  · rename_i q0 p
    obtain ⟨hb, h⟩ := c_no h
    obtain ⟨hc1, hb1⟩ := s_and hb
    have hb0 := hc1
    have e0 := b_eq hb1
    subst e0
    rcases s_or hb0 with hb0 | hb0
    · rcases s_or hb0 with hb0 | hb0
      · rcases s_or hb0 with hb0 | hb0
        · rcases s_or hb0 with hb0 | hb0
          · rcases s_or hb0 with hb0 | hb0
            · rcases s_or hb0 with hb0 | hb0
              · rcases s_or hb0 with hb0 | hb0
                · rcases s_or hb0 with hb0 | hb0
                  · rcases s_or hb0 with hb0 | hb0
                    · have e := b_eq hb0
                      subst e
                      cases h
                      exact s17_1000001 (hc _ rfl) hK
                    · have e := b_eq hb0
                      subst e
                      cases h
                      exact s17_1000002 (hc _ rfl) hK
                  · have e := b_eq hb0
                    subst e
                    cases h
                    exact s17_1000003 (hc _ rfl) hK
                · have e := b_eq hb0
                  subst e
                  cases h
                  exact s17_1000004 (hc _ rfl) hK
              · have e := b_eq hb0
                subst e
                cases h
                exact s17_1000005 (hc _ rfl) hK
            · have e := b_eq hb0
              subst e
              cases h
              exact s17_1000006 (hc _ rfl) hK
          · have e := b_eq hb0
            subst e
            cases h
            exact s17_1000007 (hc _ rfl) hK
        · have e := b_eq hb0
          subst e
          cases h
          exact s17_1000008 (hc _ rfl) hK
      · have e := b_eq hb0
        subst e
        cases h
        exact s17_1000009 (hc _ rfl) hK
    · have e := b_eq hb0
      subst e
      cases h
      exact s17_1000010 (hc _ rfl) hK
  · cases h
noncomputable def gpdi_l : List (Nat × gD) := (17, f17) :: gpdh_l
noncomputable def gpdi : gP := gpl0 gpdi_l
theorem gpdi_ok : gPok gpdi := gpl0_cons ok17 (gpdh_ok)
-- text 52
/-! THE CLASS: names on the tape -/
def cBeg (σ : gS) : gS := cTok (gup (gup σ 1 5 0) 1 3 0)
abbrev cKw (σ : gS) : Prop := cWd σ (jW 1000001) ∨ cWd σ (jW 1000002) ∨ cWd σ (jW 1000003) ∨ cWd σ (jW 1000004) ∨ cWd σ (jW 1000005) ∨ cWd σ (jW 1000006) ∨ cWd σ (jW 1000007) ∨ cWd σ (jW 1000008) ∨ cWd σ (jW 1000009) ∨ cWd σ (jW 1000010)
abbrev cNm (σ : gS) : Prop := σ 1 4 = 2 ∧ ¬ 5 < σ 1 3 - σ 1 2 ∧ ¬ cKw σ
/-- k letters, packed -/
def cPk (T : gW) (L s : Nat) : Nat → Int32
  | 0 => 0
  | k + 1 => cPk T L s k ||| ((cBy T L (s + k) - 97 + 1) <<< (iN (5 * k) &&& 31))
set_option maxRecDepth 20000 in
theorem w14 {σ : gS} {K : gK} (h : ((0 : Int32) = 0 ∨ (0 : Int32) = 1) ∧ (RD (gup (gup σ 1 5 0) 1 3 0)) ∧ K none (cTok (gup (gup σ 1 5 0) 1 3 0))) : gE 14 0 [some (.ref 1)] [] σ K :=
  gw_run (cy := 14) (cuts := []) (inl := []) (pf := gpdh) gpdh_ok 400 (by decide) h
theorem s14 {σ : gS} {K : gK} (hc : 0 ≤ σ 2 1 ∧ σ 2 1 ≤ 1000) (hK : K none (cBeg σ)) : gE 14 0 [some (.ref 1)] [] σ K := by
  have e : gup (gup σ 1 5 0) 1 3 0 2 1 = σ 2 1 := by rw [gup_ne (by omega), gup_ne (by omega)]
  refine w14 ⟨Or.inl rfl, ⟨by rw [e]; exact hc, by rw [gup_at, e]; exact ⟨by decide, hc.1⟩⟩, hK⟩
noncomputable def f14 : gD := fun Lv σ => match Lv with
  | [some (.ref q0)] => cond (Nat.beq q0 1) (some (some (0 ≤ σ 2 1 ∧ σ 2 1 ≤ 1000), none, cBeg σ)) none
  | _ => none
theorem ok14 : gFok 14 f14 := by
  intro Lv σ q h hc K hK
  unfold f14 at h
  split at h
  · rename_i q0
    obtain ⟨hb, h⟩ := c_no h
    have hb0 := hb
    have e0 := b_eq hb0
    subst e0
    cases h
    exact s14 (hc _ rfl) hK
  · cases h
set_option maxRecDepth 20000 in
theorem w16 {σ : gS} {K : gK} {c : Int32} (h : (σ 2 1 ≤ 1000) ∧ ((¬ (if 0 ≤ (σ 1 2) ∧ (σ 1 2) < σ 2 1 then σ 3 (σ 1 2).toNatClampNeg else -1) = c → ((0 : Int32) = 0 ∨ (0 : Int32) = 1) ∧ K (some (.int 0)) σ) ∧ ((if 0 ≤ (σ 1 2) ∧ (σ 1 2) < σ 2 1 then σ 3 (σ 1 2).toNatClampNeg else -1) = c → ((1 : Int32) = 0 ∨ (1 : Int32) = 1) ∧ K (some (.int 1)) σ))) : gE 16 0 [some (.ref 1), some (.int c)] [] σ K :=
  gw_run (cy := 16) (cuts := []) (inl := []) (pf := gpdh) gpdh_ok 400 (by decide) h
theorem s16 {σ : gS} {K : gK} {c : Int32} (hc : RW σ) (hK : K (some (.int (bI (cBy (σ 3) (σ 2 1).toNatClampNeg (σ 1 2).toNatClampNeg = c)))) σ) : gE 16 0 [some (.ref 1), some (.int c)] [] σ K := by
  obtain ⟨L, S, eL, eS, lL, lS, nL, nS⟩ := RW_n hc
  refine w16 ⟨hc.1.2, ?_⟩
  rw [nL, nS] at hK
  rw [eL, eS, cBy_e2 lL (by omega)]
  refine ⟨fun h => ⟨Or.inl rfl, ?_⟩, fun h => ⟨Or.inr rfl, ?_⟩⟩
  · rw [bI_n h] at hK; exact hK
  · rw [bI_y h] at hK; exact hK
noncomputable def f16 : gD := fun Lv σ => match Lv with
  | [some (.ref q0), some (.int c)] => cond (Nat.beq q0 1) (some (some (RW σ), some (.int (bI (cBy (σ 3) (σ 2 1).toNatClampNeg (σ 1 2).toNatClampNeg = c))), σ)) none
  | _ => none
theorem ok16 : gFok 16 f16 := by
  intro Lv σ q h hc K hK
  unfold f16 at h
  split at h
  · rename_i q0 c
    obtain ⟨hb, h⟩ := c_no h
    have hb0 := hb
    have e0 := b_eq hb0
    subst e0
    cases h
    exact s16 (hc _ rfl) hK
  · cases h
set_option maxRecDepth 20000 in
theorem w18 {σ : gS} {K : gK} (h : (RW σ) ∧ ((¬ (bI (cWd σ (jW 1000001))) = 0 → ((1 : Int32) = 0 ∨ (1 : Int32) = 1) ∧ K (some (.int 1)) σ) ∧ ((bI (cWd σ (jW 1000001))) = 0 → (RW σ) ∧ ((¬ (bI (cWd σ (jW 1000002))) = 0 → ((1 : Int32) = 0 ∨ (1 : Int32) = 1) ∧ K (some (.int 1)) σ) ∧ ((bI (cWd σ (jW 1000002))) = 0 → (RW σ) ∧ ((¬ (bI (cWd σ (jW 1000003))) = 0 → ((1 : Int32) = 0 ∨ (1 : Int32) = 1) ∧ K (some (.int 1)) σ) ∧ ((bI (cWd σ (jW 1000003))) = 0 → (RW σ) ∧ ((¬ (bI (cWd σ (jW 1000004))) = 0 → ((1 : Int32) = 0 ∨ (1 : Int32) = 1) ∧ K (some (.int 1)) σ) ∧ ((bI (cWd σ (jW 1000004))) = 0 → (RW σ) ∧ ((¬ (bI (cWd σ (jW 1000005))) = 0 → ((1 : Int32) = 0 ∨ (1 : Int32) = 1) ∧ K (some (.int 1)) σ) ∧ ((bI (cWd σ (jW 1000005))) = 0 → (RW σ) ∧ ((¬ (bI (cWd σ (jW 1000006))) = 0 → ((1 : Int32) = 0 ∨ (1 : Int32) = 1) ∧ K (some (.int 1)) σ) ∧ ((bI (cWd σ (jW 1000006))) = 0 → (RW σ) ∧ ((¬ (bI (cWd σ (jW 1000007))) = 0 → ((1 : Int32) = 0 ∨ (1 : Int32) = 1) ∧ K (some (.int 1)) σ) ∧ ((bI (cWd σ (jW 1000007))) = 0 → (RW σ) ∧ ((¬ (bI (cWd σ (jW 1000008))) = 0 → ((1 : Int32) = 0 ∨ (1 : Int32) = 1) ∧ K (some (.int 1)) σ) ∧ ((bI (cWd σ (jW 1000008))) = 0 → (RW σ) ∧ ((¬ (bI (cWd σ (jW 1000009))) = 0 → ((1 : Int32) = 0 ∨ (1 : Int32) = 1) ∧ K (some (.int 1)) σ) ∧ ((bI (cWd σ (jW 1000009))) = 0 → (RW σ) ∧ (((bI (cWd σ (jW 1000010))) = 0 → ((0 : Int32) = 0 ∨ (0 : Int32) = 1) ∧ K (some (.int 0)) σ) ∧ (¬ (bI (cWd σ (jW 1000010))) = 0 → ((1 : Int32) = 0 ∨ (1 : Int32) = 1) ∧ K (some (.int 1)) σ))))))))))))))))))))) : gE 18 0 [some (.ref 1)] [] σ K :=
  gw_run (cy := 18) (cuts := []) (inl := []) (pf := gpdi) gpdi_ok 400 (by decide) h
theorem s18 {σ : gS} {K : gK} (hc : RW σ) (hK : K (some (.int (bI (cKw σ)))) σ) : gE 18 0 [some (.ref 1)] [] σ K := by
  refine w18 ?_
  simp only [bI_0]
  have yes : cKw σ → ((1 : Int32) = 0 ∨ (1 : Int32) = 1) ∧ K (some (.int 1)) σ := fun h => ⟨Or.inr rfl, by rw [bI_y h] at hK; exact hK⟩
  have no : ¬ cKw σ → ((0 : Int32) = 0 ∨ (0 : Int32) = 1) ∧ K (some (.int 0)) σ := fun h => ⟨Or.inl rfl, by rw [bI_n h] at hK; exact hK⟩
  unfold cKw at yes no
  clear hK
  simp only [jW] at yes no ⊢
  grind (splits := 40)
noncomputable def f18 : gD := fun Lv σ => match Lv with
  | [some (.ref q0)] => cond (Nat.beq q0 1) (some (some (RW σ), some (.int (bI (cKw σ))), σ)) none
  | _ => none
theorem ok18 : gFok 18 f18 := by
  intro Lv σ q h hc K hK
  unfold f18 at h
  split at h
  · rename_i q0
    obtain ⟨hb, h⟩ := c_no h
    have hb0 := hb
    have e0 := b_eq hb0
    subst e0
    cases h
    exact s18 (hc _ rfl) hK
  · cases h
noncomputable def gpdj_l : List (Nat × gD) := (14, f14) :: (16, f16) :: (18, f18) :: gpdi_l
noncomputable def gpdj : gP := gpl0 gpdj_l
theorem gpdj_ok : gPok gpdj := gpl0_cons ok14 (gpl0_cons ok16 (gpl0_cons ok18 (gpdi_ok)))
set_option maxRecDepth 20000 in
theorem w19 {σ : gS} {K : gK} (h : ((¬ (σ 1 4) = 2 → ((0 : Int32) = 0 ∨ (0 : Int32) = 1) ∧ K (some (.int 0)) σ) ∧ ((σ 1 4) = 2 → ((5 < ((σ 1 3) - (σ 1 2)) → ((0 : Int32) = 0 ∨ (0 : Int32) = 1) ∧ K (some (.int 0)) σ) ∧ (¬ 5 < ((σ 1 3) - (σ 1 2)) → (RW σ) ∧ ((¬ (bI (cKw σ)) = 0 → ((0 : Int32) = 0 ∨ (0 : Int32) = 1) ∧ K (some (.int 0)) σ) ∧ ((bI (cKw σ)) = 0 → ((1 : Int32) = 0 ∨ (1 : Int32) = 1) ∧ K (some (.int 1)) σ))))))) : gE 19 0 [some (.ref 1)] [] σ K :=
  gw_run (cy := 19) (cuts := []) (inl := []) (pf := gpdj) gpdj_ok 400 (by decide) h
theorem s19 {σ : gS} {K : gK} (hc : RW σ) (hK : K (some (.int (bI (cNm σ)))) σ) : gE 19 0 [some (.ref 1)] [] σ K := by
  refine w19 ?_
  have yes : cNm σ → ((1 : Int32) = 0 ∨ (1 : Int32) = 1) ∧ K (some (.int 1)) σ := fun h => ⟨Or.inr rfl, by rw [bI_y h] at hK; exact hK⟩
  have no : ¬ cNm σ → ((0 : Int32) = 0 ∨ (0 : Int32) = 1) ∧ K (some (.int 0)) σ := fun h => ⟨Or.inl rfl, by rw [bI_n h] at hK; exact hK⟩
  simp only [bI_0]
  unfold cNm at yes no
  clear hK
  generalize cKw σ = Q at yes no ⊢
  grind (splits := 40)
noncomputable def f19 : gD := fun Lv σ => match Lv with
  | [some (.ref q0)] => cond (Nat.beq q0 1) (some (some (RW σ), some (.int (bI (cNm σ))), σ)) none
  | _ => none
theorem ok19 : gFok 19 f19 := by
  intro Lv σ q h hc K hK
  unfold f19 at h
  split at h
  · rename_i q0
    obtain ⟨hb, h⟩ := c_no h
    have hb0 := hb
    have e0 := b_eq hb0
    subst e0
    cases h
    exact s19 (hc _ rfl) hK
  · cases h
set_option maxRecDepth 20000 in
theorem w20 {σ : gS} {K : gK} (h : gE 20 7 [some (.ref 1), some (.int 0), some (.int (σ 1 2))] [] σ K) : gE 20 0 [some (.ref 1), none, none] [] σ K :=
  gw_run (cy := 20) (cuts := [7]) (inl := []) (pf := gpdj) gpdj_ok 400 (by decide) h
set_option maxRecDepth 20000 in
theorem v20 {σ : gS} {K : gK} {n i : Int32} (h : ((¬ i < (σ 1 3) → K (some (.int n)) σ) ∧ (i < (σ 1 3) → ((¬ i < ((σ 1 2) + 5) → K (some (.int n)) σ) ∧ (i < ((σ 1 2) + 5) → (σ 2 1 ≤ 1000) ∧ gE 20 7 [some (.ref 1), some (.int (n ||| ((((if 0 ≤ i ∧ i < σ 2 1 then σ 3 i.toNatClampNeg else -1) - 97) + 1) <<< ((5 * (i - (σ 1 2))) &&& 31)))), some (.int (i + 1))] [] σ K))))) : gE 20 7 [some (.ref 1), some (.int n), some (.int i)] [] σ K :=
  gw_run (cy := 20) (cuts := [7]) (inl := []) (pf := gpdj) gpdj_ok 400 (by decide) h
theorem s20 {σ : gS} {K : gK} (hc : RW σ ∧ (0 ≤ σ 1 3 ∧ σ 1 3 ≤ 1001)) (hK : K (some (.int (cPk (σ 3) (σ 2 1).toNatClampNeg (σ 1 2).toNatClampNeg (min ((σ 1 3).toNatClampNeg - (σ 1 2).toNatClampNeg) 5)))) σ) : gE 20 0 [some (.ref 1), none, none] [] σ K := by
  obtain ⟨hr, hE⟩ := hc
  obtain ⟨L, S, eL, eS, lL, lS, nL, nS⟩ := RW_n hr
  obtain ⟨eE, lE⟩ : σ 1 3 = iN (σ 1 3).toNatClampNeg ∧ (σ 1 3).toNatClampNeg ≤ 1001 := by
    obtain ⟨e, l⟩ := iN_of hE.1
    refine ⟨e, ?_⟩
    have h2 := hE.2
    rw [e] at h2
    exact (iN_le (m := 1001) l (by decide)).mp h2
  obtain ⟨E, hEE⟩ : ∃ E, (σ 1 3).toNatClampNeg = E := ⟨_, rfl⟩
  rw [nL, nS, hEE] at hK
  rw [hEE] at eE lE
  have key : ∀ d k, k + d = min (E - S) 5 → gE 20 7 [some (.ref 1), some (.int (cPk (σ 3) L S k)), some (.int (iN (S + k)))] [] σ K := by
    intro d
    induction d with
    | zero =>
      intro k hk
      have hk : k = min (E - S) 5 := by omega
      rw [← hk] at hK
      refine v20 ⟨fun _ => hK, fun h => ⟨fun _ => hK, fun h2 => ?_⟩⟩
      rw [eE, iN_lt (by omega) (by omega)] at h
      rw [eS, show (5 : Int32) = iN 5 from rfl, iN_add, iN_lt (by omega) (by omega)] at h2
      omega
    | succ d ih =>
      intro k hk
      refine v20 ⟨fun h => ?_, fun h => ⟨fun h2 => ?_, fun _ => ⟨hr.1.2, ?_⟩⟩⟩
      · rw [eE, iN_lt (by omega) (by omega)] at h
        omega
      · rw [eS, show (5 : Int32) = iN 5 from rfl, iN_add, iN_lt (by omega) (by omega)] at h2
        omega
      · have e1 : (5 : Int32) * (iN (S + k) - iN S) = iN (5 * k) := by
          rw [iN_sub (d := S) (by omega) (by omega), show S + k - S = k by omega]
          show iN 5 * iN k = _
          rw [iN_mul]
        rw [eL, eS, cBy_e2 lL (by omega), e1, iN_one]
        exact ih (k + 1) (by omega)
  refine w20 ?_
  rw [eS]
  exact key (min (E - S) 5) 0 (by omega)
noncomputable def f20 : gD := fun Lv σ => match Lv with
  | [some (.ref q0), none, none] => cond (Nat.beq q0 1) (some (some (RW σ ∧ (0 ≤ σ 1 3 ∧ σ 1 3 ≤ 1001)), some (.int (cPk (σ 3) (σ 2 1).toNatClampNeg (σ 1 2).toNatClampNeg (min ((σ 1 3).toNatClampNeg - (σ 1 2).toNatClampNeg) 5))), σ)) none
  | _ => none
theorem ok20 : gFok 20 f20 := by
  intro Lv σ q h hc K hK
  unfold f20 at h
  split at h
  · rename_i q0
    obtain ⟨hb, h⟩ := c_no h
    have hb0 := hb
    have e0 := b_eq hb0
    subst e0
    cases h
    exact s20 (hc _ rfl) hK
  · cases h
noncomputable def gpdk_l : List (Nat × gD) := (19, f19) :: (20, f20) :: gpdj_l
noncomputable def gpdk : gP := gpl0 gpdk_l
theorem gpdk_ok : gPok gpdk := gpl0_cons ok19 (gpl0_cons ok20 (gpdj_ok))
end
section
-- text 53
/-! THE CLASS: the name on the tape, a new traveller -/
/-- a traveller as it begins -/
def cZr (σ : gS) (w : Nat) : gS := fun q j => if q = w ∧ j < 9 then 0 else if q = w ∧ j = 9 then 99 else σ q j
def cAdm (σ : gS) (p w : Nat) : gS := gup (cCnt (cTv σ (p + 2 + (σ p 7).toNatClampNeg) w) p w 1) p 7 (σ p 7 + 1)
theorem cBeg_ne {σ : gS} {q : Nat} (h : ¬ q = 1) : cBeg σ q = σ q := by
  funext j
  unfold cBeg cTok cTk4
  rw [gup_ne (by omega), gup_ne (by omega), gup_ne (by omega), gup_ne (by omega), gup_ne (by omega)]
theorem cBeg_1 {σ : gS} : cBeg σ 1 2 = iN (tkS (σ 3) (σ 2 1).toNatClampNeg 0) ∧ cBeg σ 1 3 = iN (tkE (σ 3) (σ 2 1).toNatClampNeg 0) ∧ cBeg σ 1 4 = tkK (σ 3) (σ 2 1).toNatClampNeg 0 := by
  have e2 : gup (gup σ 1 5 0) 1 3 0 2 1 = σ 2 1 := by rw [gup_ne (by omega), gup_ne (by omega)]
  have e3 : gup (gup σ 1 5 0) 1 3 0 3 = σ 3 := funext fun j => by rw [gup_ne (by omega), gup_ne (by omega)]
  have e1 : (gup (gup σ 1 5 0) 1 3 0 1 3).toNatClampNeg = 0 := by rw [gup_at]; rfl
  unfold cBeg cTok
  rw [e1, e2, e3]
  unfold cTk4
  refine ⟨?_, gup_at _ _ _, ?_⟩
  · rw [gup_ne (by omega), gup_ne (by omega), gup_at]
  · rw [gup_ne (by omega), gup_at]
theorem tkS_b {T : gW} {L n : Nat} (h : n ≤ L) : n ≤ tkS T L n ∧ tkS T L n ≤ L := by
  have := skp_b (P := fun i => decide (cKd (T i) = 1)) (d := L - n) (s := n)
  unfold tkS
  omega
theorem tkE_b {T : gW} {L n : Nat} (h : n ≤ L) : tkS T L n < tkE T L n ∧ tkE T L n ≤ L + 1 := by
  have h1 := tkS_b (T := T) h
  have := skp_b (P := fun i => decide (cKd (T i) = tkK T L n)) (d := L - (tkS T L n + 1)) (s := tkS T L n + 1)
  unfold tkE
  split <;> omega
theorem cBeg_RW {σ : gS} (h : 0 ≤ σ 2 1 ∧ σ 2 1 ≤ 1000) : RW (cBeg σ) ∧ (0 ≤ (cBeg σ) 1 3 ∧ (cBeg σ) 1 3 ≤ 1001) := by
  obtain ⟨e, l⟩ := l1000 h
  have b1 := tkS_b (T := σ 3) (L := (σ 2 1).toNatClampNeg) (n := 0) (by omega)
  have b2 := tkE_b (T := σ 3) (L := (σ 2 1).toNatClampNeg) (n := 0) (by omega)
  obtain ⟨c1, c2, c3⟩ := cBeg_1 (σ := σ)
  unfold RW
  rw [c1, c2, cBeg_ne (by decide)]
  exact ⟨⟨h, ⟨(iN_le (k := 0) (by decide) (by omega)).mpr (by omega), (iN_le (m := 1000) (by omega) (by decide)).mpr (by omega)⟩⟩, ⟨(iN_le (k := 0) (by decide) (by omega)).mpr (by omega), (iN_le (m := 1001) (by omega) (by decide)).mpr (by omega)⟩⟩
abbrev cTN (σ : gS) : Prop := cBeg σ 1 2 = 0 ∧ cBeg σ 1 3 = cBeg σ 2 1 ∧ cNm (cBeg σ)
def cNam (σ : gS) : Int32 := cPk (cBeg σ 3) (cBeg σ 2 1).toNatClampNeg (cBeg σ 1 2).toNatClampNeg (min ((cBeg σ 1 3).toNatClampNeg - (cBeg σ 1 2).toNatClampNeg) 5)
set_option maxRecDepth 20000 in
theorem w102 {σ : gS} {K : gK} {w : Nat} (h : gTv w ∧ gTv w ∧ gTv w ∧ gTv w ∧ gTv w ∧ gTv w ∧ gTv w ∧ gTv w ∧ gTv w ∧ gTv w ∧ K none (gup (gup (gup (gup (gup (gup (gup (gup (gup (gup σ w 0 0) w 1 0) w 2 0) w 3 0) w 4 0) w 5 0) w 6 0) w 7 0) w 8 0) w 9 99)) : gE 102 0 [some (.ref w)] [] σ K :=
  gw_run (cy := 102) (cuts := []) (inl := []) (pf := gpdk) gpdk_ok 400 (by decide) h
theorem s102 {σ : gS} {K : gK} {w : Nat} (hc : gTv w) (hK : K none (cZr σ w)) : gE 102 0 [some (.ref w)] [] σ K := by
  refine w102 ⟨hc, hc, hc, hc, hc, hc, hc, hc, hc, hc, ?_⟩
  have e : gup (gup (gup (gup (gup (gup (gup (gup (gup (gup σ w 0 0) w 1 0) w 2 0) w 3 0) w 4 0) w 5 0) w 6 0) w 7 0) w 8 0) w 9 99 = cZr σ w := by
    funext q j
    unfold gup cZr
    grind (splits := 40)
  rw [e]
  exact hK
noncomputable def f102 : gD := fun Lv σ => match Lv with
  | [some (.ref w)] => some (some (gTv w), none, cZr σ w)
  | _ => none
theorem ok102 : gFok 102 f102 := by
  intro Lv σ q h hc K hK
  unfold f102 at h
  split at h
  · rename_i w
    cases h
    exact s102 (hc _ rfl) hK
  · cases h
set_option maxRecDepth 20000 in
theorem w62_6 {σ : gS} {K : gK} {w : Nat} (h : (((σ 6 7) < 20 → (0 ≤ (σ 6 7) ∧ (σ 6 7) < 20) ∧ gTv (6 + 2 + (σ 6 7).toNatClampNeg) ∧ (gTv (6 + 2 + (σ 6 7).toNatClampNeg) ∧ gTv w) ∧ (gTv w) ∧ K none (gup (cCnt (cTv σ (6 + 2 + (σ 6 7).toNatClampNeg) w) 6 w (1 : Int32)) 6 7 (((cCnt (cTv σ (6 + 2 + (σ 6 7).toNatClampNeg) w) 6 w (1 : Int32)) 6 7) + 1))) ∧ (¬ (σ 6 7) < 20 → K none σ))) : gE 62 0 [some (.ref 6), some (.ref w)] [] σ K :=
  gw_run (cy := 62) (cuts := []) (inl := []) (pf := gpdk) gpdk_ok 400 (by decide) h
theorem s62_6 {σ : gS} {K : gK} {w : Nat} (hc : (0 ≤ σ 6 7 ∧ σ 6 7 < 20) ∧ gTv w) (hK : K none (cAdm σ 6 w)) : gE 62 0 [some (.ref 6), some (.ref w)] [] σ K := by
  obtain ⟨h7, hw⟩ := hc
  have tv := tv_6 _ (n20 h7)
  have ln := n20 h7
  have e : cCnt (cTv σ (6 + 2 + (σ 6 7).toNatClampNeg) w) 6 w 1 6 7 = σ 6 7 := by
    rw [cCnt_off (by omega)]
    show (if 6 = 6 + 2 + (σ 6 7).toNatClampNeg ∧ 7 < 10 then _ else _) = _
    rw [if_neg (by omega)]
  refine w62_6 ⟨fun _ => ⟨h7, tv, ⟨tv, hw⟩, hw, ?_⟩, fun h => absurd h7.2 h⟩
  rw [e]
  exact hK
set_option maxRecDepth 20000 in
theorem w62_32 {σ : gS} {K : gK} {w : Nat} (h : (((σ 32 7) < 20 → (0 ≤ (σ 32 7) ∧ (σ 32 7) < 20) ∧ gTv (32 + 2 + (σ 32 7).toNatClampNeg) ∧ (gTv (32 + 2 + (σ 32 7).toNatClampNeg) ∧ gTv w) ∧ (gTv w) ∧ K none (gup (cCnt (cTv σ (32 + 2 + (σ 32 7).toNatClampNeg) w) 32 w (1 : Int32)) 32 7 (((cCnt (cTv σ (32 + 2 + (σ 32 7).toNatClampNeg) w) 32 w (1 : Int32)) 32 7) + 1))) ∧ (¬ (σ 32 7) < 20 → K none σ))) : gE 62 0 [some (.ref 32), some (.ref w)] [] σ K :=
  gw_run (cy := 62) (cuts := []) (inl := []) (pf := gpdk) gpdk_ok 400 (by decide) h
theorem s62_32 {σ : gS} {K : gK} {w : Nat} (hc : (0 ≤ σ 32 7 ∧ σ 32 7 < 20) ∧ gTv w) (hK : K none (cAdm σ 32 w)) : gE 62 0 [some (.ref 32), some (.ref w)] [] σ K := by
  obtain ⟨h7, hw⟩ := hc
  have tv := tv_32 _ (n20 h7)
  have ln := n20 h7
  have e : cCnt (cTv σ (32 + 2 + (σ 32 7).toNatClampNeg) w) 32 w 1 32 7 = σ 32 7 := by
    rw [cCnt_off (by omega)]
    show (if 32 = 32 + 2 + (σ 32 7).toNatClampNeg ∧ 7 < 10 then _ else _) = _
    rw [if_neg (by omega)]
  refine w62_32 ⟨fun _ => ⟨h7, tv, ⟨tv, hw⟩, hw, ?_⟩, fun h => absurd h7.2 h⟩
  rw [e]
  exact hK
noncomputable def f62 : gD := fun Lv σ => match Lv with
  | [some (.ref p), some (.ref w)] => cond (Nat.beq p 6 || Nat.beq p 32) (some (some ((0 ≤ σ p 7 ∧ σ p 7 < 20) ∧ gTv w), none, cAdm σ p w)) none
  | _ => none
theorem ok62 : gFok 62 f62 := by
  intro Lv σ q h hc K hK
  unfold f62 at h
  split at h
  · rename_i p w
    obtain ⟨hb, h⟩ := c_no h
    have hb0 := hb
    rcases s_or hb0 with hb0 | hb0
    · have e := b_eq hb0
      subst e
      cases h
      exact s62_6 (hc _ rfl) hK
    · have e := b_eq hb0
      subst e
      cases h
      exact s62_32 (hc _ rfl) hK
  · cases h
noncomputable def f14V (cBegV : gS → gS) : gD := fun Lv σ => match Lv with
  | [some (.ref q0)] => cond (Nat.beq q0 1) (some (some (0 ≤ σ 2 1 ∧ σ 2 1 ≤ 1000), none, cBegV σ)) none
  | _ => none
noncomputable def gpdkV (cBegV : gS → gS) : gP := gpl0 ((14, f14V cBegV) :: (19, f19) :: [])
set_option maxRecDepth 20000 in
theorem w29_V {cBegV : gS → gS} (hp : gPok (gpdkV cBegV)) {σ : gS} {K : gK} (h : (0 ≤ σ 2 1 ∧ σ 2 1 ≤ 1000) ∧ ((¬ ((cBegV σ) 1 2) = 0 → ((0 : Int32) = 0 ∨ (0 : Int32) = 1) ∧ K (some (.int 0)) (cBegV σ)) ∧ (((cBegV σ) 1 2) = 0 → ((¬ ((cBegV σ) 1 3) = ((cBegV σ) 2 1) → ((0 : Int32) = 0 ∨ (0 : Int32) = 1) ∧ K (some (.int 0)) (cBegV σ)) ∧ (((cBegV σ) 1 3) = ((cBegV σ) 2 1) → (RW (cBegV σ)) ∧ (((bI (cNm (cBegV σ))) = 0 → ((0 : Int32) = 0 ∨ (0 : Int32) = 1) ∧ K (some (.int 0)) (cBegV σ)) ∧ (¬ (bI (cNm (cBegV σ))) = 0 → ((1 : Int32) = 0 ∨ (1 : Int32) = 1) ∧ K (some (.int 1)) (cBegV σ)))))))) : gE 29 0 [some (.ref 1)] [] σ K :=
  gw_run (cy := 29) (cuts := []) (inl := []) (pf := gpdkV cBegV) hp 400 (by decide) h
theorem w29 {σ : gS} {K : gK} (h : (0 ≤ σ 2 1 ∧ σ 2 1 ≤ 1000) ∧ ((¬ ((cBeg σ) 1 2) = 0 → ((0 : Int32) = 0 ∨ (0 : Int32) = 1) ∧ K (some (.int 0)) (cBeg σ)) ∧ (((cBeg σ) 1 2) = 0 → ((¬ ((cBeg σ) 1 3) = ((cBeg σ) 2 1) → ((0 : Int32) = 0 ∨ (0 : Int32) = 1) ∧ K (some (.int 0)) (cBeg σ)) ∧ (((cBeg σ) 1 3) = ((cBeg σ) 2 1) → (RW (cBeg σ)) ∧ (((bI (cNm (cBeg σ))) = 0 → ((0 : Int32) = 0 ∨ (0 : Int32) = 1) ∧ K (some (.int 0)) (cBeg σ)) ∧ (¬ (bI (cNm (cBeg σ))) = 0 → ((1 : Int32) = 0 ∨ (1 : Int32) = 1) ∧ K (some (.int 1)) (cBeg σ)))))))) : gE 29 0 [some (.ref 1)] [] σ K :=
  w29_V (cBegV := cBeg) (gpl0_cons ok14 (gpl0_cons ok19 gpl0_nil)) h
theorem s29 {σ : gS} {K : gK} (hc : 0 ≤ σ 2 1 ∧ σ 2 1 ≤ 1000) (hK : K (some (.int (bI (cTN σ)))) (cBeg σ)) : gE 29 0 [some (.ref 1)] [] σ K := by
  obtain ⟨hr, hE⟩ := cBeg_RW hc
  have yes : cTN σ → ((1 : Int32) = 0 ∨ (1 : Int32) = 1) ∧ K (some (.int 1)) (cBeg σ) := fun h => ⟨Or.inr rfl, by rw [bI_y h] at hK; exact hK⟩
  have no : ¬ cTN σ → ((0 : Int32) = 0 ∨ (0 : Int32) = 1) ∧ K (some (.int 0)) (cBeg σ) := fun h => ⟨Or.inl rfl, by rw [bI_n h] at hK; exact hK⟩
  refine w29 ⟨hc, ?_⟩
  exact ⟨fun h => no (fun q => h q.1), fun h => ⟨fun h2 => no (fun q => h2 q.2.1), fun h2 => ⟨hr, fun h3 => no (fun q => bI_0.mp h3 q.2.2), fun h3 => yes ⟨h, h2, Decidable.not_not.mp (fun q => h3 (bI_0.mpr q))⟩⟩⟩⟩
noncomputable def f29 : gD := fun Lv σ => match Lv with
  | [some (.ref q0)] => cond (Nat.beq q0 1) (some (some (0 ≤ σ 2 1 ∧ σ 2 1 ≤ 1000), some (.int (bI (cTN σ))), cBeg σ)) none
  | _ => none
theorem ok29 : gFok 29 f29 := by
  intro Lv σ q h hc K hK
  unfold f29 at h
  split at h
  · rename_i q0
    obtain ⟨hb, h⟩ := c_no h
    have hb0 := hb
    have e0 := b_eq hb0
    subst e0
    cases h
    exact s29 (hc _ rfl) hK
  · cases h
set_option maxRecDepth 20000 in
theorem w30 {σ : gS} {K : gK} (h : (0 ≤ σ 2 1 ∧ σ 2 1 ≤ 1000) ∧ (RW (cBeg σ) ∧ (0 ≤ (cBeg σ) 1 3 ∧ (cBeg σ) 1 3 ≤ 1001)) ∧ K (some (.int (cPk ((cBeg σ) 3) ((cBeg σ) 2 1).toNatClampNeg ((cBeg σ) 1 2).toNatClampNeg (min (((cBeg σ) 1 3).toNatClampNeg - ((cBeg σ) 1 2).toNatClampNeg) 5)))) (cBeg σ)) : gE 30 0 [some (.ref 1)] [] σ K :=
  gw_run (cy := 30) (cuts := []) (inl := []) (pf := gpdk) gpdk_ok 400 (by decide) h
theorem s30 {σ : gS} {K : gK} (hc : 0 ≤ σ 2 1 ∧ σ 2 1 ≤ 1000) (hK : K (some (.int (cNam σ))) (cBeg σ)) : gE 30 0 [some (.ref 1)] [] σ K := by
  exact w30 ⟨hc, cBeg_RW hc, hK⟩
noncomputable def f30 : gD := fun Lv σ => match Lv with
  | [some (.ref q0)] => cond (Nat.beq q0 1) (some (some (0 ≤ σ 2 1 ∧ σ 2 1 ≤ 1000), some (.int (cNam σ)), cBeg σ)) none
  | _ => none
theorem ok30 : gFok 30 f30 := by
  intro Lv σ q h hc K hK
  unfold f30 at h
  split at h
  · rename_i q0
    obtain ⟨hb, h⟩ := c_no h
    have hb0 := hb
    have e0 := b_eq hb0
    subst e0
    cases h
    exact s30 (hc _ rfl) hK
  · cases h
noncomputable def gpdl_l : List (Nat × gD) := (102, f102) :: (62, f62) :: (29, f29) :: (30, f30) :: gpdk_l
noncomputable def gpdl : gP := gpl0 gpdl_l
theorem gpdl_ok : gPok gpdl := gpl0_cons ok102 (gpl0_cons ok62 (gpl0_cons ok29 (gpl0_cons ok30 (gpdk_ok))))
-- text 54
/-! THE CLASS: come -/
/-- the guest's numbers -/
def cGue (σ : gS) (x k f w s : Int32) : gS := gup (gup (gup (gup (gup (gup (cBeg σ) 58 0 (cNam σ)) 58 1 x) 58 2 k) 58 3 f) 58 8 w) 58 9 s
def cGu0 (σ : gS) (x k f w s : Int32) : gS := cGue (cZr (cRem (cBeg σ)) 58) x k f w s
def cCom (σ : gS) (x k f w s : Int32) : gS := gup (cAdd (cAdm (cGu0 σ x k f w s) 6 58) 0 (σ 6 7) x) 2 1 0
theorem cGue_ne {σ : gS} {x k f w s : Int32} {q : Nat} (h : ¬ q = 58) (h1 : ¬ q = 1) : cGue σ x k f w s q = σ q := by
  funext j
  unfold cGue
  rw [gup_ne (by omega), gup_ne (by omega), gup_ne (by omega), gup_ne (by omega), gup_ne (by omega), gup_ne (by omega), cBeg_ne h1]
theorem cZr_ne {σ : gS} {w q : Nat} (h : ¬ q = w) : cZr σ w q = σ q := by
  funext j
  unfold cZr
  rw [if_neg (by omega), if_neg (by omega)]
theorem cGu0_ne {σ : gS} {x k f w s : Int32} {q : Nat} (h7 : 0 ≤ σ 6 7 ∧ σ 6 7 ≤ 20) (h : q < 113) (h2 : ¬ q = 58) (h1 : ¬ q = 1) : cGu0 σ x k f w s q = σ q := by
  unfold cGu0
  rw [cGue_ne h2 h1, cZr_ne h2, cRem_far (Or.inl h) (by rw [cBeg_ne (by decide)]; exact h7), cBeg_ne h1]
theorem tv_58 : gTv 58 := by unfold gTv; decide +kernel
theorem cAdm_far {σ : gS} {p w q : Nat} (h7 : 0 ≤ σ p 7 ∧ σ p 7 < 20) (h : q < p ∨ p + 24 ≤ q) : cAdm σ p w q = σ q := by
  have l := n20 h7
  funext j
  unfold cAdm
  rw [gup_ne (by omega), cCnt_off (by omega)]
  show (if q = p + 2 + (σ p 7).toNatClampNeg ∧ j < 10 then _ else _) = _
  rw [if_neg (by omega)]
abbrev okK (σ : gS) (x k f w s : Int32) : Prop := (((isS (cR σ 6) x ∧ (0 ≤ k ∧ k ≤ 1)) ∧ (0 ≤ f ∧ f ≤ 9)) ∧ (0 ≤ w ∧ w ≤ 99)) ∧ (1 ≤ s ∧ s ≤ 99)
abbrev okF (σ : gS) (x k : Int32) : Prop := fWho (cR σ 6) x = -2 ∧ (k = 1 ∨ cR σ 6 1 ≤ x / 4)
set_option maxRecDepth 20000 in
theorem w112 {σ : gS} {K : gK} {x k f w s : Int32} (h : (((bI (isS (cR σ 6) x)) = 0 → K (some (.int (-1))) σ) ∧ (¬ (bI (isS (cR σ 6) x)) = 0 → (((bI ((0 : Int32) ≤ k ∧ k ≤ (1 : Int32))) = 0 → K (some (.int (-1))) σ) ∧ (¬ (bI ((0 : Int32) ≤ k ∧ k ≤ (1 : Int32))) = 0 → (((bI ((0 : Int32) ≤ f ∧ f ≤ (9 : Int32))) = 0 → K (some (.int (-1))) σ) ∧ (¬ (bI ((0 : Int32) ≤ f ∧ f ≤ (9 : Int32))) = 0 → (((bI ((0 : Int32) ≤ w ∧ w ≤ (99 : Int32))) = 0 → K (some (.int (-1))) σ) ∧ (¬ (bI ((0 : Int32) ≤ w ∧ w ≤ (99 : Int32))) = 0 → (((bI ((1 : Int32) ≤ s ∧ s ≤ (99 : Int32))) = 0 → K (some (.int (-1))) σ) ∧ (¬ (bI ((1 : Int32) ≤ s ∧ s ≤ (99 : Int32))) = 0 → (0 ≤ σ 2 1 ∧ σ 2 1 ≤ 1000) ∧ ((¬ (bI (cTN σ)) = 0 → ((((cBeg σ) 6 7) < 20 → (0 ≤ (cBeg σ) 6 7 ∧ (cBeg σ) 6 7 ≤ 20) ∧ (((bI (fWho (cR (cBeg σ) 6) x = -2)) = 0 → K (some (.int (-4))) (cBeg σ)) ∧ (¬ (bI (fWho (cR (cBeg σ) 6) x = -2)) = 0 → ((¬ (bI (k = 1 ∨ cR (cBeg σ) 6 1 ≤ x / 4)) = 0 → gE 112 105 [some (.ref 0), some (.int x), some (.int k), some (.int f), some (.int w), some (.int s), none] [] (cBeg σ) K) ∧ ((bI (k = 1 ∨ cR (cBeg σ) 6 1 ≤ x / 4)) = 0 → K (some (.int (-4))) (cBeg σ)))))) ∧ (¬ ((cBeg σ) 6 7) < 20 → K (some (.int (-3))) (cBeg σ)))) ∧ ((bI (cTN σ)) = 0 → K (some (.int (-1))) (cBeg σ)))))))))))))) : gE 112 0 [some (.ref 0), some (.int x), some (.int k), some (.int f), some (.int w), some (.int s), none] [] σ K :=
  gw_run (cy := 112) (cuts := [105, 123, 188]) (inl := []) (pf := gpdl) gpdl_ok 400 (by decide) h
set_option maxRecDepth 20000 in
theorem c112_105 {σ : gS} {K : gK} {l1 l2 l3 l4 l5 : Int32} (h : (bPa σ ∧ (0 ≤ σ 6 7 ∧ σ 6 7 ≤ 20)) ∧ gTv 58 ∧ (gTv 58) ∧ gE 112 123 [some (.ref 0), some (.int l1), some (.int l2), some (.int l3), some (.int l4), some (.int l5), none] [] (cZr (cRem σ) 58) K) : gE 112 105 [some (.ref 0), some (.int l1), some (.int l2), some (.int l3), some (.int l4), some (.int l5), none] [] σ K :=
  gw_run (cy := 112) (cuts := [105, 123, 188]) (inl := []) (pf := gpdl) gpdl_ok 400 (by decide) h
set_option maxRecDepth 20000 in
theorem c112_123 {σ : gS} {K : gK} {l1 l2 l3 l4 l5 : Int32} (h : (0 ≤ σ 2 1 ∧ σ 2 1 ≤ 1000) ∧ gTv 58 ∧ gTv 58 ∧ gTv 58 ∧ gTv 58 ∧ gTv 58 ∧ gTv 58 ∧ gE 112 188 [some (.ref 0), some (.int l1), some (.int l2), some (.int l3), some (.int l4), some (.int l5), some (.int ((gup (gup (gup (gup (gup (gup (cBeg σ) 58 0 (cNam σ)) 58 1 l1) 58 2 l2) 58 3 l3) 58 8 l4) 58 9 l5) 6 7))] [] (gup (gup (gup (gup (gup (gup (cBeg σ) 58 0 (cNam σ)) 58 1 l1) 58 2 l2) 58 3 l3) 58 8 l4) 58 9 l5) K) : gE 112 123 [some (.ref 0), some (.int l1), some (.int l2), some (.int l3), some (.int l4), some (.int l5), none] [] σ K :=
  gw_run (cy := 112) (cuts := [105, 123, 188]) (inl := []) (pf := gpdl) gpdl_ok 400 (by decide) h
set_option maxRecDepth 20000 in
theorem c112_188 {σ : gS} {K : gK} {l1 l2 l3 l4 l5 l6 : Int32} (h : ((0 ≤ σ 6 7 ∧ σ 6 7 < 20) ∧ gTv 58) ∧ (bLg (cAdm σ 6 58) 30) ∧ K (some (.int l6)) (gup (cAdd (cAdm σ 6 58) (0 : Int32) l6 l1) 2 1 0)) : gE 112 188 [some (.ref 0), some (.int l1), some (.int l2), some (.int l3), some (.int l4), some (.int l5), some (.int l6)] [] σ K :=
  gw_run (cy := 112) (cuts := [105, 123, 188]) (inl := []) (pf := gpdl) gpdl_ok 400 (by decide) h
theorem s112 {σ : gS} {K : gK} {x k f w s : Int32} (hc : SC σ ∧ (0 ≤ σ 2 1 ∧ σ 2 1 ≤ 1000)) (hK : K (some (.int (if okK σ x k f w s ∧ cTN σ then (if σ 6 7 < 20 then (if okF σ x k then σ 6 7 else -4) else -3) else -1))) (if okK σ x k f w s then (if cTN σ ∧ σ 6 7 < 20 ∧ okF σ x k then cCom σ x k f w s else cBeg σ) else σ)) : gE 112 0 [some (.ref 0), some (.int x), some (.int k), some (.int f), some (.int w), some (.int s), none] [] σ K := by
  obtain ⟨hs, hL⟩ := hc
  have h7 := SC_7 hs
  have b6 : cBeg σ 6 = σ 6 := cBeg_ne (by decide)
  have bR : cR (cBeg σ) 6 = cR σ 6 := cR_blk (fun q q1 q2 => cBeg_ne (by omega))
  have no : ¬ okK σ x k f w s → K (some (.int (-1))) σ := by
    intro q
    rw [if_neg q, if_neg (fun e => q e.1)] at hK
    exact hK
  refine w112 ⟨fun h => no (fun q => bI_0.mp h q.1.1.1.1), fun h => ⟨fun h1 => no (fun q => bI_0.mp h1 q.1.1.1.2), fun h1 => ⟨fun h2 => no (fun q => bI_0.mp h2 q.1.1.2), fun h2 => ⟨fun h3 => no (fun q => bI_0.mp h3 q.1.2), fun h3 => ⟨fun h4 => no (fun q => bI_0.mp h4 q.2), fun h4 => ⟨hL, ?_⟩⟩⟩⟩⟩⟩
  have yy : ∀ {P : Prop} [Decidable P], ¬ bI P = 0 → P := fun {P} _ h => Decidable.not_not.mp (fun q => h (bI_0.mpr q))
  have ok : okK σ x k f w s := ⟨⟨⟨⟨yy h, yy h1⟩, yy h2⟩, yy h3⟩, yy h4⟩
  rw [if_pos ok] at hK
  rw [b6, bR]
  refine ⟨fun h5 => ?_, fun h5 => ?_⟩
  · have h5 := yy h5
    rw [if_pos ⟨ok, h5⟩] at hK
    refine ⟨fun h6 => ?_, fun h6 => ?_⟩
    · rw [if_pos h6] at hK
      have bad : ¬ okF σ x k → K (some (.int (-4))) (cBeg σ) := by
        intro q
        rw [if_neg q, if_neg (fun e => q e.2.2)] at hK
        exact hK
      refine ⟨h7, fun h8 => bad (fun q => bI_0.mp h8 q.1), fun h8 => ⟨fun h9 => ?_, fun h9 => bad (fun q => bI_0.mp h9 q.2)⟩⟩
      have okf : okF σ x k := ⟨yy h8, yy h9⟩
      rw [if_pos okf, if_pos ⟨h5, h6, okf⟩] at hK
      have hP := hs.2.1
      have g7 : ∀ q, q < 113 → ¬ q = 58 → ¬ q = 1 → cGu0 σ x k f w s q = σ q := fun q q1 q2 q3 => cGu0_ne h7 q1 q2 q3
      have u7 : 0 ≤ cGu0 σ x k f w s 6 7 ∧ cGu0 σ x k f w s 6 7 < 20 := by rw [g7 6 (by decide) (by decide) (by decide)]; exact ⟨h7.1, h6⟩
      refine c112_105 ⟨⟨by unfold bPa; rw [cBeg_ne (by decide)]; exact hP, by rw [b6]; exact h7⟩, tv_58, tv_58, c112_123 ⟨?_, tv_58, tv_58, tv_58, tv_58, tv_58, tv_58, ?_⟩⟩
      · rw [cZr_ne (by decide), cRem_far (Or.inl (by decide)) (by rw [b6]; exact h7), cBeg_ne (by decide)]
        exact hL
      · show gE 112 188 [some (.ref 0), some (.int x), some (.int k), some (.int f), some (.int w), some (.int s), some (.int (cGu0 σ x k f w s 6 7))] [] (cGu0 σ x k f w s) K
        refine c112_188 ⟨⟨u7, tv_58⟩, ?_, ?_⟩
        · unfold bLg
          rw [cAdm_far u7 (Or.inr (by decide)), g7 30 (by decide) (by decide) (by decide)]
          exact hs.2.2.1
        · rw [g7 6 (by decide) (by decide) (by decide)]
          exact hK
    · rw [if_neg h6, if_neg (fun e => h6 e.2.1)] at hK
      exact hK
  · have h5 := bI_0.mp h5
    rw [if_neg (fun e => h5 e.2), if_neg (fun e => h5 e.1)] at hK
    exact hK
noncomputable def f112 : gD := fun Lv σ => match Lv with
  | [some (.ref q0), some (.int x), some (.int k), some (.int f), some (.int w), some (.int s), none] => cond (Nat.beq q0 0) (some (some (SC σ ∧ (0 ≤ σ 2 1 ∧ σ 2 1 ≤ 1000)), some (.int (if okK σ x k f w s ∧ cTN σ then (if σ 6 7 < 20 then (if okF σ x k then σ 6 7 else -4) else -3) else -1)), if okK σ x k f w s then (if cTN σ ∧ σ 6 7 < 20 ∧ okF σ x k then cCom σ x k f w s else cBeg σ) else σ)) none
  | _ => none
theorem ok112 : gFok 112 f112 := by
  intro Lv σ q h hc K hK
  unfold f112 at h
  split at h
  · rename_i q0 x k f w s
    obtain ⟨hb, h⟩ := c_no h
    have hb0 := hb
    have e0 := b_eq hb0
    subst e0
    cases h
    exact s112 (hc _ rfl) hK
  · cases h
end
section
-- text 55
/-! RELATION: the name on the tape -/
def dgt (T : gW) (i : Nat) : Nat := (T i).toNatClampNeg - 96
def nRd (d : Nat → Nat) : Nat → Nat
  | 0 => 0
  | k + 1 => 27 * nRd d k + d k
def nCd (d : Nat → Nat) : Nat → Nat
  | 0 => 0
  | k + 1 => nCd d k + d k * 32 ^ k
theorem dgt_of {x : Int32} (h : isSm x) : x = iN (96 + (x.toNatClampNeg - 96)) ∧ 1 ≤ x.toNatClampNeg - 96 ∧ x.toNatClampNeg - 96 ≤ 26 := by
  obtain ⟨h1, h2⟩ := h
  obtain ⟨e, l⟩ := iN_of (show 0 ≤ x by grind)
  obtain ⟨m, hm⟩ : ∃ m, x.toNatClampNeg = m := ⟨_, rfl⟩
  rw [hm] at e l ⊢
  rw [e] at h1 h2 ⊢
  have g1 : 97 ≤ m := (iN_le (k := 97) (by decide) l).mp h1
  have g2 : m ≤ 122 := (iN_le (m := 122) l (by decide)).mp h2
  refine ⟨by rw [show 96 + (m - 96) = m by omega], by omega, by omega⟩
theorem shl_d : ∀ d, d < 27 → ∀ k, k < 5 → iN d <<< (iN (5 * k) &&& 31) = iN (d * 32 ^ k) := by decide +kernel
theorem iN_or (a b : Nat) : iN a ||| iN b = iN (a ||| b) := by
  apply Int32.toBitVec_inj.mp
  rw [Int32.toBitVec_or]
  show BitVec.ofNat 32 a ||| BitVec.ofNat 32 b = BitVec.ofNat 32 (a ||| b)
  rw [BitVec.ofNat_or]
theorem nCd_lt {d : Nat → Nat} : ∀ {k : Nat}, (∀ i, i < k → d i ≤ 26) → nCd d k < 32 ^ k
  | 0, _ => Nat.zero_lt_one
  | k + 1, h => by
    have ih := nCd_lt (d := d) (k := k) (fun i hi => h i (by omega))
    have hk := h k (by omega)
    have e : nCd d (k + 1) = nCd d k + d k * 32 ^ k := rfl
    rw [e, Nat.pow_succ]
    have : d k * 32 ^ k ≤ 26 * 32 ^ k := Nat.mul_le_mul_right _ hk
    omega
theorem pk_or {m d k : Nat} (hm : m < 32 ^ k) : m ||| (d * 32 ^ k) = m + d * 32 ^ k := by
  have e : (32 : Nat) ^ k = 2 ^ (5 * k) := by rw [Nat.pow_mul]
  rw [e] at hm ⊢
  have := Nat.two_pow_add_eq_or_of_lt hm d
  rw [Nat.or_comm, Nat.mul_comm d, ← this, Nat.add_comm]
theorem cPk_e {T : gW} {L : Nat} (hs : smA T L) : ∀ {k : Nat}, k ≤ 5 → k ≤ L → cPk T L 0 k = iN (nCd (dgt T) k)
  | 0, _, _ => rfl
  | k + 1, h5, hL => by
    have ih := cPk_e hs (k := k) (by omega) (by omega)
    obtain ⟨e1, e2, e3⟩ := dgt_of (hs k (by omega))
    have hb : cBy T L (0 + k) - 97 + 1 = iN (dgt T k) := by
      unfold cBy dgt
      rw [Nat.zero_add, if_pos (by omega), e1]
      obtain ⟨m, hm⟩ : ∃ m, (T k).toNatClampNeg - 96 = m := ⟨_, rfl⟩
      rw [hm] at e2 e3 ⊢
      rw [iN_nat (by omega), show 96 + m - 96 = m by omega]
      have : iN (96 + m) - 97 = iN (m - 1) := by
        rw [show m - 1 = 96 + m - 97 by omega]
        exact iN_sub (d := 97) (by omega) (by omega)
      rw [this, iN_one, show m - 1 + 1 = m by omega]
    show cPk T L 0 k ||| ((cBy T L (0 + k) - 97 + 1) <<< (iN (5 * k) &&& 31)) = _
    rw [ih, hb, shl_d _ (show dgt T k < 27 from by unfold dgt; omega) k (by omega), iN_or, pk_or (nCd_lt (fun i hi => ?_))]
    · rfl
    · exact (dgt_of (hs i (by omega))).2.2
theorem nRd_lt {d : Nat → Nat} : ∀ {k : Nat}, (∀ i, i < k → d i ≤ 26) → nRd d k < 27 ^ k
  | 0, _ => Nat.zero_lt_one
  | k + 1, h => by
    have ih := nRd_lt (d := d) (k := k) (fun i hi => h i (by omega))
    have hk := h k (by omega)
    have e : nRd d (k + 1) = 27 * nRd d k + d k := rfl
    rw [e, Nat.pow_succ]
    omega
theorem tnm_e {T : gW} : ∀ {k : Nat}, k ≤ 5 → smA T k → tnm T k = iN (nRd (dgt T) k)
  | 0, _, _ => rfl
  | k + 1, h5, hs => by
    have ih := tnm_e (T := T) (k := k) (by omega) (fun j hj => hs j (by omega))
    obtain ⟨e1, e2, e3⟩ := dgt_of (hs k (by omega))
    show 27 * tnm T k + T k - 96 = iN (27 * nRd (dgt T) k + dgt T k)
    have q : (27 : Int32) = iN 27 := rfl
    rw [ih, e1, q, iN_mul, iN_add]
    have l : nRd (dgt T) k < 27 ^ 4 := Nat.lt_of_lt_of_le (nRd_lt (fun i hi => (dgt_of (hs i (by omega))).2.2)) (Nat.pow_le_pow_right (by decide) (by omega))
    have l2 : (27 : Nat) ^ 4 = 531441 := by decide
    rw [l2] at l
    rw [show 27 * nRd (dgt T) k + dgt T k = 27 * nRd (dgt T) k + (96 + ((T k).toNatClampNeg - 96)) - 96 by unfold dgt; omega]
    exact iN_sub (d := 96) (by omega) (by omega)
theorem foldr_z (l : List Nat) (z : Nat) : l.foldr (fun x s => x + 32 * s) z = l.foldr (fun x s => x + 32 * s) 0 + 32 ^ l.length * z := by
  induction l with
  | nil => simp
  | cons x l ih =>
    rw [List.foldr_cons, List.foldr_cons, ih, List.length_cons, Nat.pow_succ, Nat.mul_add, ← Nat.add_assoc]
    congr 1
    rw [Nat.mul_comm (32 ^ l.length) 32, Nat.mul_assoc]
theorem nm_fold (d : Nat → Nat) : ∀ k, ((List.range k).map d).foldl (fun s x => 27 * s + x) 0 = nRd d k ∧ ((List.range k).map d).foldr (fun x s => x + 32 * s) 0 = nCd d k
  | 0 => ⟨rfl, rfl⟩
  | k + 1 => by
    obtain ⟨i1, i2⟩ := nm_fold d k
    rw [List.range_succ, List.map_append, List.foldl_append, List.foldr_append, i1]
    refine ⟨rfl, ?_⟩
    show List.foldr _ (d k + 32 * 0) _ = _
    rw [foldr_z, i2, List.length_map, List.length_range]
    show _ = nCd d k + d k * 32 ^ k
    rw [Nat.mul_zero, Nat.add_zero, Nat.mul_comm (d k)]
/-- the two names stand for the same letters -/
theorem nm_ok {T : gW} {L : Nat} (h1 : 1 ≤ L) (h5 : L ≤ 5) (hs : smA T L) : nmR (cPk T L 0 L) (tnm T L) := by
  refine ⟨(List.range L).map (dgt T), ?_, ?_, ?_, ?_⟩
  · rw [List.length_map, List.length_range]
    exact ⟨h1, h5⟩
  · intro x hx
    rw [List.mem_map] at hx
    obtain ⟨i, hi, rfl⟩ := hx
    rw [List.mem_range] at hi
    exact (dgt_of (hs i hi)).2
  · rw [cPk_e hs h5 (Nat.le_refl _), (nm_fold _ _).2]
  · rw [tnm_e h5 hs, (nm_fold _ _).1]
-- text 56
/-! RELATION: whether the tape is a name -/
theorem skp_all {P : Nat → Bool} : ∀ {d s : Nat}, skp P d s = s + d ↔ ∀ i, i < d → P (s + i) = true
  | 0, s => ⟨fun _ i hi => absurd hi (Nat.not_lt_zero _), fun _ => rfl⟩
  | d + 1, s => by
    have ih := skp_all (P := P) (d := d) (s := s + 1)
    have b := skp_b (P := P) (d := d) (s := s + 1)
    unfold skp
    by_cases h : P s = true
    · rw [if_pos h, show s + (d + 1) = s + 1 + d by omega, ih]
      refine ⟨fun q i hi => ?_, fun q i hi => ?_⟩
      · by_cases e : i = 0
        · subst e; exact h
        · have := q (i - 1) (by omega)
          rw [show s + 1 + (i - 1) = s + i by omega] at this
          exact this
      · rw [show s + 1 + i = s + (i + 1) by omega]
        exact q (i + 1) (by omega)
    · rw [if_neg h]
      refine ⟨fun q => by omega, fun q => absurd (q 0 (by omega)) h⟩
theorem cKd_2 {w : Int32} : cKd w = 2 ↔ isSm w := by
  unfold cKd isSm
  grind
/-- letters alone stand on the tape -/
theorem tok_sm {T : gW} {L : Nat} : (tkS T L 0 = 0 ∧ tkE T L 0 = L ∧ tkK T L 0 = 2) ↔ (1 ≤ L ∧ smA T L) := by
  have k0 : tkS T L 0 = 0 → (tkK T L 0 = 2 ↔ (0 < L ∧ isSm (T 0))) := by
    intro h
    unfold tkK
    rw [h, cKd_2]
    unfold cBy
    by_cases hL : 0 < L
    · rw [if_pos hL]
      exact ⟨fun q => ⟨hL, q⟩, fun q => q.2⟩
    · rw [if_neg hL]
      exact ⟨fun q => absurd q (by decide), fun q => absurd q.1 hL⟩
  have run : tkS T L 0 = 0 → tkK T L 0 = 2 → 0 < L → (tkE T L 0 = L ↔ ∀ i, i < L - 1 → isSm (T (1 + i))) := by
    intro h1 h2 hL
    unfold tkE
    rw [if_pos (Or.inl h2), h1, h2, Nat.zero_add]
    have := skp_all (P := fun i => decide (cKd (T i) = 2)) (d := L - 1) (s := 1)
    rw [show 1 + (L - 1) = L by omega] at this
    rw [this]
    simp only [decide_eq_true_eq, cKd_2]
  constructor
  · rintro ⟨h1, h2, h3⟩
    obtain ⟨hL, h0⟩ := (k0 h1).mp h3
    have hr := (run h1 h3 hL).mp h2
    refine ⟨hL, fun j hj => ?_⟩
    by_cases e : j = 0
    · subst e; exact h0
    · have := hr (j - 1) (by omega)
      rw [show 1 + (j - 1) = j by omega] at this
      exact this
  · rintro ⟨hL, hs⟩
    have h1 : tkS T L 0 = 0 := by
      unfold tkS
      rw [show L - 0 = (L - 1) + 1 by omega]
      unfold skp
      have h0 := (cKd_2 (w := T 0)).mpr (hs 0 (by omega))
      rw [if_neg]
      simp only [decide_eq_true_eq]
      rw [h0]
      decide
    have h3 := (k0 h1).mpr ⟨by omega, hs 0 (by omega)⟩
    exact ⟨h1, (run h1 h3 (by omega)).mpr (fun i hi => hs (1 + i) (by omega)), h3⟩
/-- the class's word, letter by letter -/
theorem cWd_e {σ : gS} {B : List Int32} {L : Nat} (hL : σ 2 1 = iN L) (l : L ≤ 1000) (h1 : tkS (σ 3) L 0 = 0) (h2 : tkE (σ 3) L 0 = L) (h3 : tkK (σ 3) L 0 = 2) (hB : B.length ≤ 10) : cWd (cBeg σ) B ↔ (L = B.length ∧ ∀ i, i < L → σ 3 i = B.getD i 0) := by
  have nL : (σ 2 1).toNatClampNeg = L := by rw [hL, iN_nat (by omega)]
  obtain ⟨c1, c2, c3⟩ := cBeg_1 (σ := σ)
  rw [nL] at c1 c2 c3
  unfold cWd
  rw [c1, c2, c3, h1, h2, h3, cBeg_ne (by decide), cBeg_ne (by decide), nL]
  have e0 : iN L - iN 0 = iN L := by show iN L - 0 = iN L; grind
  have en : (iN 0).toNatClampNeg = 0 := rfl
  rw [e0, en, iN_inj (by omega) (by omega)]
  refine ⟨fun q => ⟨q.2.1, fun i hi => ?_⟩, fun q => ⟨rfl, q.1, fun i hi => ?_⟩⟩
  · have := q.2.2 i (by omega)
    unfold cBy at this
    rw [Nat.zero_add, if_pos hi] at this
    exact this
  · unfold cBy
    rw [Nat.zero_add, if_pos (by omega)]
    exact q.2 i (by omega)
end
section
-- text 57
/-! RELATION: keywords -/
theorem nRd_inj {d d' : Nat → Nat} : ∀ {k k' : Nat}, (∀ i, i < k → 1 ≤ d i ∧ d i ≤ 26) → (∀ i, i < k' → 1 ≤ d' i ∧ d' i ≤ 26) → nRd d k = nRd d' k' → k = k' ∧ ∀ i, i < k → d i = d' i
  | 0, 0, _, _, _ => ⟨rfl, fun i hi => absurd hi (Nat.not_lt_zero _)⟩
  | 0, k' + 1, _, h', e => by
    have := h' k' (by omega)
    have e : 0 = 27 * nRd d' k' + d' k' := e
    omega
  | k + 1, 0, h, _, e => by
    have := h k (by omega)
    have e : 27 * nRd d k + d k = 0 := e
    omega
  | k + 1, k' + 1, h, h', e => by
    have h1 := h k (by omega)
    have h2 := h' k' (by omega)
    have e : 27 * nRd d k + d k = 27 * nRd d' k' + d' k' := e
    have e1 : nRd d k = nRd d' k' := by omega
    obtain ⟨i1, i2⟩ := nRd_inj (k := k) (k' := k') (fun i hi => h i (by omega)) (fun i hi => h' i (by omega)) e1
    subst i1
    refine ⟨rfl, fun i hi => ?_⟩
    by_cases q : i = k
    · subst q; omega
    · exact i2 i (by omega)
theorem nRd_cg {d d' : Nat → Nat} : ∀ {k : Nat}, (∀ i, i < k → d i = d' i) → nRd d k = nRd d' k
  | 0, _ => rfl
  | k + 1, h => by
    show 27 * nRd d k + d k = 27 * nRd d' k + d' k
    rw [nRd_cg (k := k) (fun i hi => h i (by omega)), h k (by omega)]
theorem wd_v {d : Nat → Nat} {L : Nat} {C : List Nat} {v : Nat} (hd : ∀ i, i < L → 1 ≤ d i ∧ d i ≤ 26) (hC : ∀ i, i < C.length → 1 ≤ C.getD i 0 ∧ C.getD i 0 ≤ 26) (hv : nRd (fun i => C.getD i 0) C.length = v) : (L = C.length ∧ ∀ i, i < L → d i = C.getD i 0) ↔ nRd d L = v := by
  constructor
  · rintro ⟨h, q⟩
    rw [← hv, ← h]
    exact nRd_cg q
  · intro h
    rw [← hv] at h
    exact nRd_inj hd hC h
theorem wd_c {T : gW} {L : Nat} (hs : smA T L) {B : List Int32} {C : List Nat} (hB : B = C.map (fun x => iN (96 + x))) (hC : ∀ x, x ∈ C → x ≤ 26) : (L = B.length ∧ ∀ i, i < L → T i = B.getD i 0) ↔ (L = C.length ∧ ∀ i, i < L → dgt T i = C.getD i 0) := by
  subst hB
  rw [List.length_map]
  refine and_congr_right (fun hL => forall_congr' (fun i => forall_congr' (fun hi => ?_)))
  obtain ⟨e1, e2, e3⟩ := dgt_of (hs i hi)
  have hi2 : i < C.length := by omega
  rw [List.getD_eq_getElem?_getD, List.getD_eq_getElem?_getD, List.getElem?_map, List.getElem?_eq_getElem hi2]
  have hx := hC (C[i]) (List.getElem_mem hi2)
  show T i = iN (96 + C[i]) ↔ dgt T i = C[i]
  unfold dgt
  rw [e1, iN_inj (by omega) (by omega), iN_nat (by omega)]
  omega
theorem jW_0 : jW 1000001 = ([20, 18, 1, 9, 14] : List Nat).map (fun x => iN (96 + x)) := by decide +kernel
theorem jW_1 : jW 1000002 = ([6, 9, 18, 19, 20] : List Nat).map (fun x => iN (96 + x)) := by decide +kernel
theorem jW_2 : jW 1000003 = ([19, 5, 1, 20] : List Nat).map (fun x => iN (96 + x)) := by decide +kernel
theorem jW_3 : jW 1000004 = ([20, 9, 3, 11, 5, 20] : List Nat).map (fun x => iN (96 + x)) := by decide +kernel
theorem jW_4 : jW 1000005 = ([6, 1, 13, 9, 12, 25] : List Nat).map (fun x => iN (96 + x)) := by decide +kernel
theorem jW_5 : jW 1000006 = ([23, 9, 14, 4, 15, 23] : List Nat).map (fun x => iN (96 + x)) := by decide +kernel
theorem jW_6 : jW 1000007 = ([1, 8, 5, 1, 4] : List Nat).map (fun x => iN (96 + x)) := by decide +kernel
theorem jW_7 : jW 1000008 = ([18, 15, 23] : List Nat).map (fun x => iN (96 + x)) := by decide +kernel
theorem jW_8 : jW 1000009 = ([19, 23, 5, 5, 20, 19] : List Nat).map (fun x => iN (96 + x)) := by decide +kernel
theorem jW_9 : jW 1000010 = ([19, 20, 15, 16] : List Nat).map (fun x => iN (96 + x)) := by decide +kernel
theorem kw_ok {σ : gS} {L : Nat} (hL : σ 2 1 = iN L) (h1 : 1 ≤ L) (h5 : L ≤ 5) (hs : smA (σ 3) L) : cKw (cBeg σ) ↔ isKey (tnm (σ 3) L) := by
  have l : L ≤ 1000 := by omega
  obtain ⟨t1, t2, t3⟩ := tok_sm.mpr ⟨h1, hs⟩
  have hd : ∀ i, i < L → 1 ≤ dgt (σ 3) i ∧ dgt (σ 3) i ≤ 26 := fun i hi => (dgt_of (hs i hi)).2
  have w0 : cWd (cBeg σ) (jW 1000001) ↔ nRd (dgt (σ 3)) L = 10984100 := (cWd_e (B := jW 1000001) hL l t1 t2 t3 (by decide)).trans ((wd_c hs jW_0 (by decide)).trans (wd_v hd (by decide) (by decide)))
  have w1 : cWd (cBeg σ) (jW 1000002) ↔ nRd (dgt (σ 3)) L = 3379448 := (cWd_e (B := jW 1000002) hL l t1 t2 t3 (by decide)).trans ((wd_c hs jW_1 (by decide)).trans (wd_v hd (by decide) (by decide)))
  have w2 : cWd (cBeg σ) (jW 1000003) ↔ nRd (dgt (σ 3)) L = 377669 := (cWd_e (B := jW 1000003) hL l t1 t2 t3 (by decide)).trans ((wd_c hs jW_2 (by decide)).trans (wd_v hd (by decide) (by decide)))
  have w3 : cWd (cBeg σ) (jW 1000004) ↔ nRd (dgt (σ 3)) L = 291828332 := (cWd_e (B := jW 1000004) hL l t1 t2 t3 (by decide)).trans ((wd_c hs jW_3 (by decide)).trans (wd_v hd (by decide) (by decide)))
  have w4 : cWd (cBeg σ) (jW 1000005) ↔ nRd (dgt (σ 3)) L = 86887672 := (cWd_e (B := jW 1000005) hL l t1 t2 t3 (by decide)).trans ((wd_c hs jW_4 (by decide)).trans (wd_v hd (by decide) (by decide)))
  have w5 : cWd (cBeg σ) (jW 1000006) ↔ nRd (dgt (σ 3)) L = 335086736 := (cWd_e (B := jW 1000006) hL l t1 t2 t3 (by decide)).trans ((wd_c hs jW_5 (by decide)).trans (wd_v hd (by decide) (by decide)))
  have w6 : cWd (cBeg σ) (jW 1000007) ↔ nRd (dgt (σ 3)) L = 692581 := (cWd_e (B := jW 1000007) hL l t1 t2 t3 (by decide)).trans ((wd_c hs jW_6 (by decide)).trans (wd_v hd (by decide) (by decide)))
  have w7 : cWd (cBeg σ) (jW 1000008) ↔ nRd (dgt (σ 3)) L = 13550 := (cWd_e (B := jW 1000008) hL l t1 t2 t3 (by decide)).trans ((wd_c hs jW_7 (by decide)).trans (wd_v hd (by decide) (by decide)))
  have w8 : cWd (cBeg σ) (jW 1000009) ↔ nRd (dgt (σ 3)) L = 284954995 := (cWd_e (B := jW 1000009) hL l t1 t2 t3 (by decide)).trans ((wd_c hs jW_8 (by decide)).trans (wd_v hd (by decide) (by decide)))
  have w9 : cWd (cBeg σ) (jW 1000010) ↔ nRd (dgt (σ 3)) L = 388978 := (cWd_e (B := jW 1000010) hL l t1 t2 t3 (by decide)).trans ((wd_c hs jW_9 (by decide)).trans (wd_v hd (by decide) (by decide)))
  have lt : nRd (dgt (σ 3)) L < 27 ^ 5 := Nat.lt_of_lt_of_le (nRd_lt (fun i hi => (dgt_of (hs i hi)).2.2)) (Nat.pow_le_pow_right (by decide) h5)
  have l5 : (27 : Nat) ^ 5 = 14348907 := by decide
  rw [l5] at lt
  have lit : ∀ k : Nat, k < 2147483648 → (iN (nRd (dgt (σ 3)) L) = iN k ↔ nRd (dgt (σ 3)) L = k) := fun k hk => iN_inj (by omega) hk
  have key : isKey (tnm (σ 3) L) ↔ (nRd (dgt (σ 3)) L = 13550 ∨ nRd (dgt (σ 3)) L = 377669 ∨ nRd (dgt (σ 3)) L = 388978 ∨ nRd (dgt (σ 3)) L = 692581 ∨ nRd (dgt (σ 3)) L = 3379448 ∨ nRd (dgt (σ 3)) L = 10984100 ∨ nRd (dgt (σ 3)) L = 86887672 ∨ nRd (dgt (σ 3)) L = 284954995 ∨ nRd (dgt (σ 3)) L = 291828332 ∨ nRd (dgt (σ 3)) L = 335086736) := by
    unfold isKey
    rw [tnm_e h5 hs]
    exact (or_congr (lit 13550 (by decide)) (or_congr (lit 377669 (by decide)) (or_congr (lit 388978 (by decide)) (or_congr (lit 692581 (by decide)) (or_congr (lit 3379448 (by decide)) (or_congr (lit 10984100 (by decide)) (or_congr (lit 86887672 (by decide)) (or_congr (lit 284954995 (by decide)) (or_congr (lit 291828332 (by decide)) (lit 335086736 (by decide)))))))))))
  rw [key]
  unfold cKw
  rw [w0, w1, w2, w3, w4, w5, w6, w7, w8, w9]
  omega
-- text 58
/-! RELATION: the tapes, and whether they are a name -/
/-- the two tapes are the same -/
def TP (σ : gS) : Prop := (0 ≤ σ 2 1 ∧ σ 2 1 ≤ 1000) ∧ σ 323 8 = σ 2 1 ∧ ∀ i, i < (σ 2 1).toNatClampNeg → σ 330 i = σ 3 i
theorem smA_cg {T S : gW} {L : Nat} (h : ∀ i, i < L → T i = S i) : smA T L ↔ smA S L := by
  constructor
  · intro q j hj; rw [← h j hj]; exact q j hj
  · intro q j hj; rw [h j hj]; exact q j hj
theorem tnm_cg {T S : gW} : ∀ {L : Nat}, (∀ i, i < L → T i = S i) → tnm T L = tnm S L
  | 0, _ => rfl
  | k + 1, h => by
    show 27 * tnm T k + T k - 96 = 27 * tnm S k + S k - 96
    rw [tnm_cg (L := k) (fun i hi => h i (by omega)), h k (by omega)]
theorem nsN_lt : ∀ (f j m : Nat), m < 27 ^ j → nsN f m ≤ j
  | 0, _, _, _ => Nat.zero_le _
  | f + 1, j, m, h => by
    unfold nsN
    by_cases e : m = 0
    · rw [if_pos e]; exact Nat.zero_le _
    · rw [if_neg e]
      cases j with
      | zero =>
        have h : m < 1 := h
        omega
      | succ j =>
        have : nsN f (m / 27) ≤ j := nsN_lt f j (m / 27) (by rw [Nat.pow_succ] at h; omega)
        omega
theorem fTn_e {T : gW} {L : Nat} (l : L ≤ 1000) : fTn T (iN L) = if (1 ≤ L ∧ L ≤ 5) ∧ smA T L ∧ ¬ isKey (tnm T L) then tnm T L else -1 := by
  unfold fTn
  rw [iN_nat (by omega)]
  have e1 : (1 : Int32) ≤ iN L ↔ 1 ≤ L := iN_le (k := 1) (by decide) (by omega)
  have e5 : iN L ≤ (5 : Int32) ↔ L ≤ 5 := iN_le (m := 5) (by omega) (by decide)
  by_cases h : (1 ≤ L ∧ L ≤ 5) ∧ smA T L ∧ ¬ isKey (tnm T L)
  · obtain ⟨h1, h2, h3⟩ := h
    have ns : nsz (tnm T L) ≤ 5 := by
      unfold nsz
      have lt : nRd (dgt T) L < 27 ^ 5 := Nat.lt_of_lt_of_le (nRd_lt (fun i hi => (dgt_of (h2 i hi)).2.2)) (Nat.pow_le_pow_right (by decide) h1.2)
      have l5 : (27 : Nat) ^ 5 = 14348907 := by decide
      rw [tnm_e h1.2 h2, iN_nat (by omega)]
      exact nsN_lt 8 5 _ lt
    rw [if_pos ⟨⟨e1.mpr h1.1, e5.mpr h1.2⟩, h2, ns, h3⟩, if_pos ⟨h1, h2, h3⟩]
  · rw [if_neg h, if_neg (fun q => h ⟨⟨e1.mp q.1.1, e5.mp q.1.2⟩, q.2.1, q.2.2.2⟩)]
theorem cTN_e {σ : gS} {L : Nat} (hL : σ 2 1 = iN L) (l : L ≤ 1000) : cTN σ ↔ ((1 ≤ L ∧ L ≤ 5) ∧ smA (σ 3) L ∧ ¬ isKey (tnm (σ 3) L)) := by
  have nL : (σ 2 1).toNatClampNeg = L := by rw [hL, iN_nat (by omega)]
  obtain ⟨c1, c2, c3⟩ := cBeg_1 (σ := σ)
  rw [nL] at c1 c2 c3
  have bS := tkS_b (T := σ 3) (L := L) (n := 0) (by omega)
  have bE := tkE_b (T := σ 3) (L := L) (n := 0) (by omega)
  have z : cBeg σ 1 2 = 0 ↔ tkS (σ 3) L 0 = 0 := by
    rw [c1]
    exact iN_inj (m := 0) (by omega) (by decide)
  have y : cBeg σ 1 3 = cBeg σ 2 1 ↔ tkE (σ 3) L 0 = L := by
    rw [c2, cBeg_ne (by decide), hL]
    exact iN_inj (by omega) (by omega)
  unfold cTN cNm
  rw [z, y, c3]
  have f5 : tkS (σ 3) L 0 = 0 → tkE (σ 3) L 0 = L → (¬ 5 < cBeg σ 1 3 - cBeg σ 1 2 ↔ L ≤ 5) := by
    intro h1 h2
    rw [c1, c2, h1, h2]
    have e0 : iN L - iN 0 = iN L := by show iN L - 0 = iN L; grind
    rw [e0, show (5 : Int32) < iN L ↔ 5 < L from iN_lt (k := 5) (by decide) (by omega)]
    omega
  constructor
  · rintro ⟨h1, h2, h3, h4, h5⟩
    obtain ⟨g1, g2⟩ := tok_sm.mp ⟨h1, h2, h3⟩
    have g3 := (f5 h1 h2).mp h4
    exact ⟨⟨g1, g3⟩, g2, fun q => h5 ((kw_ok hL g1 g3 g2).mpr q)⟩
  · rintro ⟨⟨h1, h2⟩, h3, h4⟩
    obtain ⟨t1, t2, t3⟩ := tok_sm.mpr ⟨h1, h3⟩
    exact ⟨t1, t2, t3, (f5 t1 t2).mpr h2, fun q => h4 ((kw_ok hL h1 h2 h3).mp q)⟩
/-- class and reference agree whether the tape is a name, and which -/
theorem tn_ok {σ : gS} (h : TP σ) : (cTN σ ↔ ¬ fTn (σ 330) (σ 323 8) < 0) ∧ (cTN σ → nmR (cNam σ) (fTn (σ 330) (σ 323 8))) := by
  obtain ⟨hL, h8, hT⟩ := h
  obtain ⟨eL, l⟩ := l1000 hL
  obtain ⟨L, hLL⟩ : ∃ L, (σ 2 1).toNatClampNeg = L := ⟨_, rfl⟩
  rw [hLL] at eL l hT
  have key := cTN_e eL l
  rw [h8, eL, fTn_e l]
  have c1 := smA_cg hT
  have c2 := tnm_cg hT
  have eF : (if (1 ≤ L ∧ L ≤ 5) ∧ smA (σ 330) L ∧ ¬ isKey (tnm (σ 330) L) then tnm (σ 330) L else -1) = if (1 ≤ L ∧ L ≤ 5) ∧ smA (σ 3) L ∧ ¬ isKey (tnm (σ 3) L) then tnm (σ 3) L else -1 := by
    by_cases q : (1 ≤ L ∧ L ≤ 5) ∧ smA (σ 3) L ∧ ¬ isKey (tnm (σ 3) L)
    · rw [if_pos q, if_pos ⟨q.1, c1.mpr q.2.1, by rw [c2]; exact q.2.2⟩, c2]
    · rw [if_neg q, if_neg (fun x => q ⟨x.1, c1.mp x.2.1, by have := x.2.2; rw [c2] at this; exact this⟩)]
  rw [eF]
  refine ⟨?_, fun hc => ?_⟩
  · rw [key]
    by_cases q : (1 ≤ L ∧ L ≤ 5) ∧ smA (σ 3) L ∧ ¬ isKey (tnm (σ 3) L)
    · rw [if_pos q]
      refine ⟨fun _ => ?_, fun _ => q⟩
      obtain ⟨n, en, ln⟩ := tnm_b (T := σ 3) (k := L) (by omega) q.2.1
      have l5 : (27 : Nat) ^ L ≤ 27 ^ 5 := Nat.pow_le_pow_right (by decide) q.1.2
      have l6 : (27 : Nat) ^ 5 = 14348907 := by decide
      rw [en]
      exact Int32.not_lt.mpr ((iN_le (k := 0) (by decide) (by omega)).mpr (by omega))
    · rw [if_neg q]
      exact ⟨fun x => absurd x q, fun x => absurd (by decide) x⟩
  · have q := key.mp hc
    rw [if_pos q]
    obtain ⟨t1, t2, t3⟩ := tok_sm.mpr ⟨q.1.1, q.2.1⟩
    obtain ⟨c1, c2, c3⟩ := cBeg_1 (σ := σ)
    rw [hLL] at c1 c2 c3
    have e : cNam σ = cPk (σ 3) L 0 L := by
      unfold cNam
      rw [c1, c2, cBeg_ne (by decide), cBeg_ne (by decide), t1, t2, hLL, iN_nat (by omega), iN_nat (by omega), show min (L - 0) 5 = L by have := q.1.2; omega]
    rw [e]
    exact nm_ok q.1.1 q.1.2 q.2.1
noncomputable def gpdm_l : List (Nat × gD) := (112, f112) :: gpdl_l
noncomputable def gpdm : gP := gpl0 gpdm_l
theorem gpdm_ok : gPok gpdm := gpl0_cons ok112 (gpdl_ok)
end
section
-- text 59
/-! RELATION: a new traveller -/
theorem SV_adm {σ : gS} {p w n : Nat} {R S : gW} (h : SV σ p R) (hw : w < p ∨ p + 26 ≤ w) (hn : nM R = n) (h20 : n < 20) (g0 : 0 ≤ σ w 1 ∧ σ w 1 < 40) (g1 : σ w 2 = 0 ∨ σ w 2 = 1) (g2 : 0 ≤ σ w 3 ∧ σ w 3 ≤ 9)
    (s3 : S 3 = iN (n + 1)) (sH : ∀ j, j < 9 → ¬ j = 3 → S j = R j) (sF : ∀ j, 9 ≤ j → j < 9 + 10 * n → S j = R j) (sN : ∀ f, f < 9 → S (9 + 10 * n + f) = σ w (f + 1)) (sM : nmR (σ w 0) (S (9 + 10 * n + 9))) (sL : ∀ j, 209 ≤ j → j < 330 → S j = R j) : SV (cAdm σ p w) p S := by
  obtain ⟨b3, bn, e7⟩ := SV_3 h
  obtain ⟨a1, ⟨t1, t2, t3⟩, l1, n1⟩ := h
  have eN : nM (cR σ p) = nM R := agr_n a1
  have e3 : R 3 = iN n := by rw [← hn]; exact (nM_of b3).1
  have n7 : (σ p 7).toNatClampNeg = n := by rw [e7, e3, iN_nat (by omega)]
  obtain ⟨a0, ha0, ea0⟩ := i8 g0
  obtain ⟨f0, hf0, ef0⟩ := i10 g2
  obtain ⟨τ, hτ⟩ : ∃ τ, cAdm σ p w = τ := ⟨_, rfl⟩
  have cT : ∀ q i, cTv σ (p + 2 + n) w q i = if q = p + 2 + n ∧ i < 10 then σ w i else σ q i := fun q i => rfl
  have ec := cCnt_eq (σ := cTv σ (p + 2 + n) w) (p := p) (w := w) (k := 1) ha0 hf0 (by rw [cT, if_neg (by omega)]; exact ea0) (by rw [cT, if_neg (by omega)]; exact ef0)
  have v : ∀ q i, τ q i = if q = p + 2 + n ∧ i < 10 then σ w i else if q = p ∧ i = 7 then iN (n + 1) else if q = p + 23 ∧ i = a0 * 10 + f0 then σ (p + 23) (a0 * 10 + f0) + 1 else σ q i := by
    intro q i
    rw [← hτ]
    unfold cAdm
    rw [n7, ec, e7, e3, iN_one]
    show (if q = p ∧ i = 7 then iN (n + 1) else if q = p + 23 ∧ i = a0 * 10 + f0 then cTv σ (p + 2 + n) w (p + 23) (a0 * 10 + f0) + 1 else cTv σ (p + 2 + n) w q i) = _
    rw [cT (p + 23), if_neg (show ¬ (p + 23 = p + 2 + n ∧ a0 * 10 + f0 < 10) by omega), cT q i]
    by_cases x1 : q = p + 2 + n ∧ i < 10
    · rw [if_neg (by omega), if_neg (by omega), if_pos x1, if_pos x1]
    · rw [if_neg x1, if_neg x1]
  rw [hτ]
  have c3 : cR τ p 3 = iN (n + 1) := by rw [cR_3, v, if_neg (by omega), if_pos ⟨rfl, rfl⟩]
  have cN : nM (cR τ p) = n + 1 := nM_iN c3 (by omega)
  have sNn : nM S = n + 1 := nM_iN s3 (by omega)
  have fO : ∀ s, s < n → ∀ f, f < 9 → fld (cR τ p) s f = fld (cR σ p) s f := by
    intro s hs f hf
    rw [cR_f (σ := τ) (p := p) (by omega) hf, v, if_neg (by omega), if_neg (by omega), if_neg (by omega), cR_f (σ := σ) (p := p) (by omega) hf]
  have fN : ∀ f, f < 9 → fld (cR τ p) n f = σ w (f + 1) := by
    intro f hf
    rw [cR_f (σ := τ) (p := p) (by omega) hf, v, if_pos ⟨rfl, by omega⟩]
  refine ⟨⟨fun j hj => ?_, fun s hs f hf => ?_⟩, ⟨?_, ?_, ?_⟩, ?_, ?_⟩
  · by_cases q : j = 3
    · subst q
      rw [c3, s3]
    · rw [cR_h hj, v, if_neg (show ¬ (p = p + 2 + n ∧ j + 4 < 10) by omega), if_neg (show ¬ (p = p ∧ j + 4 = 7) by omega), if_neg (show ¬ (p = p + 23 ∧ j + 4 = a0 * 10 + f0) by omega), sH j hj q, ← cR_h (σ := σ) (p := p) hj]
      exact a1.1 j hj
  · rw [cN] at hs
    by_cases q : s < n
    · rw [fO s q f hf]
      show _ = S (9 + 10 * s + f)
      rw [sF _ (by omega) (by omega)]
      exact a1.2 s (by omega) f hf
    · have : s = n := by omega
      subst this
      rw [fN f hf]
      exact (sN f hf).symm
  · rw [c3]
    exact ⟨(iN_le (k := 0) (by decide) (by omega)).mpr (by omega), (iN_le (m := 20) (by omega) (by decide)).mpr (by omega)⟩
  · intro s hs
    rw [cN] at hs
    by_cases q : s < n
    · rw [fO s q 0 (by decide), fO s q 1 (by decide), fO s q 2 (by decide)]
      exact t2 s (by omega)
    · have : s = n := by omega
      subst this
      rw [fN 0 (by decide), fN 1 (by decide), fN 2 (by decide)]
      exact ⟨g1, g0, g2⟩
  · intro a ha g hg
    rw [v, if_neg (by omega), if_neg (by omega)]
    have m := t3 a ha g hg
    have mc : cnt (memP (cR τ p) (iN a) (iN g)) n = mem (cR σ p) (iN a) (iN g) := by
      unfold mem
      rw [eN, hn]
      refine cnt_congr (fun j hj => ?_)
      unfold memP
      rw [fO j hj 0 (by decide), fO j hj 2 (by decide)]
    have mp : memP (cR τ p) (iN a) (iN g) n = true ↔ (a0 = a ∧ f0 = g) := by
      unfold memP
      rw [decide_eq_true_eq, fN 0 (by decide), fN 2 (by decide)]
      show σ w 1 / 8 = iN a ∧ σ w 3 = iN g ↔ _
      rw [ea0, ef0, iN_inj (by omega) (by omega), iN_inj (by omega) (by omega)]
    have md : mem (cR τ p) (iN a) (iN g) = mem (cR σ p) (iN a) (iN g) + (if memP (cR τ p) (iN a) (iN g) n = true then 1 else 0) := by
      rw [← mc]
      show cnt _ (nM (cR τ p)) = _
      rw [cN]
      rfl
    rw [md]
    by_cases q : a0 = a ∧ f0 = g
    · rw [if_pos (mp.mpr q)]
      obtain ⟨q1, q2⟩ := q
      subst q1 q2
      rw [if_pos ⟨rfl, rfl⟩, m, iN_one]
    · rw [if_neg (fun x => q (mp.mp x)), if_neg (by omega), m, Nat.add_zero]
  · refine LR_same (R := R) ?_ sL
    obtain ⟨c1, c2, c4⟩ := l1
    unfold LR bLg
    have e1 : ∀ i, τ (p + 24) i = σ (p + 24) i := fun i => by rw [v, if_neg (by omega), if_neg (by omega), if_neg (by omega)]
    have e2 : ∀ i, τ (p + 24 + 1) i = σ (p + 24 + 1) i := fun i => by rw [v, if_neg (by omega), if_neg (by omega), if_neg (by omega)]
    simp only [e1, e2]
    exact ⟨c1, c2, c4⟩
  · intro s hs
    rw [sNn] at hs
    by_cases q : s < n
    · rw [v, if_neg (by omega), if_neg (by omega), if_neg (by omega), sF _ (by omega) (by omega)]
      exact n1 s (by omega)
    · have : s = n := by omega
      subst this
      rw [v, if_pos ⟨rfl, by omega⟩]
      exact sM
-- text 60
/-! RELATION: come -/
theorem cNam_e {σ : gS} : cNam σ = cPk (σ 3) (σ 2 1).toNatClampNeg (iN (tkS (σ 3) (σ 2 1).toNatClampNeg 0)).toNatClampNeg (min ((iN (tkE (σ 3) (σ 2 1).toNatClampNeg 0)).toNatClampNeg - (iN (tkS (σ 3) (σ 2 1).toNatClampNeg 0)).toNatClampNeg) 5) := by
  obtain ⟨c1, c2, c3⟩ := cBeg_1 (σ := σ)
  unfold cNam
  rw [c1, c2, cBeg_ne (by decide), cBeg_ne (by decide)]
theorem cNam_cg {σ τ : gS} (h2 : τ 2 = σ 2) (h3 : τ 3 = σ 3) : cNam τ = cNam σ := by
  rw [cNam_e, cNam_e, h2, h3]
/-- the guest's numbers, read back -/
theorem cGu0_58 {σ : gS} {x k f w s : Int32} (h7 : 0 ≤ σ 6 7 ∧ σ 6 7 ≤ 20) : cGu0 σ x k f w s 58 0 = cNam σ ∧ cGu0 σ x k f w s 58 1 = x ∧ cGu0 σ x k f w s 58 2 = k ∧ cGu0 σ x k f w s 58 3 = f ∧ (∀ j, 4 ≤ j → j < 8 → cGu0 σ x k f w s 58 j = 0) ∧ cGu0 σ x k f w s 58 8 = w ∧ cGu0 σ x k f w s 58 9 = s := by
  have b7 : 0 ≤ cBeg σ 6 7 ∧ cBeg σ 6 7 ≤ 20 := by rw [cBeg_ne (by decide)]; exact h7
  unfold cGu0 cGue
  refine ⟨?_, ?_, ?_, ?_, fun j h1 h2 => ?_, ?_, gup_at _ _ _⟩
  · rw [gup_ne (by omega), gup_ne (by omega), gup_ne (by omega), gup_ne (by omega), gup_ne (by omega), gup_at]
    refine cNam_cg ?_ ?_
    · rw [cZr_ne (by decide), cRem_far (Or.inl (by decide)) b7, cBeg_ne (by decide)]
    · rw [cZr_ne (by decide), cRem_far (Or.inl (by decide)) b7, cBeg_ne (by decide)]
  · rw [gup_ne (by omega), gup_ne (by omega), gup_ne (by omega), gup_ne (by omega), gup_at]
  · rw [gup_ne (by omega), gup_ne (by omega), gup_ne (by omega), gup_at]
  · rw [gup_ne (by omega), gup_ne (by omega), gup_at]
  · rw [gup_ne (by omega), gup_ne (by omega), gup_ne (by omega), gup_ne (by omega), gup_ne (by omega), gup_ne (by omega), cBeg_ne (by decide)]
    unfold cZr
    rw [if_pos ⟨rfl, by omega⟩]
  · rw [gup_ne (by omega), gup_at]
/-- a traveller comes: class and reference -/
theorem SV_com {σ : gS} {R : gW} {x k f w s nm : Int32} (h : SV σ 6 R) (h20 : R 3 < 20) (hx : 0 ≤ x ∧ x < 40) (hk : k = 0 ∨ k = 1) (hf : 0 ≤ f ∧ f ≤ 9) (hn : nmR (cNam σ) nm) : SV (cCom σ x k f w s) 6 (nCom R x k f w s nm) := by
  obtain ⟨b3, bn, e7⟩ := SV_3 h
  have h7 : 0 ≤ σ 6 7 ∧ σ 6 7 ≤ 20 := by rw [e7]; exact b3
  obtain ⟨n, hN⟩ : ∃ n, nM R = n := ⟨_, rfl⟩
  have e3 : R 3 = iN n := by rw [← hN]; exact (nM_of b3).1
  have n20' : n < 20 := by
    rw [e3] at h20
    exact (iN_lt (m := 20) (by omega) (by decide)).mp h20
  obtain ⟨τ, hτ⟩ : ∃ τ, cGu0 σ x k f w s = τ := ⟨_, rfl⟩
  have hT : SV τ 6 R := by
    rw [← hτ]
    exact SV_blk h (fun q q1 q2 => cGu0_ne h7 (by omega) (by omega) (by omega))
  obtain ⟨v0, v1, v2, v3, v4, v8, v9⟩ := cGu0_58 (x := x) (k := k) (f := f) (w := w) (s := s) h7
  rw [hτ] at v0 v1 v2 v3 v4 v8 v9
  obtain ⟨S, hS⟩ : ∃ S, radd (rup (rup (rup (rup (fNew R x nm) (9 + 10 * n + 1) k) (9 + 10 * n + 2) f) (9 + 10 * n + 7) w) (9 + 10 * n + 8) s) 3 1 = S := ⟨_, rfl⟩
  have vS : ∀ j, ¬ j = 3 → S j = if j = 9 + 10 * n + 8 then s else if j = 9 + 10 * n + 7 then w else if j = 9 + 10 * n + 2 then f else if j = 9 + 10 * n + 1 then k else if j = 9 + 10 * n + 9 then nm else if j = 9 + 10 * n + 0 then x else if 9 + 10 * n ≤ j ∧ j < 9 + 10 * n + 10 then 0 else R j := by
    intro j hj
    rw [← hS, radd_ne hj]
    unfold fNew zsh rup
    rw [hN]
    grind (splits := 40)
  have sA : SV (cAdm τ 6 58) 6 S := by
    refine SV_adm (n := n) hT (Or.inr (by decide)) hN n20' (by rw [v1]; exact hx) (by rw [v2]; exact hk) (by rw [v3]; exact hf) ?_ ?_ ?_ ?_ ?_ ?_
    · rw [← hS, radd_at, rup_ne (by omega), rup_ne (by omega), rup_ne (by omega), rup_ne (by omega), fNew_ne (by omega), e3]
      exact iN_one n
    · intro j hj h3
      rw [vS j h3, if_neg (by omega), if_neg (by omega), if_neg (by omega), if_neg (by omega), if_neg (by omega), if_neg (by omega), if_neg (by omega)]
    · intro j h1 h2
      rw [vS j (by omega), if_neg (by omega), if_neg (by omega), if_neg (by omega), if_neg (by omega), if_neg (by omega), if_neg (by omega), if_neg (by omega)]
    · intro g hg
      rw [vS _ (by omega)]
      have hh : g = 0 ∨ g = 1 ∨ g = 2 ∨ g = 3 ∨ g = 4 ∨ g = 5 ∨ g = 6 ∨ g = 7 ∨ g = 8 := by omega
      rcases hh with e | e | e | e | e | e | e | e | e <;> subst e
      · rw [if_neg (by omega), if_neg (by omega), if_neg (by omega), if_neg (by omega), if_neg (by omega), if_pos rfl]; exact v1.symm
      · rw [if_neg (by omega), if_neg (by omega), if_neg (by omega), if_pos rfl]; exact v2.symm
      · rw [if_neg (by omega), if_neg (by omega), if_pos rfl]; exact v3.symm
      · rw [if_neg (by omega), if_neg (by omega), if_neg (by omega), if_neg (by omega), if_neg (by omega), if_neg (by omega), if_pos (by omega)]; exact (v4 4 (by decide) (by decide)).symm
      · rw [if_neg (by omega), if_neg (by omega), if_neg (by omega), if_neg (by omega), if_neg (by omega), if_neg (by omega), if_pos (by omega)]; exact (v4 5 (by decide) (by decide)).symm
      · rw [if_neg (by omega), if_neg (by omega), if_neg (by omega), if_neg (by omega), if_neg (by omega), if_neg (by omega), if_pos (by omega)]; exact (v4 6 (by decide) (by decide)).symm
      · rw [if_neg (by omega), if_neg (by omega), if_neg (by omega), if_neg (by omega), if_neg (by omega), if_neg (by omega), if_pos (by omega)]; exact (v4 7 (by decide) (by decide)).symm
      · rw [if_neg (by omega), if_pos rfl]; exact v8.symm
      · rw [if_pos rfl]; exact v9.symm
    · rw [vS _ (by omega), if_neg (by omega), if_neg (by omega), if_neg (by omega), if_neg (by omega), if_pos rfl, v0]
      exact hn
    · intro j h1 h2
      rw [vS j (by omega), if_neg (by omega), if_neg (by omega), if_neg (by omega), if_neg (by omega), if_neg (by omega), if_neg (by omega), if_neg (by omega)]
  have sB := SV_add (w := 0) (a := R 3) (b := x) sA
  unfold nCom cCom
  rw [hN, hS, hτ, e7]
  exact SV_blk sB (fun q q1 q2 => funext fun j => gup_ne (by omega))
end
section
-- text 61
/-! RELATION: what swaps, moves, rings, first and set make of the row -/
theorem SV_gf {σ : gS} {p t f : Nat} {R : gW} {x : Int32} (h : SV σ p R) (ht : t < nM R) (hf : f < 9) (h3 : 3 ≤ f) : SV (gad σ (p + 2 + t) (f + 1) x) p (radd R (9 + 10 * t + f) x) := by
  have e : σ (p + 2 + t) (f + 1) = R (9 + 10 * t + f) := by
    have hn := (SV_3 h).2.1
    rw [← cR_f (σ := σ) (p := p) (t := t) (f := f) (by omega) hf]
    exact h.1.2 t (by rw [agr_n h.1]; exact ht) f hf
  unfold gad radd
  rw [e]
  exact SV_fld h ht hf (by omega) (by omega) (fun q => by omega)
theorem SV_gh {σ : gS} {p k : Nat} {R : gW} {x : Int32} (h : SV σ p R) (hk : k < 9) (h3 : ¬ k = 3) : SV (gad σ p (k + 4) x) p (radd R k x) := by
  have e : σ p (k + 4) = R k := by
    rw [← cR_h (σ := σ) (p := p) hk]
    exact h.1.1 k hk
  unfold gad radd
  rw [e]
  exact SV_hdr h hk h3
theorem radd_cm (R : gW) {i j : Nat} (x y : Int32) (h : ¬ i = j) : radd (radd R i x) j y = radd (radd R j y) i x := by
  funext q
  unfold radd rup
  grind
theorem nM_radd {R : gW} {k : Nat} {x : Int32} (h : ¬ k = 3) : nM (radd R k x) = nM R := by unfold nM; rw [radd_ne (by omega)]
theorem SV_swa {σ : gS} {R : gW} {a b : Nat} {x : Int32} (h : SV σ 6 R) (ha : a < nM R) (hb : b < nM R) : SV (cDsw σ a b x) 6 (nSwa R (iN a) (iN b) x) := by
  have bn := (SV_3 h).2.1
  unfold cDsw nSwa
  rw [iN_nat (by omega), iN_nat (by omega), radd_cm _ _ _ (by decide)]
  have s1 := SV_ex h ha hb
  have s2 := SV_gf (t := a) (f := 7) (x := -x) s1 (by rw [nM_rsw]; exact ha) (by decide) (by decide)
  have s3 := SV_gf (t := b) (f := 7) (x := x) s2 (by rw [nM_radd (by omega), nM_rsw]; exact hb) (by decide) (by decide)
  have s4 := SV_gh (k := 4) (x := 1) s3 (by decide) (by decide)
  have s5 := SV_gh (k := 7) (x := x) s4 (by decide) (by decide)
  exact SV_add s5
theorem SV_mov {σ : gS} {R : gW} {a : Nat} {x : Int32} (h : SV σ 6 R) (ha : a < nM R) (hx : 0 ≤ x ∧ x < 40) : SV (cDmo σ a x) 6 (nMov R (iN a) x) := by
  have bn := (SV_3 h).2.1
  unfold cDmo nMov
  rw [iN_nat (by omega)]
  have e : σ (6 + 2 + a) 1 = fld R a 0 := by
    rw [← cR_f (σ := σ) (p := 6) (t := a) (f := 0) (by omega) (by decide)]
    exact h.1.2 a (by rw [agr_n h.1]; exact ha) 0 (by decide)
  rw [e]
  exact SV_add (SV_gh (k := 5) (x := 1) (SV_sit h ha hx) (by decide) (by decide))
theorem SV_rin {σ : gS} {R : gW} {a b c : Nat} (h : SV σ 6 R) (ha : a < nM R) (hb : b < nM R) (hc : c < nM R) (hd : a ≠ b ∧ b ≠ c ∧ a ≠ c) : SV (cDri σ a b c) 6 (nRin R (iN a) (iN b) (iN c)) := by
  have bn := (SV_3 h).2.1
  unfold cDri nRin
  rw [iN_nat (by omega), iN_nat (by omega), iN_nat (by omega)]
  exact SV_add (SV_gh (k := 6) (x := 1) (SV_pas h ha hb hc hd) (by decide) (by decide))
theorem SV_fir {σ : gS} {R : gW} {f : Int32} (h : SV σ 6 R) : SV (cAdd (gup σ 6 5 f) 7 0 (σ 6 5)) 6 (nFir R f) := by
  have e : σ 6 5 = R 1 := by
    rw [← cR_h (σ := σ) (p := 6) (j := 1) (by decide)]
    exact h.1.1 1 (by decide)
  unfold nFir
  rw [e]
  exact SV_add (SV_hdr (k := 1) h (by decide) (by decide))
-- text 62
/-! RELATION: what set and settle make of the row -/
theorem SV_set {σ : gS} {R : gW} {t : Nat} {w v : Int32} (h : SV σ 6 R) (ht : t < nM R) (hw : inR R w v) : SV (cAdd (gup σ (6 + 2 + t) (fof w + 1) v) 6 (10 * iN t + w) (σ (6 + 2 + t) (fof w + 1))) 6 (nSet R (iN t) w v) := by
  have bn := (SV_3 h).2.1
  have fl := fof_le hw
  have e : σ (6 + 2 + t) (fof w + 1) = fld R t (fof w) := by
    rw [← cR_f (σ := σ) (p := 6) (t := t) (f := fof w) (by omega) (by omega)]
    exact h.1.2 t (by rw [agr_n h.1]; exact ht) _ (by omega)
  have f2 : ¬ fof w = 2 := by
    rcases inR_cases hw with e | e | e | e | e <;> subst e <;> decide
  have f1 : fof w = 1 → v = 0 ∨ v = 1 := by
    intro q
    rcases hw with z | z | z | z
    · rcases z.1 with e | e <;> subst e <;> exact absurd q (by decide)
    · rw [z.1] at q; exact absurd q (by decide)
    · rw [z.1] at q; exact absurd q (by decide)
    · have h1 := z.2.1
      have h2 := z.2.2
      grind
  unfold nSet
  rw [iN_nat (by omega), e]
  exact SV_add (SV_fld h ht (by omega) (by omega) f2 f1)
theorem fld_radd {R : gW} {k t f : Nat} {x : Int32} (h : k < 9) : fld (radd R k x) t f = fld R t f := by
  unfold fld
  exact radd_ne (by omega)
theorem fJa_radd {R : gW} {k : Nat} {x : Int32} (h : k < 9) (h3 : ¬ k = 3) : fJa (radd R k x) = fJa R := by
  unfold fJa
  rw [nM_radd h3]
  refine sm_congr (fun t ht => ?_)
  unfold fJo fJoy kin
  have e : kinP (radd R k x) t (fld R t 0 / 8) = kinP R t (fld R t 0 / 8) := by
    funext j
    unfold kinP
    simp only [fld_radd h]
  simp only [fld_radd h, nM_radd h3, e]
/-- settling: class and reference -/
theorem SV_stl {σ : gS} {R : gW} (h : SV σ 6 R) (hF : bF R) (hW : bW R) : (cSt 99 (cCo σ 32 6)).1 = (fSt 99 R).1 ∧ SV (cStl (cSt 99 (cCo σ 32 6))) 6 (nStl R) := by
  obtain ⟨b3, bn, e7⟩ := SV_3 h
  have n7 : (σ 6 7).toNatClampNeg ≤ 20 := by rw [e7]; exact bn
  have s32 : SV (cCo σ 32 6) 32 R := cCo_ok (by omega) h
  obtain ⟨k1, k2, k3, k4⟩ := cSt_ok (d := 99) s32 hF hW
  obtain ⟨t1, l1, f1⟩ := cSt_tc (d := 99) s32.2.1
  refine ⟨k1, ?_⟩
  obtain ⟨x, hx⟩ : ∃ x, cSt 99 (cCo σ 32 6) = x := ⟨_, rfl⟩
  rw [hx] at k1 k2 t1 l1 f1 ⊢
  have f6 : ∀ q, q < 32 → x.2 q = σ q := fun q hq => by
    rw [f1 q (Or.inl hq)]
    funext j
    exact cCo_far (by omega) n7
  have x7 : 0 ≤ x.2 6 7 ∧ x.2 6 7 ≤ 20 := by rw [f6 6 (by decide), e7]; exact b3
  have r32 : SV (cRem x.2) 32 (fSt 99 R).2 := SV_blk k2 (fun q q1 q2 => cRem_far (Or.inl (by omega)) x7)
  have s6 : SV (cCo (cRem x.2) 6 32) 6 (fSt 99 R).2 := cCo_ok (by omega) r32
  have s7 := SV_gh (k := 4) (x := iN x.1) s6 (by decide) (by decide)
  have a32 : fJa (cR x.2 32) = fJa (fSt 99 R).2 := agr_Ja k2.1
  have a6 : fJa (cR x.2 6) = fJa R := by
    rw [cR_blk (σ := σ) (τ := x.2) (fun q q1 q2 => f6 q (by omega))]
    exact agr_Ja h.1
  have s8 := SV_add (w := 5) (a := iN x.1) (b := fJa (fSt 99 R).2 - fJa R) s7
  unfold cStl nStl
  rw [a32, a6, fJa_radd (by decide) (by decide), ← k1]
  exact s8
end
