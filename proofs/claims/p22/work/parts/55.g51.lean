-- text 51
/-! THE CLASS: words -/
abbrev RW (σ : gS) : Prop := (0 ≤ σ 2 1 ∧ σ 2 1 ≤ 1000) ∧ (0 ≤ σ 1 2 ∧ σ 1 2 ≤ 1000)
theorem RW_n {σ : gS} (h : RW σ) : ∃ L S, σ 2 1 = iN L ∧ σ 1 2 = iN S ∧ L ≤ 1000 ∧ S ≤ 1000 ∧ (σ 2 1).toNatClampNeg = L ∧ (σ 1 2).toNatClampNeg = S := by
  obtain ⟨eL, lL⟩ := l1000 h.1
  obtain ⟨eS, lS⟩ := l1000 h.2
  exact ⟨_, _, eL, eS, lL, lS, rfl, rfl⟩
theorem cBy_e2 {T : gW} {L s : Nat} (hL : L ≤ 1000) (hs : s ≤ 100000) : (if 0 ≤ iN s ∧ iN s < iN L then T (iN s).toNatClampNeg else -1) = cBy T L s := by
  rw [iN_nat (by omega)]
  unfold cBy
  have e : (0 ≤ iN s ∧ iN s < iN L) ↔ s < L := by
    rw [iN_lt (by omega) (by omega)]
    exact ⟨fun h => h.2, fun h => ⟨(iN_le (k := 0) (by decide) (by omega)).mpr (by omega), h⟩⟩
  simp only [e]
/-- the bytes of a word of the class -/
def jW (p : Nat) : List Int32 := jv_byt.getD (p - 1000001) []
/-- the token is that word -/
abbrev cWd (σ : gS) (B : List Int32) : Prop := σ 1 4 = 2 ∧ σ 1 3 - σ 1 2 = iN B.length ∧ ∀ i, i < B.length → cBy (σ 3) (σ 2 1).toNatClampNeg ((σ 1 2).toNatClampNeg + i) = B.getD i 0
theorem bI_y {P : Prop} [Decidable P] (h : P) : bI P = 1 := if_pos h
theorem bI_n {P : Prop} [Decidable P] (h : ¬ P) : bI P = 0 := if_neg h
set_option maxRecDepth 20000 in
theorem w17_1000001 {σ : gS} {K : gK} (h : ((¬ (σ 1 4) = 2 → ((0 : Int32) = 0 ∨ (0 : Int32) = 1) ∧ K (some (.int 0)) σ) ∧ ((σ 1 4) = 2 → ((((σ 1 3) - (σ 1 2)) = 5 → gE 17 28 [some (.ref 1), some (.ref 1000001), some (.int 0)] [] σ K) ∧ (¬ ((σ 1 3) - (σ 1 2)) = 5 → ((0 : Int32) = 0 ∨ (0 : Int32) = 1) ∧ K (some (.int 0)) σ))))) : gE 17 0 [some (.ref 1), some (.ref 1000001), none] [] σ K :=
  gw_run (cy := 17) (cuts := [28]) (inl := []) (pf := gpdh) gpdh_ok 400 (by decide) h
set_option maxRecDepth 20000 in
theorem v17_1000001 {σ : gS} {K : gK} {k : Int32} (h : ((¬ k < 5 → ((1 : Int32) = 0 ∨ (1 : Int32) = 1) ∧ K (some (.int 1)) σ) ∧ (k < 5 → (σ 2 1 ≤ 1000) ∧ (0 ≤ k ∧ k < 5) ∧ (((if 0 ≤ ((σ 1 2) + k) ∧ ((σ 1 2) + k) < σ 2 1 then σ 3 ((σ 1 2) + k).toNatClampNeg else -1) = ((jv_byt.getD 0 []).getD k.toNatClampNeg 0) → gE 17 28 [some (.ref 1), some (.ref 1000001), some (.int (k + 1))] [] σ K) ∧ (¬ (if 0 ≤ ((σ 1 2) + k) ∧ ((σ 1 2) + k) < σ 2 1 then σ 3 ((σ 1 2) + k).toNatClampNeg else -1) = ((jv_byt.getD 0 []).getD k.toNatClampNeg 0) → ((0 : Int32) = 0 ∨ (0 : Int32) = 1) ∧ K (some (.int 0)) σ))))) : gE 17 28 [some (.ref 1), some (.ref 1000001), some (.int k)] [] σ K :=
  gw_run (cy := 17) (cuts := [28]) (inl := []) (pf := gpdh) gpdh_ok 400 (by decide) h
theorem s17_1000001 {σ : gS} {K : gK} (hc : RW σ) (hK : K (some (.int (bI (cWd σ (jW 1000001))))) σ) : gE 17 0 [some (.ref 1), some (.ref 1000001), none] [] σ K := by
  obtain ⟨L, S, eL, eS, lL, lS, nL, nS⟩ := RW_n hc
  obtain ⟨N, hN⟩ : ∃ N, (jW 1000001).length = N := ⟨_, rfl⟩
  have l10 : N ≤ 10 := by rw [← hN]; decide
  have eN : N = (jW 1000001).length := hN.symm
  have lN : (jW 1000001).length = (jW 1000001).length := rfl
  have iL : ∀ k : Nat, k ≤ 10 → (iN k < iN N ↔ k < N) := fun k hk => iN_lt (by omega) (by omega)
  have no : ¬ cWd σ (jW 1000001) → K (some (.int 0)) σ := fun h => by rw [bI_n h] at hK; exact hK
  have hlit : iN N = iN (jW 1000001).length := by rw [hN]
  have key : ∀ d k, k + d = N → σ 1 4 = 2 → σ 1 3 - σ 1 2 = iN N → (∀ i, i < k → cBy (σ 3) L (S + i) = (jW 1000001).getD i 0) → gE 17 28 [some (.ref 1), some (.ref 1000001), some (.int (iN k))] [] σ K := by
    intro d
    induction d with
    | zero =>
      intro k hk h1 h2 h3
      have : k = N := by omega
      subst this
      refine v17_1000001 ⟨fun _ => ⟨Or.inr rfl, ?_⟩, fun h => ?_⟩
      · have yes : cWd σ (jW 1000001) := by
          refine ⟨h1, by rw [hN]; exact h2, fun i hi => ?_⟩
          rw [nL, nS]
          exact h3 i (by omega)
        rw [bI_y yes] at hK
        exact hK
      · have q : iN k < iN k := by rw [hlit] at h ⊢; exact h
        exact absurd ((iN_lt (by omega) (by omega)).mp q) (by omega)
    | succ d ih =>
      intro k hk h1 h2 h3
      have hkN : k < N := by omega
      have qk : iN k < iN N := (iL k (by omega)).mpr hkN
      refine v17_1000001 ⟨fun h => ?_, fun h => ⟨hc.1.2, ⟨(iN_le (k := 0) (by decide) (by omega)).mpr (by omega), h⟩, fun h4 => ?_, fun h4 => ?_⟩⟩
      · exact absurd (by rw [hlit] at qk; exact qk) h
      · rw [eL, eS, iN_add, cBy_e2 lL (by omega), iN_nat (by omega)] at h4
        rw [iN_one]
        refine ih (k + 1) (by omega) h1 h2 (fun i hi => ?_)
        by_cases e : i = k
        · subst e; exact h4
        · exact h3 i (by omega)
      · rw [eL, eS, iN_add, cBy_e2 lL (by omega), iN_nat (by omega)] at h4
        refine ⟨Or.inl rfl, no (fun q => h4 ?_)⟩
        have := q.2.2 k (by omega)
        rw [nL, nS] at this
        exact this
  refine w17_1000001 ⟨fun h => ⟨Or.inl rfl, no (fun q => h q.1)⟩, fun h => ⟨fun h2 => ?_, fun h2 => ⟨Or.inl rfl, no (fun q => h2 (q.2.1))⟩⟩⟩
  exact key N 0 (by omega) h (by rw [hlit]; exact h2) (fun i hi => absurd hi (Nat.not_lt_zero _))
set_option maxRecDepth 20000 in
theorem w17_1000002 {σ : gS} {K : gK} (h : ((¬ (σ 1 4) = 2 → ((0 : Int32) = 0 ∨ (0 : Int32) = 1) ∧ K (some (.int 0)) σ) ∧ ((σ 1 4) = 2 → ((((σ 1 3) - (σ 1 2)) = 5 → gE 17 28 [some (.ref 1), some (.ref 1000002), some (.int 0)] [] σ K) ∧ (¬ ((σ 1 3) - (σ 1 2)) = 5 → ((0 : Int32) = 0 ∨ (0 : Int32) = 1) ∧ K (some (.int 0)) σ))))) : gE 17 0 [some (.ref 1), some (.ref 1000002), none] [] σ K :=
  gw_run (cy := 17) (cuts := [28]) (inl := []) (pf := gpdh) gpdh_ok 400 (by decide) h
set_option maxRecDepth 20000 in
theorem v17_1000002 {σ : gS} {K : gK} {k : Int32} (h : ((¬ k < 5 → ((1 : Int32) = 0 ∨ (1 : Int32) = 1) ∧ K (some (.int 1)) σ) ∧ (k < 5 → (σ 2 1 ≤ 1000) ∧ (0 ≤ k ∧ k < 5) ∧ (((if 0 ≤ ((σ 1 2) + k) ∧ ((σ 1 2) + k) < σ 2 1 then σ 3 ((σ 1 2) + k).toNatClampNeg else -1) = ((jv_byt.getD 1 []).getD k.toNatClampNeg 0) → gE 17 28 [some (.ref 1), some (.ref 1000002), some (.int (k + 1))] [] σ K) ∧ (¬ (if 0 ≤ ((σ 1 2) + k) ∧ ((σ 1 2) + k) < σ 2 1 then σ 3 ((σ 1 2) + k).toNatClampNeg else -1) = ((jv_byt.getD 1 []).getD k.toNatClampNeg 0) → ((0 : Int32) = 0 ∨ (0 : Int32) = 1) ∧ K (some (.int 0)) σ))))) : gE 17 28 [some (.ref 1), some (.ref 1000002), some (.int k)] [] σ K :=
  gw_run (cy := 17) (cuts := [28]) (inl := []) (pf := gpdh) gpdh_ok 400 (by decide) h
theorem s17_1000002 {σ : gS} {K : gK} (hc : RW σ) (hK : K (some (.int (bI (cWd σ (jW 1000002))))) σ) : gE 17 0 [some (.ref 1), some (.ref 1000002), none] [] σ K := by
  obtain ⟨L, S, eL, eS, lL, lS, nL, nS⟩ := RW_n hc
  obtain ⟨N, hN⟩ : ∃ N, (jW 1000002).length = N := ⟨_, rfl⟩
  have l10 : N ≤ 10 := by rw [← hN]; decide
  have eN : N = (jW 1000002).length := hN.symm
  have lN : (jW 1000002).length = (jW 1000002).length := rfl
  have iL : ∀ k : Nat, k ≤ 10 → (iN k < iN N ↔ k < N) := fun k hk => iN_lt (by omega) (by omega)
  have no : ¬ cWd σ (jW 1000002) → K (some (.int 0)) σ := fun h => by rw [bI_n h] at hK; exact hK
  have hlit : iN N = iN (jW 1000002).length := by rw [hN]
  have key : ∀ d k, k + d = N → σ 1 4 = 2 → σ 1 3 - σ 1 2 = iN N → (∀ i, i < k → cBy (σ 3) L (S + i) = (jW 1000002).getD i 0) → gE 17 28 [some (.ref 1), some (.ref 1000002), some (.int (iN k))] [] σ K := by
    intro d
    induction d with
    | zero =>
      intro k hk h1 h2 h3
      have : k = N := by omega
      subst this
      refine v17_1000002 ⟨fun _ => ⟨Or.inr rfl, ?_⟩, fun h => ?_⟩
      · have yes : cWd σ (jW 1000002) := by
          refine ⟨h1, by rw [hN]; exact h2, fun i hi => ?_⟩
          rw [nL, nS]
          exact h3 i (by omega)
        rw [bI_y yes] at hK
        exact hK
      · have q : iN k < iN k := by rw [hlit] at h ⊢; exact h
        exact absurd ((iN_lt (by omega) (by omega)).mp q) (by omega)
    | succ d ih =>
      intro k hk h1 h2 h3
      have hkN : k < N := by omega
      have qk : iN k < iN N := (iL k (by omega)).mpr hkN
      refine v17_1000002 ⟨fun h => ?_, fun h => ⟨hc.1.2, ⟨(iN_le (k := 0) (by decide) (by omega)).mpr (by omega), h⟩, fun h4 => ?_, fun h4 => ?_⟩⟩
      · exact absurd (by rw [hlit] at qk; exact qk) h
      · rw [eL, eS, iN_add, cBy_e2 lL (by omega), iN_nat (by omega)] at h4
        rw [iN_one]
        refine ih (k + 1) (by omega) h1 h2 (fun i hi => ?_)
        by_cases e : i = k
        · subst e; exact h4
        · exact h3 i (by omega)
      · rw [eL, eS, iN_add, cBy_e2 lL (by omega), iN_nat (by omega)] at h4
        refine ⟨Or.inl rfl, no (fun q => h4 ?_)⟩
        have := q.2.2 k (by omega)
        rw [nL, nS] at this
        exact this
  refine w17_1000002 ⟨fun h => ⟨Or.inl rfl, no (fun q => h q.1)⟩, fun h => ⟨fun h2 => ?_, fun h2 => ⟨Or.inl rfl, no (fun q => h2 (q.2.1))⟩⟩⟩
  exact key N 0 (by omega) h (by rw [hlit]; exact h2) (fun i hi => absurd hi (Nat.not_lt_zero _))
set_option maxRecDepth 20000 in
theorem w17_1000003 {σ : gS} {K : gK} (h : ((¬ (σ 1 4) = 2 → ((0 : Int32) = 0 ∨ (0 : Int32) = 1) ∧ K (some (.int 0)) σ) ∧ ((σ 1 4) = 2 → ((((σ 1 3) - (σ 1 2)) = 4 → gE 17 28 [some (.ref 1), some (.ref 1000003), some (.int 0)] [] σ K) ∧ (¬ ((σ 1 3) - (σ 1 2)) = 4 → ((0 : Int32) = 0 ∨ (0 : Int32) = 1) ∧ K (some (.int 0)) σ))))) : gE 17 0 [some (.ref 1), some (.ref 1000003), none] [] σ K :=
  gw_run (cy := 17) (cuts := [28]) (inl := []) (pf := gpdh) gpdh_ok 400 (by decide) h
set_option maxRecDepth 20000 in
theorem v17_1000003 {σ : gS} {K : gK} {k : Int32} (h : ((¬ k < 4 → ((1 : Int32) = 0 ∨ (1 : Int32) = 1) ∧ K (some (.int 1)) σ) ∧ (k < 4 → (σ 2 1 ≤ 1000) ∧ (0 ≤ k ∧ k < 4) ∧ (((if 0 ≤ ((σ 1 2) + k) ∧ ((σ 1 2) + k) < σ 2 1 then σ 3 ((σ 1 2) + k).toNatClampNeg else -1) = ((jv_byt.getD 2 []).getD k.toNatClampNeg 0) → gE 17 28 [some (.ref 1), some (.ref 1000003), some (.int (k + 1))] [] σ K) ∧ (¬ (if 0 ≤ ((σ 1 2) + k) ∧ ((σ 1 2) + k) < σ 2 1 then σ 3 ((σ 1 2) + k).toNatClampNeg else -1) = ((jv_byt.getD 2 []).getD k.toNatClampNeg 0) → ((0 : Int32) = 0 ∨ (0 : Int32) = 1) ∧ K (some (.int 0)) σ))))) : gE 17 28 [some (.ref 1), some (.ref 1000003), some (.int k)] [] σ K :=
  gw_run (cy := 17) (cuts := [28]) (inl := []) (pf := gpdh) gpdh_ok 400 (by decide) h
theorem s17_1000003 {σ : gS} {K : gK} (hc : RW σ) (hK : K (some (.int (bI (cWd σ (jW 1000003))))) σ) : gE 17 0 [some (.ref 1), some (.ref 1000003), none] [] σ K := by
  obtain ⟨L, S, eL, eS, lL, lS, nL, nS⟩ := RW_n hc
  obtain ⟨N, hN⟩ : ∃ N, (jW 1000003).length = N := ⟨_, rfl⟩
  have l10 : N ≤ 10 := by rw [← hN]; decide
  have eN : N = (jW 1000003).length := hN.symm
  have lN : (jW 1000003).length = (jW 1000003).length := rfl
  have iL : ∀ k : Nat, k ≤ 10 → (iN k < iN N ↔ k < N) := fun k hk => iN_lt (by omega) (by omega)
  have no : ¬ cWd σ (jW 1000003) → K (some (.int 0)) σ := fun h => by rw [bI_n h] at hK; exact hK
  have hlit : iN N = iN (jW 1000003).length := by rw [hN]
  have key : ∀ d k, k + d = N → σ 1 4 = 2 → σ 1 3 - σ 1 2 = iN N → (∀ i, i < k → cBy (σ 3) L (S + i) = (jW 1000003).getD i 0) → gE 17 28 [some (.ref 1), some (.ref 1000003), some (.int (iN k))] [] σ K := by
    intro d
    induction d with
    | zero =>
      intro k hk h1 h2 h3
      have : k = N := by omega
      subst this
      refine v17_1000003 ⟨fun _ => ⟨Or.inr rfl, ?_⟩, fun h => ?_⟩
      · have yes : cWd σ (jW 1000003) := by
          refine ⟨h1, by rw [hN]; exact h2, fun i hi => ?_⟩
          rw [nL, nS]
          exact h3 i (by omega)
        rw [bI_y yes] at hK
        exact hK
      · have q : iN k < iN k := by rw [hlit] at h ⊢; exact h
        exact absurd ((iN_lt (by omega) (by omega)).mp q) (by omega)
    | succ d ih =>
      intro k hk h1 h2 h3
      have hkN : k < N := by omega
      have qk : iN k < iN N := (iL k (by omega)).mpr hkN
      refine v17_1000003 ⟨fun h => ?_, fun h => ⟨hc.1.2, ⟨(iN_le (k := 0) (by decide) (by omega)).mpr (by omega), h⟩, fun h4 => ?_, fun h4 => ?_⟩⟩
      · exact absurd (by rw [hlit] at qk; exact qk) h
      · rw [eL, eS, iN_add, cBy_e2 lL (by omega), iN_nat (by omega)] at h4
        rw [iN_one]
        refine ih (k + 1) (by omega) h1 h2 (fun i hi => ?_)
        by_cases e : i = k
        · subst e; exact h4
        · exact h3 i (by omega)
      · rw [eL, eS, iN_add, cBy_e2 lL (by omega), iN_nat (by omega)] at h4
        refine ⟨Or.inl rfl, no (fun q => h4 ?_)⟩
        have := q.2.2 k (by omega)
        rw [nL, nS] at this
        exact this
  refine w17_1000003 ⟨fun h => ⟨Or.inl rfl, no (fun q => h q.1)⟩, fun h => ⟨fun h2 => ?_, fun h2 => ⟨Or.inl rfl, no (fun q => h2 (q.2.1))⟩⟩⟩
  exact key N 0 (by omega) h (by rw [hlit]; exact h2) (fun i hi => absurd hi (Nat.not_lt_zero _))
set_option maxRecDepth 20000 in
theorem w17_1000004 {σ : gS} {K : gK} (h : ((¬ (σ 1 4) = 2 → ((0 : Int32) = 0 ∨ (0 : Int32) = 1) ∧ K (some (.int 0)) σ) ∧ ((σ 1 4) = 2 → ((((σ 1 3) - (σ 1 2)) = 6 → gE 17 28 [some (.ref 1), some (.ref 1000004), some (.int 0)] [] σ K) ∧ (¬ ((σ 1 3) - (σ 1 2)) = 6 → ((0 : Int32) = 0 ∨ (0 : Int32) = 1) ∧ K (some (.int 0)) σ))))) : gE 17 0 [some (.ref 1), some (.ref 1000004), none] [] σ K :=
  gw_run (cy := 17) (cuts := [28]) (inl := []) (pf := gpdh) gpdh_ok 400 (by decide) h
set_option maxRecDepth 20000 in
theorem v17_1000004 {σ : gS} {K : gK} {k : Int32} (h : ((¬ k < 6 → ((1 : Int32) = 0 ∨ (1 : Int32) = 1) ∧ K (some (.int 1)) σ) ∧ (k < 6 → (σ 2 1 ≤ 1000) ∧ (0 ≤ k ∧ k < 6) ∧ (((if 0 ≤ ((σ 1 2) + k) ∧ ((σ 1 2) + k) < σ 2 1 then σ 3 ((σ 1 2) + k).toNatClampNeg else -1) = ((jv_byt.getD 3 []).getD k.toNatClampNeg 0) → gE 17 28 [some (.ref 1), some (.ref 1000004), some (.int (k + 1))] [] σ K) ∧ (¬ (if 0 ≤ ((σ 1 2) + k) ∧ ((σ 1 2) + k) < σ 2 1 then σ 3 ((σ 1 2) + k).toNatClampNeg else -1) = ((jv_byt.getD 3 []).getD k.toNatClampNeg 0) → ((0 : Int32) = 0 ∨ (0 : Int32) = 1) ∧ K (some (.int 0)) σ))))) : gE 17 28 [some (.ref 1), some (.ref 1000004), some (.int k)] [] σ K :=
  gw_run (cy := 17) (cuts := [28]) (inl := []) (pf := gpdh) gpdh_ok 400 (by decide) h
theorem s17_1000004 {σ : gS} {K : gK} (hc : RW σ) (hK : K (some (.int (bI (cWd σ (jW 1000004))))) σ) : gE 17 0 [some (.ref 1), some (.ref 1000004), none] [] σ K := by
  obtain ⟨L, S, eL, eS, lL, lS, nL, nS⟩ := RW_n hc
  obtain ⟨N, hN⟩ : ∃ N, (jW 1000004).length = N := ⟨_, rfl⟩
  have l10 : N ≤ 10 := by rw [← hN]; decide
  have eN : N = (jW 1000004).length := hN.symm
  have lN : (jW 1000004).length = (jW 1000004).length := rfl
  have iL : ∀ k : Nat, k ≤ 10 → (iN k < iN N ↔ k < N) := fun k hk => iN_lt (by omega) (by omega)
  have no : ¬ cWd σ (jW 1000004) → K (some (.int 0)) σ := fun h => by rw [bI_n h] at hK; exact hK
  have hlit : iN N = iN (jW 1000004).length := by rw [hN]
  have key : ∀ d k, k + d = N → σ 1 4 = 2 → σ 1 3 - σ 1 2 = iN N → (∀ i, i < k → cBy (σ 3) L (S + i) = (jW 1000004).getD i 0) → gE 17 28 [some (.ref 1), some (.ref 1000004), some (.int (iN k))] [] σ K := by
    intro d
    induction d with
    | zero =>
      intro k hk h1 h2 h3
      have : k = N := by omega
      subst this
      refine v17_1000004 ⟨fun _ => ⟨Or.inr rfl, ?_⟩, fun h => ?_⟩
      · have yes : cWd σ (jW 1000004) := by
          refine ⟨h1, by rw [hN]; exact h2, fun i hi => ?_⟩
          rw [nL, nS]
          exact h3 i (by omega)
        rw [bI_y yes] at hK
        exact hK
      · have q : iN k < iN k := by rw [hlit] at h ⊢; exact h
        exact absurd ((iN_lt (by omega) (by omega)).mp q) (by omega)
    | succ d ih =>
      intro k hk h1 h2 h3
      have hkN : k < N := by omega
      have qk : iN k < iN N := (iL k (by omega)).mpr hkN
      refine v17_1000004 ⟨fun h => ?_, fun h => ⟨hc.1.2, ⟨(iN_le (k := 0) (by decide) (by omega)).mpr (by omega), h⟩, fun h4 => ?_, fun h4 => ?_⟩⟩
      · exact absurd (by rw [hlit] at qk; exact qk) h
      · rw [eL, eS, iN_add, cBy_e2 lL (by omega), iN_nat (by omega)] at h4
        rw [iN_one]
        refine ih (k + 1) (by omega) h1 h2 (fun i hi => ?_)
        by_cases e : i = k
        · subst e; exact h4
        · exact h3 i (by omega)
      · rw [eL, eS, iN_add, cBy_e2 lL (by omega), iN_nat (by omega)] at h4
        refine ⟨Or.inl rfl, no (fun q => h4 ?_)⟩
        have := q.2.2 k (by omega)
        rw [nL, nS] at this
        exact this
  refine w17_1000004 ⟨fun h => ⟨Or.inl rfl, no (fun q => h q.1)⟩, fun h => ⟨fun h2 => ?_, fun h2 => ⟨Or.inl rfl, no (fun q => h2 (q.2.1))⟩⟩⟩
  exact key N 0 (by omega) h (by rw [hlit]; exact h2) (fun i hi => absurd hi (Nat.not_lt_zero _))
set_option maxRecDepth 20000 in
theorem w17_1000005 {σ : gS} {K : gK} (h : ((¬ (σ 1 4) = 2 → ((0 : Int32) = 0 ∨ (0 : Int32) = 1) ∧ K (some (.int 0)) σ) ∧ ((σ 1 4) = 2 → ((((σ 1 3) - (σ 1 2)) = 6 → gE 17 28 [some (.ref 1), some (.ref 1000005), some (.int 0)] [] σ K) ∧ (¬ ((σ 1 3) - (σ 1 2)) = 6 → ((0 : Int32) = 0 ∨ (0 : Int32) = 1) ∧ K (some (.int 0)) σ))))) : gE 17 0 [some (.ref 1), some (.ref 1000005), none] [] σ K :=
  gw_run (cy := 17) (cuts := [28]) (inl := []) (pf := gpdh) gpdh_ok 400 (by decide) h
set_option maxRecDepth 20000 in
theorem v17_1000005 {σ : gS} {K : gK} {k : Int32} (h : ((¬ k < 6 → ((1 : Int32) = 0 ∨ (1 : Int32) = 1) ∧ K (some (.int 1)) σ) ∧ (k < 6 → (σ 2 1 ≤ 1000) ∧ (0 ≤ k ∧ k < 6) ∧ (((if 0 ≤ ((σ 1 2) + k) ∧ ((σ 1 2) + k) < σ 2 1 then σ 3 ((σ 1 2) + k).toNatClampNeg else -1) = ((jv_byt.getD 4 []).getD k.toNatClampNeg 0) → gE 17 28 [some (.ref 1), some (.ref 1000005), some (.int (k + 1))] [] σ K) ∧ (¬ (if 0 ≤ ((σ 1 2) + k) ∧ ((σ 1 2) + k) < σ 2 1 then σ 3 ((σ 1 2) + k).toNatClampNeg else -1) = ((jv_byt.getD 4 []).getD k.toNatClampNeg 0) → ((0 : Int32) = 0 ∨ (0 : Int32) = 1) ∧ K (some (.int 0)) σ))))) : gE 17 28 [some (.ref 1), some (.ref 1000005), some (.int k)] [] σ K :=
  gw_run (cy := 17) (cuts := [28]) (inl := []) (pf := gpdh) gpdh_ok 400 (by decide) h
theorem s17_1000005 {σ : gS} {K : gK} (hc : RW σ) (hK : K (some (.int (bI (cWd σ (jW 1000005))))) σ) : gE 17 0 [some (.ref 1), some (.ref 1000005), none] [] σ K := by
  obtain ⟨L, S, eL, eS, lL, lS, nL, nS⟩ := RW_n hc
  obtain ⟨N, hN⟩ : ∃ N, (jW 1000005).length = N := ⟨_, rfl⟩
  have l10 : N ≤ 10 := by rw [← hN]; decide
  have eN : N = (jW 1000005).length := hN.symm
  have lN : (jW 1000005).length = (jW 1000005).length := rfl
  have iL : ∀ k : Nat, k ≤ 10 → (iN k < iN N ↔ k < N) := fun k hk => iN_lt (by omega) (by omega)
  have no : ¬ cWd σ (jW 1000005) → K (some (.int 0)) σ := fun h => by rw [bI_n h] at hK; exact hK
  have hlit : iN N = iN (jW 1000005).length := by rw [hN]
  have key : ∀ d k, k + d = N → σ 1 4 = 2 → σ 1 3 - σ 1 2 = iN N → (∀ i, i < k → cBy (σ 3) L (S + i) = (jW 1000005).getD i 0) → gE 17 28 [some (.ref 1), some (.ref 1000005), some (.int (iN k))] [] σ K := by
    intro d
    induction d with
    | zero =>
      intro k hk h1 h2 h3
      have : k = N := by omega
      subst this
      refine v17_1000005 ⟨fun _ => ⟨Or.inr rfl, ?_⟩, fun h => ?_⟩
      · have yes : cWd σ (jW 1000005) := by
          refine ⟨h1, by rw [hN]; exact h2, fun i hi => ?_⟩
          rw [nL, nS]
          exact h3 i (by omega)
        rw [bI_y yes] at hK
        exact hK
      · have q : iN k < iN k := by rw [hlit] at h ⊢; exact h
        exact absurd ((iN_lt (by omega) (by omega)).mp q) (by omega)
    | succ d ih =>
      intro k hk h1 h2 h3
      have hkN : k < N := by omega
      have qk : iN k < iN N := (iL k (by omega)).mpr hkN
      refine v17_1000005 ⟨fun h => ?_, fun h => ⟨hc.1.2, ⟨(iN_le (k := 0) (by decide) (by omega)).mpr (by omega), h⟩, fun h4 => ?_, fun h4 => ?_⟩⟩
      · exact absurd (by rw [hlit] at qk; exact qk) h
      · rw [eL, eS, iN_add, cBy_e2 lL (by omega), iN_nat (by omega)] at h4
        rw [iN_one]
        refine ih (k + 1) (by omega) h1 h2 (fun i hi => ?_)
        by_cases e : i = k
        · subst e; exact h4
        · exact h3 i (by omega)
      · rw [eL, eS, iN_add, cBy_e2 lL (by omega), iN_nat (by omega)] at h4
        refine ⟨Or.inl rfl, no (fun q => h4 ?_)⟩
        have := q.2.2 k (by omega)
        rw [nL, nS] at this
        exact this
  refine w17_1000005 ⟨fun h => ⟨Or.inl rfl, no (fun q => h q.1)⟩, fun h => ⟨fun h2 => ?_, fun h2 => ⟨Or.inl rfl, no (fun q => h2 (q.2.1))⟩⟩⟩
  exact key N 0 (by omega) h (by rw [hlit]; exact h2) (fun i hi => absurd hi (Nat.not_lt_zero _))
set_option maxRecDepth 20000 in
theorem w17_1000006 {σ : gS} {K : gK} (h : ((¬ (σ 1 4) = 2 → ((0 : Int32) = 0 ∨ (0 : Int32) = 1) ∧ K (some (.int 0)) σ) ∧ ((σ 1 4) = 2 → ((((σ 1 3) - (σ 1 2)) = 6 → gE 17 28 [some (.ref 1), some (.ref 1000006), some (.int 0)] [] σ K) ∧ (¬ ((σ 1 3) - (σ 1 2)) = 6 → ((0 : Int32) = 0 ∨ (0 : Int32) = 1) ∧ K (some (.int 0)) σ))))) : gE 17 0 [some (.ref 1), some (.ref 1000006), none] [] σ K :=
  gw_run (cy := 17) (cuts := [28]) (inl := []) (pf := gpdh) gpdh_ok 400 (by decide) h
set_option maxRecDepth 20000 in
theorem v17_1000006 {σ : gS} {K : gK} {k : Int32} (h : ((¬ k < 6 → ((1 : Int32) = 0 ∨ (1 : Int32) = 1) ∧ K (some (.int 1)) σ) ∧ (k < 6 → (σ 2 1 ≤ 1000) ∧ (0 ≤ k ∧ k < 6) ∧ (((if 0 ≤ ((σ 1 2) + k) ∧ ((σ 1 2) + k) < σ 2 1 then σ 3 ((σ 1 2) + k).toNatClampNeg else -1) = ((jv_byt.getD 5 []).getD k.toNatClampNeg 0) → gE 17 28 [some (.ref 1), some (.ref 1000006), some (.int (k + 1))] [] σ K) ∧ (¬ (if 0 ≤ ((σ 1 2) + k) ∧ ((σ 1 2) + k) < σ 2 1 then σ 3 ((σ 1 2) + k).toNatClampNeg else -1) = ((jv_byt.getD 5 []).getD k.toNatClampNeg 0) → ((0 : Int32) = 0 ∨ (0 : Int32) = 1) ∧ K (some (.int 0)) σ))))) : gE 17 28 [some (.ref 1), some (.ref 1000006), some (.int k)] [] σ K :=
  gw_run (cy := 17) (cuts := [28]) (inl := []) (pf := gpdh) gpdh_ok 400 (by decide) h
theorem s17_1000006 {σ : gS} {K : gK} (hc : RW σ) (hK : K (some (.int (bI (cWd σ (jW 1000006))))) σ) : gE 17 0 [some (.ref 1), some (.ref 1000006), none] [] σ K := by
  obtain ⟨L, S, eL, eS, lL, lS, nL, nS⟩ := RW_n hc
  obtain ⟨N, hN⟩ : ∃ N, (jW 1000006).length = N := ⟨_, rfl⟩
  have l10 : N ≤ 10 := by rw [← hN]; decide
  have eN : N = (jW 1000006).length := hN.symm
  have lN : (jW 1000006).length = (jW 1000006).length := rfl
  have iL : ∀ k : Nat, k ≤ 10 → (iN k < iN N ↔ k < N) := fun k hk => iN_lt (by omega) (by omega)
  have no : ¬ cWd σ (jW 1000006) → K (some (.int 0)) σ := fun h => by rw [bI_n h] at hK; exact hK
  have hlit : iN N = iN (jW 1000006).length := by rw [hN]
  have key : ∀ d k, k + d = N → σ 1 4 = 2 → σ 1 3 - σ 1 2 = iN N → (∀ i, i < k → cBy (σ 3) L (S + i) = (jW 1000006).getD i 0) → gE 17 28 [some (.ref 1), some (.ref 1000006), some (.int (iN k))] [] σ K := by
    intro d
    induction d with
    | zero =>
      intro k hk h1 h2 h3
      have : k = N := by omega
      subst this
      refine v17_1000006 ⟨fun _ => ⟨Or.inr rfl, ?_⟩, fun h => ?_⟩
      · have yes : cWd σ (jW 1000006) := by
          refine ⟨h1, by rw [hN]; exact h2, fun i hi => ?_⟩
          rw [nL, nS]
          exact h3 i (by omega)
        rw [bI_y yes] at hK
        exact hK
      · have q : iN k < iN k := by rw [hlit] at h ⊢; exact h
        exact absurd ((iN_lt (by omega) (by omega)).mp q) (by omega)
    | succ d ih =>
      intro k hk h1 h2 h3
      have hkN : k < N := by omega
      have qk : iN k < iN N := (iL k (by omega)).mpr hkN
      refine v17_1000006 ⟨fun h => ?_, fun h => ⟨hc.1.2, ⟨(iN_le (k := 0) (by decide) (by omega)).mpr (by omega), h⟩, fun h4 => ?_, fun h4 => ?_⟩⟩
      · exact absurd (by rw [hlit] at qk; exact qk) h
      · rw [eL, eS, iN_add, cBy_e2 lL (by omega), iN_nat (by omega)] at h4
        rw [iN_one]
        refine ih (k + 1) (by omega) h1 h2 (fun i hi => ?_)
        by_cases e : i = k
        · subst e; exact h4
        · exact h3 i (by omega)
      · rw [eL, eS, iN_add, cBy_e2 lL (by omega), iN_nat (by omega)] at h4
        refine ⟨Or.inl rfl, no (fun q => h4 ?_)⟩
        have := q.2.2 k (by omega)
        rw [nL, nS] at this
        exact this
  refine w17_1000006 ⟨fun h => ⟨Or.inl rfl, no (fun q => h q.1)⟩, fun h => ⟨fun h2 => ?_, fun h2 => ⟨Or.inl rfl, no (fun q => h2 (q.2.1))⟩⟩⟩
  exact key N 0 (by omega) h (by rw [hlit]; exact h2) (fun i hi => absurd hi (Nat.not_lt_zero _))
set_option maxRecDepth 20000 in
theorem w17_1000007 {σ : gS} {K : gK} (h : ((¬ (σ 1 4) = 2 → ((0 : Int32) = 0 ∨ (0 : Int32) = 1) ∧ K (some (.int 0)) σ) ∧ ((σ 1 4) = 2 → ((((σ 1 3) - (σ 1 2)) = 5 → gE 17 28 [some (.ref 1), some (.ref 1000007), some (.int 0)] [] σ K) ∧ (¬ ((σ 1 3) - (σ 1 2)) = 5 → ((0 : Int32) = 0 ∨ (0 : Int32) = 1) ∧ K (some (.int 0)) σ))))) : gE 17 0 [some (.ref 1), some (.ref 1000007), none] [] σ K :=
  gw_run (cy := 17) (cuts := [28]) (inl := []) (pf := gpdh) gpdh_ok 400 (by decide) h
set_option maxRecDepth 20000 in
theorem v17_1000007 {σ : gS} {K : gK} {k : Int32} (h : ((¬ k < 5 → ((1 : Int32) = 0 ∨ (1 : Int32) = 1) ∧ K (some (.int 1)) σ) ∧ (k < 5 → (σ 2 1 ≤ 1000) ∧ (0 ≤ k ∧ k < 5) ∧ (((if 0 ≤ ((σ 1 2) + k) ∧ ((σ 1 2) + k) < σ 2 1 then σ 3 ((σ 1 2) + k).toNatClampNeg else -1) = ((jv_byt.getD 6 []).getD k.toNatClampNeg 0) → gE 17 28 [some (.ref 1), some (.ref 1000007), some (.int (k + 1))] [] σ K) ∧ (¬ (if 0 ≤ ((σ 1 2) + k) ∧ ((σ 1 2) + k) < σ 2 1 then σ 3 ((σ 1 2) + k).toNatClampNeg else -1) = ((jv_byt.getD 6 []).getD k.toNatClampNeg 0) → ((0 : Int32) = 0 ∨ (0 : Int32) = 1) ∧ K (some (.int 0)) σ))))) : gE 17 28 [some (.ref 1), some (.ref 1000007), some (.int k)] [] σ K :=
  gw_run (cy := 17) (cuts := [28]) (inl := []) (pf := gpdh) gpdh_ok 400 (by decide) h
theorem s17_1000007 {σ : gS} {K : gK} (hc : RW σ) (hK : K (some (.int (bI (cWd σ (jW 1000007))))) σ) : gE 17 0 [some (.ref 1), some (.ref 1000007), none] [] σ K := by
  obtain ⟨L, S, eL, eS, lL, lS, nL, nS⟩ := RW_n hc
  obtain ⟨N, hN⟩ : ∃ N, (jW 1000007).length = N := ⟨_, rfl⟩
  have l10 : N ≤ 10 := by rw [← hN]; decide
  have eN : N = (jW 1000007).length := hN.symm
  have lN : (jW 1000007).length = (jW 1000007).length := rfl
  have iL : ∀ k : Nat, k ≤ 10 → (iN k < iN N ↔ k < N) := fun k hk => iN_lt (by omega) (by omega)
  have no : ¬ cWd σ (jW 1000007) → K (some (.int 0)) σ := fun h => by rw [bI_n h] at hK; exact hK
  have hlit : iN N = iN (jW 1000007).length := by rw [hN]
  have key : ∀ d k, k + d = N → σ 1 4 = 2 → σ 1 3 - σ 1 2 = iN N → (∀ i, i < k → cBy (σ 3) L (S + i) = (jW 1000007).getD i 0) → gE 17 28 [some (.ref 1), some (.ref 1000007), some (.int (iN k))] [] σ K := by
    intro d
    induction d with
    | zero =>
      intro k hk h1 h2 h3
      have : k = N := by omega
      subst this
      refine v17_1000007 ⟨fun _ => ⟨Or.inr rfl, ?_⟩, fun h => ?_⟩
      · have yes : cWd σ (jW 1000007) := by
          refine ⟨h1, by rw [hN]; exact h2, fun i hi => ?_⟩
          rw [nL, nS]
          exact h3 i (by omega)
        rw [bI_y yes] at hK
        exact hK
      · have q : iN k < iN k := by rw [hlit] at h ⊢; exact h
        exact absurd ((iN_lt (by omega) (by omega)).mp q) (by omega)
    | succ d ih =>
      intro k hk h1 h2 h3
      have hkN : k < N := by omega
      have qk : iN k < iN N := (iL k (by omega)).mpr hkN
      refine v17_1000007 ⟨fun h => ?_, fun h => ⟨hc.1.2, ⟨(iN_le (k := 0) (by decide) (by omega)).mpr (by omega), h⟩, fun h4 => ?_, fun h4 => ?_⟩⟩
      · exact absurd (by rw [hlit] at qk; exact qk) h
      · rw [eL, eS, iN_add, cBy_e2 lL (by omega), iN_nat (by omega)] at h4
        rw [iN_one]
        refine ih (k + 1) (by omega) h1 h2 (fun i hi => ?_)
        by_cases e : i = k
        · subst e; exact h4
        · exact h3 i (by omega)
      · rw [eL, eS, iN_add, cBy_e2 lL (by omega), iN_nat (by omega)] at h4
        refine ⟨Or.inl rfl, no (fun q => h4 ?_)⟩
        have := q.2.2 k (by omega)
        rw [nL, nS] at this
        exact this
  refine w17_1000007 ⟨fun h => ⟨Or.inl rfl, no (fun q => h q.1)⟩, fun h => ⟨fun h2 => ?_, fun h2 => ⟨Or.inl rfl, no (fun q => h2 (q.2.1))⟩⟩⟩
  exact key N 0 (by omega) h (by rw [hlit]; exact h2) (fun i hi => absurd hi (Nat.not_lt_zero _))
set_option maxRecDepth 20000 in
theorem w17_1000008 {σ : gS} {K : gK} (h : ((¬ (σ 1 4) = 2 → ((0 : Int32) = 0 ∨ (0 : Int32) = 1) ∧ K (some (.int 0)) σ) ∧ ((σ 1 4) = 2 → ((((σ 1 3) - (σ 1 2)) = 3 → gE 17 28 [some (.ref 1), some (.ref 1000008), some (.int 0)] [] σ K) ∧ (¬ ((σ 1 3) - (σ 1 2)) = 3 → ((0 : Int32) = 0 ∨ (0 : Int32) = 1) ∧ K (some (.int 0)) σ))))) : gE 17 0 [some (.ref 1), some (.ref 1000008), none] [] σ K :=
  gw_run (cy := 17) (cuts := [28]) (inl := []) (pf := gpdh) gpdh_ok 400 (by decide) h
set_option maxRecDepth 20000 in
theorem v17_1000008 {σ : gS} {K : gK} {k : Int32} (h : ((¬ k < 3 → ((1 : Int32) = 0 ∨ (1 : Int32) = 1) ∧ K (some (.int 1)) σ) ∧ (k < 3 → (σ 2 1 ≤ 1000) ∧ (0 ≤ k ∧ k < 3) ∧ (((if 0 ≤ ((σ 1 2) + k) ∧ ((σ 1 2) + k) < σ 2 1 then σ 3 ((σ 1 2) + k).toNatClampNeg else -1) = ((jv_byt.getD 7 []).getD k.toNatClampNeg 0) → gE 17 28 [some (.ref 1), some (.ref 1000008), some (.int (k + 1))] [] σ K) ∧ (¬ (if 0 ≤ ((σ 1 2) + k) ∧ ((σ 1 2) + k) < σ 2 1 then σ 3 ((σ 1 2) + k).toNatClampNeg else -1) = ((jv_byt.getD 7 []).getD k.toNatClampNeg 0) → ((0 : Int32) = 0 ∨ (0 : Int32) = 1) ∧ K (some (.int 0)) σ))))) : gE 17 28 [some (.ref 1), some (.ref 1000008), some (.int k)] [] σ K :=
  gw_run (cy := 17) (cuts := [28]) (inl := []) (pf := gpdh) gpdh_ok 400 (by decide) h
theorem s17_1000008 {σ : gS} {K : gK} (hc : RW σ) (hK : K (some (.int (bI (cWd σ (jW 1000008))))) σ) : gE 17 0 [some (.ref 1), some (.ref 1000008), none] [] σ K := by
  obtain ⟨L, S, eL, eS, lL, lS, nL, nS⟩ := RW_n hc
  obtain ⟨N, hN⟩ : ∃ N, (jW 1000008).length = N := ⟨_, rfl⟩
  have l10 : N ≤ 10 := by rw [← hN]; decide
  have eN : N = (jW 1000008).length := hN.symm
  have lN : (jW 1000008).length = (jW 1000008).length := rfl
  have iL : ∀ k : Nat, k ≤ 10 → (iN k < iN N ↔ k < N) := fun k hk => iN_lt (by omega) (by omega)
  have no : ¬ cWd σ (jW 1000008) → K (some (.int 0)) σ := fun h => by rw [bI_n h] at hK; exact hK
  have hlit : iN N = iN (jW 1000008).length := by rw [hN]
  have key : ∀ d k, k + d = N → σ 1 4 = 2 → σ 1 3 - σ 1 2 = iN N → (∀ i, i < k → cBy (σ 3) L (S + i) = (jW 1000008).getD i 0) → gE 17 28 [some (.ref 1), some (.ref 1000008), some (.int (iN k))] [] σ K := by
    intro d
    induction d with
    | zero =>
      intro k hk h1 h2 h3
      have : k = N := by omega
      subst this
      refine v17_1000008 ⟨fun _ => ⟨Or.inr rfl, ?_⟩, fun h => ?_⟩
      · have yes : cWd σ (jW 1000008) := by
          refine ⟨h1, by rw [hN]; exact h2, fun i hi => ?_⟩
          rw [nL, nS]
          exact h3 i (by omega)
        rw [bI_y yes] at hK
        exact hK
      · have q : iN k < iN k := by rw [hlit] at h ⊢; exact h
        exact absurd ((iN_lt (by omega) (by omega)).mp q) (by omega)
    | succ d ih =>
      intro k hk h1 h2 h3
      have hkN : k < N := by omega
      have qk : iN k < iN N := (iL k (by omega)).mpr hkN
      refine v17_1000008 ⟨fun h => ?_, fun h => ⟨hc.1.2, ⟨(iN_le (k := 0) (by decide) (by omega)).mpr (by omega), h⟩, fun h4 => ?_, fun h4 => ?_⟩⟩
      · exact absurd (by rw [hlit] at qk; exact qk) h
      · rw [eL, eS, iN_add, cBy_e2 lL (by omega), iN_nat (by omega)] at h4
        rw [iN_one]
        refine ih (k + 1) (by omega) h1 h2 (fun i hi => ?_)
        by_cases e : i = k
        · subst e; exact h4
        · exact h3 i (by omega)
      · rw [eL, eS, iN_add, cBy_e2 lL (by omega), iN_nat (by omega)] at h4
        refine ⟨Or.inl rfl, no (fun q => h4 ?_)⟩
        have := q.2.2 k (by omega)
        rw [nL, nS] at this
        exact this
  refine w17_1000008 ⟨fun h => ⟨Or.inl rfl, no (fun q => h q.1)⟩, fun h => ⟨fun h2 => ?_, fun h2 => ⟨Or.inl rfl, no (fun q => h2 (q.2.1))⟩⟩⟩
  exact key N 0 (by omega) h (by rw [hlit]; exact h2) (fun i hi => absurd hi (Nat.not_lt_zero _))
set_option maxRecDepth 20000 in
theorem w17_1000009 {σ : gS} {K : gK} (h : ((¬ (σ 1 4) = 2 → ((0 : Int32) = 0 ∨ (0 : Int32) = 1) ∧ K (some (.int 0)) σ) ∧ ((σ 1 4) = 2 → ((((σ 1 3) - (σ 1 2)) = 6 → gE 17 28 [some (.ref 1), some (.ref 1000009), some (.int 0)] [] σ K) ∧ (¬ ((σ 1 3) - (σ 1 2)) = 6 → ((0 : Int32) = 0 ∨ (0 : Int32) = 1) ∧ K (some (.int 0)) σ))))) : gE 17 0 [some (.ref 1), some (.ref 1000009), none] [] σ K :=
  gw_run (cy := 17) (cuts := [28]) (inl := []) (pf := gpdh) gpdh_ok 400 (by decide) h
set_option maxRecDepth 20000 in
theorem v17_1000009 {σ : gS} {K : gK} {k : Int32} (h : ((¬ k < 6 → ((1 : Int32) = 0 ∨ (1 : Int32) = 1) ∧ K (some (.int 1)) σ) ∧ (k < 6 → (σ 2 1 ≤ 1000) ∧ (0 ≤ k ∧ k < 6) ∧ (((if 0 ≤ ((σ 1 2) + k) ∧ ((σ 1 2) + k) < σ 2 1 then σ 3 ((σ 1 2) + k).toNatClampNeg else -1) = ((jv_byt.getD 8 []).getD k.toNatClampNeg 0) → gE 17 28 [some (.ref 1), some (.ref 1000009), some (.int (k + 1))] [] σ K) ∧ (¬ (if 0 ≤ ((σ 1 2) + k) ∧ ((σ 1 2) + k) < σ 2 1 then σ 3 ((σ 1 2) + k).toNatClampNeg else -1) = ((jv_byt.getD 8 []).getD k.toNatClampNeg 0) → ((0 : Int32) = 0 ∨ (0 : Int32) = 1) ∧ K (some (.int 0)) σ))))) : gE 17 28 [some (.ref 1), some (.ref 1000009), some (.int k)] [] σ K :=
  gw_run (cy := 17) (cuts := [28]) (inl := []) (pf := gpdh) gpdh_ok 400 (by decide) h
theorem s17_1000009 {σ : gS} {K : gK} (hc : RW σ) (hK : K (some (.int (bI (cWd σ (jW 1000009))))) σ) : gE 17 0 [some (.ref 1), some (.ref 1000009), none] [] σ K := by
  obtain ⟨L, S, eL, eS, lL, lS, nL, nS⟩ := RW_n hc
  obtain ⟨N, hN⟩ : ∃ N, (jW 1000009).length = N := ⟨_, rfl⟩
  have l10 : N ≤ 10 := by rw [← hN]; decide
  have eN : N = (jW 1000009).length := hN.symm
  have lN : (jW 1000009).length = (jW 1000009).length := rfl
  have iL : ∀ k : Nat, k ≤ 10 → (iN k < iN N ↔ k < N) := fun k hk => iN_lt (by omega) (by omega)
  have no : ¬ cWd σ (jW 1000009) → K (some (.int 0)) σ := fun h => by rw [bI_n h] at hK; exact hK
  have hlit : iN N = iN (jW 1000009).length := by rw [hN]
  have key : ∀ d k, k + d = N → σ 1 4 = 2 → σ 1 3 - σ 1 2 = iN N → (∀ i, i < k → cBy (σ 3) L (S + i) = (jW 1000009).getD i 0) → gE 17 28 [some (.ref 1), some (.ref 1000009), some (.int (iN k))] [] σ K := by
    intro d
    induction d with
    | zero =>
      intro k hk h1 h2 h3
      have : k = N := by omega
      subst this
      refine v17_1000009 ⟨fun _ => ⟨Or.inr rfl, ?_⟩, fun h => ?_⟩
      · have yes : cWd σ (jW 1000009) := by
          refine ⟨h1, by rw [hN]; exact h2, fun i hi => ?_⟩
          rw [nL, nS]
          exact h3 i (by omega)
        rw [bI_y yes] at hK
        exact hK
      · have q : iN k < iN k := by rw [hlit] at h ⊢; exact h
        exact absurd ((iN_lt (by omega) (by omega)).mp q) (by omega)
    | succ d ih =>
      intro k hk h1 h2 h3
      have hkN : k < N := by omega
      have qk : iN k < iN N := (iL k (by omega)).mpr hkN
      refine v17_1000009 ⟨fun h => ?_, fun h => ⟨hc.1.2, ⟨(iN_le (k := 0) (by decide) (by omega)).mpr (by omega), h⟩, fun h4 => ?_, fun h4 => ?_⟩⟩
      · exact absurd (by rw [hlit] at qk; exact qk) h
      · rw [eL, eS, iN_add, cBy_e2 lL (by omega), iN_nat (by omega)] at h4
        rw [iN_one]
        refine ih (k + 1) (by omega) h1 h2 (fun i hi => ?_)
        by_cases e : i = k
        · subst e; exact h4
        · exact h3 i (by omega)
      · rw [eL, eS, iN_add, cBy_e2 lL (by omega), iN_nat (by omega)] at h4
        refine ⟨Or.inl rfl, no (fun q => h4 ?_)⟩
        have := q.2.2 k (by omega)
        rw [nL, nS] at this
        exact this
  refine w17_1000009 ⟨fun h => ⟨Or.inl rfl, no (fun q => h q.1)⟩, fun h => ⟨fun h2 => ?_, fun h2 => ⟨Or.inl rfl, no (fun q => h2 (q.2.1))⟩⟩⟩
  exact key N 0 (by omega) h (by rw [hlit]; exact h2) (fun i hi => absurd hi (Nat.not_lt_zero _))
set_option maxRecDepth 20000 in
theorem w17_1000010 {σ : gS} {K : gK} (h : ((¬ (σ 1 4) = 2 → ((0 : Int32) = 0 ∨ (0 : Int32) = 1) ∧ K (some (.int 0)) σ) ∧ ((σ 1 4) = 2 → ((((σ 1 3) - (σ 1 2)) = 4 → gE 17 28 [some (.ref 1), some (.ref 1000010), some (.int 0)] [] σ K) ∧ (¬ ((σ 1 3) - (σ 1 2)) = 4 → ((0 : Int32) = 0 ∨ (0 : Int32) = 1) ∧ K (some (.int 0)) σ))))) : gE 17 0 [some (.ref 1), some (.ref 1000010), none] [] σ K :=
  gw_run (cy := 17) (cuts := [28]) (inl := []) (pf := gpdh) gpdh_ok 400 (by decide) h
set_option maxRecDepth 20000 in
theorem v17_1000010 {σ : gS} {K : gK} {k : Int32} (h : ((¬ k < 4 → ((1 : Int32) = 0 ∨ (1 : Int32) = 1) ∧ K (some (.int 1)) σ) ∧ (k < 4 → (σ 2 1 ≤ 1000) ∧ (0 ≤ k ∧ k < 4) ∧ (((if 0 ≤ ((σ 1 2) + k) ∧ ((σ 1 2) + k) < σ 2 1 then σ 3 ((σ 1 2) + k).toNatClampNeg else -1) = ((jv_byt.getD 9 []).getD k.toNatClampNeg 0) → gE 17 28 [some (.ref 1), some (.ref 1000010), some (.int (k + 1))] [] σ K) ∧ (¬ (if 0 ≤ ((σ 1 2) + k) ∧ ((σ 1 2) + k) < σ 2 1 then σ 3 ((σ 1 2) + k).toNatClampNeg else -1) = ((jv_byt.getD 9 []).getD k.toNatClampNeg 0) → ((0 : Int32) = 0 ∨ (0 : Int32) = 1) ∧ K (some (.int 0)) σ))))) : gE 17 28 [some (.ref 1), some (.ref 1000010), some (.int k)] [] σ K :=
  gw_run (cy := 17) (cuts := [28]) (inl := []) (pf := gpdh) gpdh_ok 400 (by decide) h
theorem s17_1000010 {σ : gS} {K : gK} (hc : RW σ) (hK : K (some (.int (bI (cWd σ (jW 1000010))))) σ) : gE 17 0 [some (.ref 1), some (.ref 1000010), none] [] σ K := by
  obtain ⟨L, S, eL, eS, lL, lS, nL, nS⟩ := RW_n hc
  obtain ⟨N, hN⟩ : ∃ N, (jW 1000010).length = N := ⟨_, rfl⟩
  have l10 : N ≤ 10 := by rw [← hN]; decide
  have eN : N = (jW 1000010).length := hN.symm
  have lN : (jW 1000010).length = (jW 1000010).length := rfl
  have iL : ∀ k : Nat, k ≤ 10 → (iN k < iN N ↔ k < N) := fun k hk => iN_lt (by omega) (by omega)
  have no : ¬ cWd σ (jW 1000010) → K (some (.int 0)) σ := fun h => by rw [bI_n h] at hK; exact hK
  have hlit : iN N = iN (jW 1000010).length := by rw [hN]
  have key : ∀ d k, k + d = N → σ 1 4 = 2 → σ 1 3 - σ 1 2 = iN N → (∀ i, i < k → cBy (σ 3) L (S + i) = (jW 1000010).getD i 0) → gE 17 28 [some (.ref 1), some (.ref 1000010), some (.int (iN k))] [] σ K := by
    intro d
    induction d with
    | zero =>
      intro k hk h1 h2 h3
      have : k = N := by omega
      subst this
      refine v17_1000010 ⟨fun _ => ⟨Or.inr rfl, ?_⟩, fun h => ?_⟩
      · have yes : cWd σ (jW 1000010) := by
          refine ⟨h1, by rw [hN]; exact h2, fun i hi => ?_⟩
          rw [nL, nS]
          exact h3 i (by omega)
        rw [bI_y yes] at hK
        exact hK
      · have q : iN k < iN k := by rw [hlit] at h ⊢; exact h
        exact absurd ((iN_lt (by omega) (by omega)).mp q) (by omega)
    | succ d ih =>
      intro k hk h1 h2 h3
      have hkN : k < N := by omega
      have qk : iN k < iN N := (iL k (by omega)).mpr hkN
      refine v17_1000010 ⟨fun h => ?_, fun h => ⟨hc.1.2, ⟨(iN_le (k := 0) (by decide) (by omega)).mpr (by omega), h⟩, fun h4 => ?_, fun h4 => ?_⟩⟩
      · exact absurd (by rw [hlit] at qk; exact qk) h
      · rw [eL, eS, iN_add, cBy_e2 lL (by omega), iN_nat (by omega)] at h4
        rw [iN_one]
        refine ih (k + 1) (by omega) h1 h2 (fun i hi => ?_)
        by_cases e : i = k
        · subst e; exact h4
        · exact h3 i (by omega)
      · rw [eL, eS, iN_add, cBy_e2 lL (by omega), iN_nat (by omega)] at h4
        refine ⟨Or.inl rfl, no (fun q => h4 ?_)⟩
        have := q.2.2 k (by omega)
        rw [nL, nS] at this
        exact this
  refine w17_1000010 ⟨fun h => ⟨Or.inl rfl, no (fun q => h q.1)⟩, fun h => ⟨fun h2 => ?_, fun h2 => ⟨Or.inl rfl, no (fun q => h2 (q.2.1))⟩⟩⟩
  exact key N 0 (by omega) h (by rw [hlit]; exact h2) (fun i hi => absurd hi (Nat.not_lt_zero _))
noncomputable def f17 : gD := fun Lv σ => match Lv with
  | [some (.ref q0), some (.ref p), none] => cond ((Nat.beq p 1000001 || Nat.beq p 1000002 || Nat.beq p 1000003 || Nat.beq p 1000004 || Nat.beq p 1000005 || Nat.beq p 1000006 || Nat.beq p 1000007 || Nat.beq p 1000008 || Nat.beq p 1000009 || Nat.beq p 1000010) && (Nat.beq q0 1)) (some (some (RW σ), some (.int (bI (cWd σ (jW p)))), σ)) none
  | _ => none
theorem ok17 : gFok 17 f17 := by
  intro Lv σ q h hc K hK
  unfold f17 at h
  split at h
  · rename_i q0 p
    obtain ⟨hb, h⟩ := c_no h
    obtain ⟨hc1, hb1⟩ := s_and hb
    have hb0 := hc1
    have e0 := b_eq hb1
    subst e0
    rcases s_or hb0 with hb0 | hb0
    · rcases s_or hb0 with hb0 | hb0
      · rcases s_or hb0 with hb0 | hb0
        · rcases s_or hb0 with hb0 | hb0
          · rcases s_or hb0 with hb0 | hb0
            · rcases s_or hb0 with hb0 | hb0
              · rcases s_or hb0 with hb0 | hb0
                · rcases s_or hb0 with hb0 | hb0
                  · rcases s_or hb0 with hb0 | hb0
                    · have e := b_eq hb0
                      subst e
                      cases h
                      exact s17_1000001 (hc _ rfl) hK
                    · have e := b_eq hb0
                      subst e
                      cases h
                      exact s17_1000002 (hc _ rfl) hK
                  · have e := b_eq hb0
                    subst e
                    cases h
                    exact s17_1000003 (hc _ rfl) hK
                · have e := b_eq hb0
                  subst e
                  cases h
                  exact s17_1000004 (hc _ rfl) hK
              · have e := b_eq hb0
                subst e
                cases h
                exact s17_1000005 (hc _ rfl) hK
            · have e := b_eq hb0
              subst e
              cases h
              exact s17_1000006 (hc _ rfl) hK
          · have e := b_eq hb0
            subst e
            cases h
            exact s17_1000007 (hc _ rfl) hK
        · have e := b_eq hb0
          subst e
          cases h
          exact s17_1000008 (hc _ rfl) hK
      · have e := b_eq hb0
        subst e
        cases h
        exact s17_1000009 (hc _ rfl) hK
    · have e := b_eq hb0
      subst e
      cases h
      exact s17_1000010 (hc _ rfl) hK
  · cases h
noncomputable def gpdi_l : List (Nat × gD) := (17, f17) :: gpdh_l
noncomputable def gpdi : gP := gpl0 gpdi_l
theorem gpdi_ok : gPok gpdi := gpl0_cons ok17 (gpdh_ok)
-- text 52
/-! THE CLASS: names on the tape -/
def cBeg (σ : gS) : gS := cTok (gup (gup σ 1 5 0) 1 3 0)
abbrev cKw (σ : gS) : Prop := cWd σ (jW 1000001) ∨ cWd σ (jW 1000002) ∨ cWd σ (jW 1000003) ∨ cWd σ (jW 1000004) ∨ cWd σ (jW 1000005) ∨ cWd σ (jW 1000006) ∨ cWd σ (jW 1000007) ∨ cWd σ (jW 1000008) ∨ cWd σ (jW 1000009) ∨ cWd σ (jW 1000010)
abbrev cNm (σ : gS) : Prop := σ 1 4 = 2 ∧ ¬ 5 < σ 1 3 - σ 1 2 ∧ ¬ cKw σ
/-- k letters, packed -/
def cPk (T : gW) (L s : Nat) : Nat → Int32
  | 0 => 0
  | k + 1 => cPk T L s k ||| ((cBy T L (s + k) - 97 + 1) <<< (iN (5 * k) &&& 31))
set_option maxRecDepth 20000 in
theorem w14 {σ : gS} {K : gK} (h : ((0 : Int32) = 0 ∨ (0 : Int32) = 1) ∧ (RD (gup (gup σ 1 5 0) 1 3 0)) ∧ K none (cTok (gup (gup σ 1 5 0) 1 3 0))) : gE 14 0 [some (.ref 1)] [] σ K :=
  gw_run (cy := 14) (cuts := []) (inl := []) (pf := gpdh) gpdh_ok 400 (by decide) h
theorem s14 {σ : gS} {K : gK} (hc : 0 ≤ σ 2 1 ∧ σ 2 1 ≤ 1000) (hK : K none (cBeg σ)) : gE 14 0 [some (.ref 1)] [] σ K := by
  have e : gup (gup σ 1 5 0) 1 3 0 2 1 = σ 2 1 := by rw [gup_ne (by omega), gup_ne (by omega)]
  refine w14 ⟨Or.inl rfl, ⟨by rw [e]; exact hc, by rw [gup_at, e]; exact ⟨by decide, hc.1⟩⟩, hK⟩
noncomputable def f14 : gD := fun Lv σ => match Lv with
  | [some (.ref q0)] => cond (Nat.beq q0 1) (some (some (0 ≤ σ 2 1 ∧ σ 2 1 ≤ 1000), none, cBeg σ)) none
  | _ => none
theorem ok14 : gFok 14 f14 := by
  intro Lv σ q h hc K hK
  unfold f14 at h
  split at h
  · rename_i q0
    obtain ⟨hb, h⟩ := c_no h
    have hb0 := hb
    have e0 := b_eq hb0
    subst e0
    cases h
    exact s14 (hc _ rfl) hK
  · cases h
set_option maxRecDepth 20000 in
theorem w16 {σ : gS} {K : gK} {c : Int32} (h : (σ 2 1 ≤ 1000) ∧ ((¬ (if 0 ≤ (σ 1 2) ∧ (σ 1 2) < σ 2 1 then σ 3 (σ 1 2).toNatClampNeg else -1) = c → ((0 : Int32) = 0 ∨ (0 : Int32) = 1) ∧ K (some (.int 0)) σ) ∧ ((if 0 ≤ (σ 1 2) ∧ (σ 1 2) < σ 2 1 then σ 3 (σ 1 2).toNatClampNeg else -1) = c → ((1 : Int32) = 0 ∨ (1 : Int32) = 1) ∧ K (some (.int 1)) σ))) : gE 16 0 [some (.ref 1), some (.int c)] [] σ K :=
  gw_run (cy := 16) (cuts := []) (inl := []) (pf := gpdh) gpdh_ok 400 (by decide) h
theorem s16 {σ : gS} {K : gK} {c : Int32} (hc : RW σ) (hK : K (some (.int (bI (cBy (σ 3) (σ 2 1).toNatClampNeg (σ 1 2).toNatClampNeg = c)))) σ) : gE 16 0 [some (.ref 1), some (.int c)] [] σ K := by
  obtain ⟨L, S, eL, eS, lL, lS, nL, nS⟩ := RW_n hc
  refine w16 ⟨hc.1.2, ?_⟩
  rw [nL, nS] at hK
  rw [eL, eS, cBy_e2 lL (by omega)]
  refine ⟨fun h => ⟨Or.inl rfl, ?_⟩, fun h => ⟨Or.inr rfl, ?_⟩⟩
  · rw [bI_n h] at hK; exact hK
  · rw [bI_y h] at hK; exact hK
noncomputable def f16 : gD := fun Lv σ => match Lv with
  | [some (.ref q0), some (.int c)] => cond (Nat.beq q0 1) (some (some (RW σ), some (.int (bI (cBy (σ 3) (σ 2 1).toNatClampNeg (σ 1 2).toNatClampNeg = c))), σ)) none
  | _ => none
theorem ok16 : gFok 16 f16 := by
  intro Lv σ q h hc K hK
  unfold f16 at h
  split at h
  · rename_i q0 c
    obtain ⟨hb, h⟩ := c_no h
    have hb0 := hb
    have e0 := b_eq hb0
    subst e0
    cases h
    exact s16 (hc _ rfl) hK
  · cases h
set_option maxRecDepth 20000 in
theorem w18 {σ : gS} {K : gK} (h : (RW σ) ∧ ((¬ (bI (cWd σ (jW 1000001))) = 0 → ((1 : Int32) = 0 ∨ (1 : Int32) = 1) ∧ K (some (.int 1)) σ) ∧ ((bI (cWd σ (jW 1000001))) = 0 → (RW σ) ∧ ((¬ (bI (cWd σ (jW 1000002))) = 0 → ((1 : Int32) = 0 ∨ (1 : Int32) = 1) ∧ K (some (.int 1)) σ) ∧ ((bI (cWd σ (jW 1000002))) = 0 → (RW σ) ∧ ((¬ (bI (cWd σ (jW 1000003))) = 0 → ((1 : Int32) = 0 ∨ (1 : Int32) = 1) ∧ K (some (.int 1)) σ) ∧ ((bI (cWd σ (jW 1000003))) = 0 → (RW σ) ∧ ((¬ (bI (cWd σ (jW 1000004))) = 0 → ((1 : Int32) = 0 ∨ (1 : Int32) = 1) ∧ K (some (.int 1)) σ) ∧ ((bI (cWd σ (jW 1000004))) = 0 → (RW σ) ∧ ((¬ (bI (cWd σ (jW 1000005))) = 0 → ((1 : Int32) = 0 ∨ (1 : Int32) = 1) ∧ K (some (.int 1)) σ) ∧ ((bI (cWd σ (jW 1000005))) = 0 → (RW σ) ∧ ((¬ (bI (cWd σ (jW 1000006))) = 0 → ((1 : Int32) = 0 ∨ (1 : Int32) = 1) ∧ K (some (.int 1)) σ) ∧ ((bI (cWd σ (jW 1000006))) = 0 → (RW σ) ∧ ((¬ (bI (cWd σ (jW 1000007))) = 0 → ((1 : Int32) = 0 ∨ (1 : Int32) = 1) ∧ K (some (.int 1)) σ) ∧ ((bI (cWd σ (jW 1000007))) = 0 → (RW σ) ∧ ((¬ (bI (cWd σ (jW 1000008))) = 0 → ((1 : Int32) = 0 ∨ (1 : Int32) = 1) ∧ K (some (.int 1)) σ) ∧ ((bI (cWd σ (jW 1000008))) = 0 → (RW σ) ∧ ((¬ (bI (cWd σ (jW 1000009))) = 0 → ((1 : Int32) = 0 ∨ (1 : Int32) = 1) ∧ K (some (.int 1)) σ) ∧ ((bI (cWd σ (jW 1000009))) = 0 → (RW σ) ∧ (((bI (cWd σ (jW 1000010))) = 0 → ((0 : Int32) = 0 ∨ (0 : Int32) = 1) ∧ K (some (.int 0)) σ) ∧ (¬ (bI (cWd σ (jW 1000010))) = 0 → ((1 : Int32) = 0 ∨ (1 : Int32) = 1) ∧ K (some (.int 1)) σ))))))))))))))))))))) : gE 18 0 [some (.ref 1)] [] σ K :=
  gw_run (cy := 18) (cuts := []) (inl := []) (pf := gpdi) gpdi_ok 400 (by decide) h
theorem s18 {σ : gS} {K : gK} (hc : RW σ) (hK : K (some (.int (bI (cKw σ)))) σ) : gE 18 0 [some (.ref 1)] [] σ K := by
  refine w18 ?_
  simp only [bI_0]
  have yes : cKw σ → ((1 : Int32) = 0 ∨ (1 : Int32) = 1) ∧ K (some (.int 1)) σ := fun h => ⟨Or.inr rfl, by rw [bI_y h] at hK; exact hK⟩
  have no : ¬ cKw σ → ((0 : Int32) = 0 ∨ (0 : Int32) = 1) ∧ K (some (.int 0)) σ := fun h => ⟨Or.inl rfl, by rw [bI_n h] at hK; exact hK⟩
  unfold cKw at yes no
  clear hK
  simp only [jW] at yes no ⊢
  grind (splits := 40)
noncomputable def f18 : gD := fun Lv σ => match Lv with
  | [some (.ref q0)] => cond (Nat.beq q0 1) (some (some (RW σ), some (.int (bI (cKw σ))), σ)) none
  | _ => none
theorem ok18 : gFok 18 f18 := by
  intro Lv σ q h hc K hK
  unfold f18 at h
  split at h
  · rename_i q0
    obtain ⟨hb, h⟩ := c_no h
    have hb0 := hb
    have e0 := b_eq hb0
    subst e0
    cases h
    exact s18 (hc _ rfl) hK
  · cases h
noncomputable def gpdj_l : List (Nat × gD) := (14, f14) :: (16, f16) :: (18, f18) :: gpdi_l
noncomputable def gpdj : gP := gpl0 gpdj_l
theorem gpdj_ok : gPok gpdj := gpl0_cons ok14 (gpl0_cons ok16 (gpl0_cons ok18 (gpdi_ok)))
set_option maxRecDepth 20000 in
theorem w19 {σ : gS} {K : gK} (h : ((¬ (σ 1 4) = 2 → ((0 : Int32) = 0 ∨ (0 : Int32) = 1) ∧ K (some (.int 0)) σ) ∧ ((σ 1 4) = 2 → ((5 < ((σ 1 3) - (σ 1 2)) → ((0 : Int32) = 0 ∨ (0 : Int32) = 1) ∧ K (some (.int 0)) σ) ∧ (¬ 5 < ((σ 1 3) - (σ 1 2)) → (RW σ) ∧ ((¬ (bI (cKw σ)) = 0 → ((0 : Int32) = 0 ∨ (0 : Int32) = 1) ∧ K (some (.int 0)) σ) ∧ ((bI (cKw σ)) = 0 → ((1 : Int32) = 0 ∨ (1 : Int32) = 1) ∧ K (some (.int 1)) σ))))))) : gE 19 0 [some (.ref 1)] [] σ K :=
  gw_run (cy := 19) (cuts := []) (inl := []) (pf := gpdj) gpdj_ok 400 (by decide) h
theorem s19 {σ : gS} {K : gK} (hc : RW σ) (hK : K (some (.int (bI (cNm σ)))) σ) : gE 19 0 [some (.ref 1)] [] σ K := by
  refine w19 ?_
  have yes : cNm σ → ((1 : Int32) = 0 ∨ (1 : Int32) = 1) ∧ K (some (.int 1)) σ := fun h => ⟨Or.inr rfl, by rw [bI_y h] at hK; exact hK⟩
  have no : ¬ cNm σ → ((0 : Int32) = 0 ∨ (0 : Int32) = 1) ∧ K (some (.int 0)) σ := fun h => ⟨Or.inl rfl, by rw [bI_n h] at hK; exact hK⟩
  simp only [bI_0]
  unfold cNm at yes no
  clear hK
  generalize cKw σ = Q at yes no ⊢
  grind (splits := 40)
noncomputable def f19 : gD := fun Lv σ => match Lv with
  | [some (.ref q0)] => cond (Nat.beq q0 1) (some (some (RW σ), some (.int (bI (cNm σ))), σ)) none
  | _ => none
theorem ok19 : gFok 19 f19 := by
  intro Lv σ q h hc K hK
  unfold f19 at h
  split at h
  · rename_i q0
    obtain ⟨hb, h⟩ := c_no h
    have hb0 := hb
    have e0 := b_eq hb0
    subst e0
    cases h
    exact s19 (hc _ rfl) hK
  · cases h
set_option maxRecDepth 20000 in
theorem w20 {σ : gS} {K : gK} (h : gE 20 7 [some (.ref 1), some (.int 0), some (.int (σ 1 2))] [] σ K) : gE 20 0 [some (.ref 1), none, none] [] σ K :=
  gw_run (cy := 20) (cuts := [7]) (inl := []) (pf := gpdj) gpdj_ok 400 (by decide) h
set_option maxRecDepth 20000 in
theorem v20 {σ : gS} {K : gK} {n i : Int32} (h : ((¬ i < (σ 1 3) → K (some (.int n)) σ) ∧ (i < (σ 1 3) → ((¬ i < ((σ 1 2) + 5) → K (some (.int n)) σ) ∧ (i < ((σ 1 2) + 5) → (σ 2 1 ≤ 1000) ∧ gE 20 7 [some (.ref 1), some (.int (n ||| ((((if 0 ≤ i ∧ i < σ 2 1 then σ 3 i.toNatClampNeg else -1) - 97) + 1) <<< ((5 * (i - (σ 1 2))) &&& 31)))), some (.int (i + 1))] [] σ K))))) : gE 20 7 [some (.ref 1), some (.int n), some (.int i)] [] σ K :=
  gw_run (cy := 20) (cuts := [7]) (inl := []) (pf := gpdj) gpdj_ok 400 (by decide) h
theorem s20 {σ : gS} {K : gK} (hc : RW σ ∧ (0 ≤ σ 1 3 ∧ σ 1 3 ≤ 1001)) (hK : K (some (.int (cPk (σ 3) (σ 2 1).toNatClampNeg (σ 1 2).toNatClampNeg (min ((σ 1 3).toNatClampNeg - (σ 1 2).toNatClampNeg) 5)))) σ) : gE 20 0 [some (.ref 1), none, none] [] σ K := by
  obtain ⟨hr, hE⟩ := hc
  obtain ⟨L, S, eL, eS, lL, lS, nL, nS⟩ := RW_n hr
  obtain ⟨eE, lE⟩ : σ 1 3 = iN (σ 1 3).toNatClampNeg ∧ (σ 1 3).toNatClampNeg ≤ 1001 := by
    obtain ⟨e, l⟩ := iN_of hE.1
    refine ⟨e, ?_⟩
    have h2 := hE.2
    rw [e] at h2
    exact (iN_le (m := 1001) l (by decide)).mp h2
  obtain ⟨E, hEE⟩ : ∃ E, (σ 1 3).toNatClampNeg = E := ⟨_, rfl⟩
  rw [nL, nS, hEE] at hK
  rw [hEE] at eE lE
  have key : ∀ d k, k + d = min (E - S) 5 → gE 20 7 [some (.ref 1), some (.int (cPk (σ 3) L S k)), some (.int (iN (S + k)))] [] σ K := by
    intro d
    induction d with
    | zero =>
      intro k hk
      have hk : k = min (E - S) 5 := by omega
      rw [← hk] at hK
      refine v20 ⟨fun _ => hK, fun h => ⟨fun _ => hK, fun h2 => ?_⟩⟩
      rw [eE, iN_lt (by omega) (by omega)] at h
      rw [eS, show (5 : Int32) = iN 5 from rfl, iN_add, iN_lt (by omega) (by omega)] at h2
      omega
    | succ d ih =>
      intro k hk
      refine v20 ⟨fun h => ?_, fun h => ⟨fun h2 => ?_, fun _ => ⟨hr.1.2, ?_⟩⟩⟩
      · rw [eE, iN_lt (by omega) (by omega)] at h
        omega
      · rw [eS, show (5 : Int32) = iN 5 from rfl, iN_add, iN_lt (by omega) (by omega)] at h2
        omega
      · have e1 : (5 : Int32) * (iN (S + k) - iN S) = iN (5 * k) := by
          rw [iN_sub (d := S) (by omega) (by omega), show S + k - S = k by omega]
          show iN 5 * iN k = _
          rw [iN_mul]
        rw [eL, eS, cBy_e2 lL (by omega), e1, iN_one]
        exact ih (k + 1) (by omega)
  refine w20 ?_
  rw [eS]
  exact key (min (E - S) 5) 0 (by omega)
noncomputable def f20 : gD := fun Lv σ => match Lv with
  | [some (.ref q0), none, none] => cond (Nat.beq q0 1) (some (some (RW σ ∧ (0 ≤ σ 1 3 ∧ σ 1 3 ≤ 1001)), some (.int (cPk (σ 3) (σ 2 1).toNatClampNeg (σ 1 2).toNatClampNeg (min ((σ 1 3).toNatClampNeg - (σ 1 2).toNatClampNeg) 5))), σ)) none
  | _ => none
theorem ok20 : gFok 20 f20 := by
  intro Lv σ q h hc K hK
  unfold f20 at h
  split at h
  · rename_i q0
    obtain ⟨hb, h⟩ := c_no h
    have hb0 := hb
    have e0 := b_eq hb0
    subst e0
    cases h
    exact s20 (hc _ rfl) hK
  · cases h
noncomputable def gpdk_l : List (Nat × gD) := (19, f19) :: (20, f20) :: gpdj_l
noncomputable def gpdk : gP := gpl0 gpdk_l
theorem gpdk_ok : gPok gpdk := gpl0_cons ok19 (gpl0_cons ok20 (gpdj_ok))
