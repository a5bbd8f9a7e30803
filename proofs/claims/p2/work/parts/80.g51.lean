/-! THE CLASS: words -/
abbrev RW (σ : gS) : Prop := (0 ≤ σ 2 1 ∧ σ 2 1 ≤ 1000) ∧ (0 ≤ σ 1 2 ∧ σ 1 2 ≤ 1000)
theorem RW_n {σ : gS} (h : RW σ) : ∃ L S, σ 2 1 = iN L ∧ σ 1 2 = iN S ∧ L ≤ 1000 ∧ S ≤ 1000 ∧ (σ 2 1).toNatClampNeg = L ∧ (σ 1 2).toNatClampNeg = S := by
  obtain ⟨eL, lL⟩ := l1000 h.1
  obtain ⟨eS, lS⟩ := l1000 h.2
  exact ⟨_, _, eL, eS, lL, lS, rfl, rfl⟩
theorem cBy_e2 {T : gW} {L s : Nat} (hL : L ≤ 1000) (hs : s ≤ 100000) : (if 0 ≤ iN s ∧ iN s < iN L then T (iN s).toNatClampNeg else -1) = cBy T L s := by
  rw [iN_nat (by omega)]
  unfold cBy
  have e : (0 ≤ iN s ∧ iN s < iN L) ↔ s < L := by
    rw [iN_lt (by omega) (by omega)]
    exact ⟨fun h => h.2, fun h => ⟨(iN_le (k := 0) (by decide) (by omega)).mpr (by omega), h⟩⟩
  simp only [e]
/-- the bytes of a word of the class -/
def jW (p : Nat) : List Int32 := jv_byt.getD (p - 1000001) []
/-- the token is that word -/
abbrev cWd (σ : gS) (B : List Int32) : Prop := σ 1 4 = 2 ∧ σ 1 3 - σ 1 2 = iN B.length ∧ ∀ i, i < B.length → cBy (σ 3) (σ 2 1).toNatClampNeg ((σ 1 2).toNatClampNeg + i) = B.getD i 0
theorem bI_y {P : Prop} [Decidable P] (h : P) : bI P = 1 := if_pos h
theorem bI_n {P : Prop} [Decidable P] (h : ¬ P) : bI P = 0 := if_neg h
set_option maxRecDepth 20000 in
theorem w17_1000001 {σ : gS} {K : gK} (h : ((¬ (σ 1 4) = 2 → ((0 : Int32) = 0 ∨ (0 : Int32) = 1) ∧ K (some (.int 0)) σ) ∧ ((σ 1 4) = 2 → ((((σ 1 3) - (σ 1 2)) = 5 → gE 17 28 [some (.ref 1), some (.ref 1000001), some (.int 0)] [] σ K) ∧ (¬ ((σ 1 3) - (σ 1 2)) = 5 → ((0 : Int32) = 0 ∨ (0 : Int32) = 1) ∧ K (some (.int 0)) σ))))) : gE 17 0 [some (.ref 1), some (.ref 1000001), none] [] σ K :=
  gw_run (cy := 17) (cuts := [28]) (inl := []) (pf := gpdh) gpdh_ok 400 (by decide) h
set_option maxRecDepth 20000 in
theorem v17_1000001 {σ : gS} {K : gK} {k : Int32} (h : ((¬ k < 5 → ((1 : Int32) = 0 ∨ (1 : Int32) = 1) ∧ K (some (.int 1)) σ) ∧ (k < 5 → (σ 2 1 ≤ 1000) ∧ (0 ≤ k ∧ k < 5) ∧ (((if 0 ≤ ((σ 1 2) + k) ∧ ((σ 1 2) + k) < σ 2 1 then σ 3 ((σ 1 2) + k).toNatClampNeg else -1) = ((jv_byt.getD 0 []).getD k.toNatClampNeg 0) → gE 17 28 [some (.ref 1), some (.ref 1000001), some (.int (k + 1))] [] σ K) ∧ (¬ (if 0 ≤ ((σ 1 2) + k) ∧ ((σ 1 2) + k) < σ 2 1 then σ 3 ((σ 1 2) + k).toNatClampNeg else -1) = ((jv_byt.getD 0 []).getD k.toNatClampNeg 0) → ((0 : Int32) = 0 ∨ (0 : Int32) = 1) ∧ K (some (.int 0)) σ))))) : gE 17 28 [some (.ref 1), some (.ref 1000001), some (.int k)] [] σ K :=
  gw_run (cy := 17) (cuts := [28]) (inl := []) (pf := gpdh) gpdh_ok 400 (by decide) h
theorem s17_1000001 {σ : gS} {K : gK} (hc : RW σ) (hK : K (some (.int (bI (cWd σ (jW 1000001))))) σ) : gE 17 0 [some (.ref 1), some (.ref 1000001), none] [] σ K := by
  obtain ⟨L, S, eL, eS, lL, lS, nL, nS⟩ := RW_n hc
  obtain ⟨N, hN⟩ : ∃ N, (jW 1000001).length = N := ⟨_, rfl⟩
  have l10 : N ≤ 10 := by rw [← hN]; decide
  have eN : N = (jW 1000001).length := hN.symm
  have lN : (jW 1000001).length = (jW 1000001).length := rfl
  have iL : ∀ k : Nat, k ≤ 10 → (iN k < iN N ↔ k < N) := fun k hk => iN_lt (by omega) (by omega)
  have no : ¬ cWd σ (jW 1000001) → K (some (.int 0)) σ := fun h => by rw [bI_n h] at hK; exact hK
  have hlit : iN N = iN (jW 1000001).length := by rw [hN]
  have key : ∀ d k, k + d = N → σ 1 4 = 2 → σ 1 3 - σ 1 2 = iN N → (∀ i, i < k → cBy (σ 3) L (S + i) = (jW 1000001).getD i 0) → gE 17 28 [some (.ref 1), some (.ref 1000001), some (.int (iN k))] [] σ K := by
    intro d
    induction d with
    | zero =>
      intro k hk h1 h2 h3
      have : k = N := by omega
      subst this
      refine v17_1000001 ⟨fun _ => ⟨Or.inr rfl, ?_⟩, fun h => ?_⟩
      · have yes : cWd σ (jW 1000001) := by
          refine ⟨h1, by rw [hN]; exact h2, fun i hi => ?_⟩
          rw [nL, nS]
          exact h3 i (by omega)
        rw [bI_y yes] at hK
        exact hK
      · have q : iN k < iN k := by rw [hlit] at h ⊢; exact h
        exact absurd ((iN_lt (by omega) (by omega)).mp q) (by omega)
    | succ d ih =>
      intro k hk h1 h2 h3
      have hkN : k < N := by omega
      have qk : iN k < iN N := (iL k (by omega)).mpr hkN
      refine v17_1000001 ⟨fun h => ?_, fun h => ⟨hc.1.2, ⟨(iN_le (k := 0) (by decide) (by omega)).mpr (by omega), h⟩, fun h4 => ?_, fun h4 => ?_⟩⟩
      · exact absurd (by rw [hlit] at qk; exact qk) h
      · rw [eL, eS, iN_add, cBy_e2 lL (by omega), iN_nat (by omega)] at h4
        rw [iN_one]
        refine ih (k + 1) (by omega) h1 h2 (fun i hi => ?_)
        by_cases e : i = k
        · subst e; exact h4
        · exact h3 i (by omega)
      · rw [eL, eS, iN_add, cBy_e2 lL (by omega), iN_nat (by omega)] at h4
        refine ⟨Or.inl rfl, no (fun q => h4 ?_)⟩
        have := q.2.2 k (by omega)
        rw [nL, nS] at this
        exact this
  refine w17_1000001 ⟨fun h => ⟨Or.inl rfl, no (fun q => h q.1)⟩, fun h => ⟨fun h2 => ?_, fun h2 => ⟨Or.inl rfl, no (fun q => h2 (q.2.1))⟩⟩⟩
  exact key N 0 (by omega) h (by rw [hlit]; exact h2) (fun i hi => absurd hi (Nat.not_lt_zero _))
set_option maxRecDepth 20000 in
theorem w17_1000002 {σ : gS} {K : gK} (h : ((¬ (σ 1 4) = 2 → ((0 : Int32) = 0 ∨ (0 : Int32) = 1) ∧ K (some (.int 0)) σ) ∧ ((σ 1 4) = 2 → ((((σ 1 3) - (σ 1 2)) = 5 → gE 17 28 [some (.ref 1), some (.ref 1000002), some (.int 0)] [] σ K) ∧ (¬ ((σ 1 3) - (σ 1 2)) = 5 → ((0 : Int32) = 0 ∨ (0 : Int32) = 1) ∧ K (some (.int 0)) σ))))) : gE 17 0 [some (.ref 1), some (.ref 1000002), none] [] σ K :=
  gw_run (cy := 17) (cuts := [28]) (inl := []) (pf := gpdh) gpdh_ok 400 (by decide) h
set_option maxRecDepth 20000 in
theorem v17_1000002 {σ : gS} {K : gK} {k : Int32} (h : ((¬ k < 5 → ((1 : Int32) = 0 ∨ (1 : Int32) = 1) ∧ K (some (.int 1)) σ) ∧ (k < 5 → (σ 2 1 ≤ 1000) ∧ (0 ≤ k ∧ k < 5) ∧ (((if 0 ≤ ((σ 1 2) + k) ∧ ((σ 1 2) + k) < σ 2 1 then σ 3 ((σ 1 2) + k).toNatClampNeg else -1) = ((jv_byt.getD 1 []).getD k.toNatClampNeg 0) → gE 17 28 [some (.ref 1), some (.ref 1000002), some (.int (k + 1))] [] σ K) ∧ (¬ (if 0 ≤ ((σ 1 2) + k) ∧ ((σ 1 2) + k) < σ 2 1 then σ 3 ((σ 1 2) + k).toNatClampNeg else -1) = ((jv_byt.getD 1 []).getD k.toNatClampNeg 0) → ((0 : Int32) = 0 ∨ (0 : Int32) = 1) ∧ K (some (.int 0)) σ))))) : gE 17 28 [some (.ref 1), some (.ref 1000002), some (.int k)] [] σ K :=
  gw_run (cy := 17) (cuts := [28]) (inl := []) (pf := gpdh) gpdh_ok 400 (by decide) h
theorem s17_1000002 {σ : gS} {K : gK} (hc : RW σ) (hK : K (some (.int (bI (cWd σ (jW 1000002))))) σ) : gE 17 0 [some (.ref 1), some (.ref 1000002), none] [] σ K := by
  obtain ⟨L, S, eL, eS, lL, lS, nL, nS⟩ := RW_n hc
  obtain ⟨N, hN⟩ : ∃ N, (jW 1000002).length = N := ⟨_, rfl⟩
  have l10 : N ≤ 10 := by rw [← hN]; decide
  have eN : N = (jW 1000002).length := hN.symm
  have lN : (jW 1000002).length = (jW 1000002).length := rfl
  have iL : ∀ k : Nat, k ≤ 10 → (iN k < iN N ↔ k < N) := fun k hk => iN_lt (by omega) (by omega)
  have no : ¬ cWd σ (jW 1000002) → K (some (.int 0)) σ := fun h => by rw [bI_n h] at hK; exact hK
  have hlit : iN N = iN (jW 1000002).length := by rw [hN]
  have key : ∀ d k, k + d = N → σ 1 4 = 2 → σ 1 3 - σ 1 2 = iN N → (∀ i, i < k → cBy (σ 3) L (S + i) = (jW 1000002).getD i 0) → gE 17 28 [some (.ref 1), some (.ref 1000002), some (.int (iN k))] [] σ K := by
    intro d
    induction d with
    | zero =>
      intro k hk h1 h2 h3
      have : k = N := by omega
      subst this
      refine v17_1000002 ⟨fun _ => ⟨Or.inr rfl, ?_⟩, fun h => ?_⟩
      · have yes : cWd σ (jW 1000002) := by
          refine ⟨h1, by rw [hN]; exact h2, fun i hi => ?_⟩
          rw [nL, nS]
          exact h3 i (by omega)
        rw [bI_y yes] at hK
        exact hK
      · have q : iN k < iN k := by rw [hlit] at h ⊢; exact h
        exact absurd ((iN_lt (by omega) (by omega)).mp q) (by omega)
    | succ d ih =>
      intro k hk h1 h2 h3
      have hkN : k < N := by omega
      have qk : iN k < iN N := (iL k (by omega)).mpr hkN
      refine v17_1000002 ⟨fun h => ?_, fun h => ⟨hc.1.2, ⟨(iN_le (k := 0) (by decide) (by omega)).mpr (by omega), h⟩, fun h4 => ?_, fun h4 => ?_⟩⟩
      · exact absurd (by rw [hlit] at qk; exact qk) h
      · rw [eL, eS, iN_add, cBy_e2 lL (by omega), iN_nat (by omega)] at h4
        rw [iN_one]
        refine ih (k + 1) (by omega) h1 h2 (fun i hi => ?_)
        by_cases e : i = k
        · subst e; exact h4
        · exact h3 i (by omega)
      · rw [eL, eS, iN_add, cBy_e2 lL (by omega), iN_nat (by omega)] at h4
        refine ⟨Or.inl rfl, no (fun q => h4 ?_)⟩
        have := q.2.2 k (by omega)
        rw [nL, nS] at this
        exact this
  refine w17_1000002 ⟨fun h => ⟨Or.inl rfl, no (fun q => h q.1)⟩, fun h => ⟨fun h2 => ?_, fun h2 => ⟨Or.inl rfl, no (fun q => h2 (q.2.1))⟩⟩⟩
  exact key N 0 (by omega) h (by rw [hlit]; exact h2) (fun i hi => absurd hi (Nat.not_lt_zero _))
set_option maxRecDepth 20000 in
theorem w17_1000003 {σ : gS} {K : gK} (h : ((¬ (σ 1 4) = 2 → ((0 : Int32) = 0 ∨ (0 : Int32) = 1) ∧ K (some (.int 0)) σ) ∧ ((σ 1 4) = 2 → ((((σ 1 3) - (σ 1 2)) = 4 → gE 17 28 [some (.ref 1), some (.ref 1000003), some (.int 0)] [] σ K) ∧ (¬ ((σ 1 3) - (σ 1 2)) = 4 → ((0 : Int32) = 0 ∨ (0 : Int32) = 1) ∧ K (some (.int 0)) σ))))) : gE 17 0 [some (.ref 1), some (.ref 1000003), none] [] σ K :=
  gw_run (cy := 17) (cuts := [28]) (inl := []) (pf := gpdh) gpdh_ok 400 (by decide) h
set_option maxRecDepth 20000 in
theorem v17_1000003 {σ : gS} {K : gK} {k : Int32} (h : ((¬ k < 4 → ((1 : Int32) = 0 ∨ (1 : Int32) = 1) ∧ K (some (.int 1)) σ) ∧ (k < 4 → (σ 2 1 ≤ 1000) ∧ (0 ≤ k ∧ k < 4) ∧ (((if 0 ≤ ((σ 1 2) + k) ∧ ((σ 1 2) + k) < σ 2 1 then σ 3 ((σ 1 2) + k).toNatClampNeg else -1) = ((jv_byt.getD 2 []).getD k.toNatClampNeg 0) → gE 17 28 [some (.ref 1), some (.ref 1000003), some (.int (k + 1))] [] σ K) ∧ (¬ (if 0 ≤ ((σ 1 2) + k) ∧ ((σ 1 2) + k) < σ 2 1 then σ 3 ((σ 1 2) + k).toNatClampNeg else -1) = ((jv_byt.getD 2 []).getD k.toNatClampNeg 0) → ((0 : Int32) = 0 ∨ (0 : Int32) = 1) ∧ K (some (.int 0)) σ))))) : gE 17 28 [some (.ref 1), some (.ref 1000003), some (.int k)] [] σ K :=
  gw_run (cy := 17) (cuts := [28]) (inl := []) (pf := gpdh) gpdh_ok 400 (by decide) h
theorem s17_1000003 {σ : gS} {K : gK} (hc : RW σ) (hK : K (some (.int (bI (cWd σ (jW 1000003))))) σ) : gE 17 0 [some (.ref 1), some (.ref 1000003), none] [] σ K := by
  obtain ⟨L, S, eL, eS, lL, lS, nL, nS⟩ := RW_n hc
  obtain ⟨N, hN⟩ : ∃ N, (jW 1000003).length = N := ⟨_, rfl⟩
  have l10 : N ≤ 10 := by rw [← hN]; decide
  have eN : N = (jW 1000003).length := hN.symm
  have lN : (jW 1000003).length = (jW 1000003).length := rfl
  have iL : ∀ k : Nat, k ≤ 10 → (iN k < iN N ↔ k < N) := fun k hk => iN_lt (by omega) (by omega)
  have no : ¬ cWd σ (jW 1000003) → K (some (.int 0)) σ := fun h => by rw [bI_n h] at hK; exact hK
  have hlit : iN N = iN (jW 1000003).length := by rw [hN]
  have key : ∀ d k, k + d = N → σ 1 4 = 2 → σ 1 3 - σ 1 2 = iN N → (∀ i, i < k → cBy (σ 3) L (S + i) = (jW 1000003).getD i 0) → gE 17 28 [some (.ref 1), some (.ref 1000003), some (.int (iN k))] [] σ K := by
    intro d
    induction d with
    | zero =>
      intro k hk h1 h2 h3
      have : k = N := by omega
      subst this
      refine v17_1000003 ⟨fun _ => ⟨Or.inr rfl, ?_⟩, fun h => ?_⟩
      · have yes : cWd σ (jW 1000003) := by
          refine ⟨h1, by rw [hN]; exact h2, fun i hi => ?_⟩
          rw [nL, nS]
          exact h3 i (by omega)
        rw [bI_y yes] at hK
        exact hK
      · have q : iN k < iN k := by rw [hlit] at h ⊢; exact h
        exact absurd ((iN_lt (by omega) (by omega)).mp q) (by omega)
    | succ d ih =>
      intro k hk h1 h2 h3
      have hkN : k < N := by omega
      have qk : iN k < iN N := (iL k (by omega)).mpr hkN
      refine v17_1000003 ⟨fun h => ?_, fun h => ⟨hc.1.2, ⟨(iN_le (k := 0) (by decide) (by omega)).mpr (by omega), h⟩, fun h4 => ?_, fun h4 => ?_⟩⟩
      · exact absurd (by rw [hlit] at qk; exact qk) h
      · rw [eL, eS, iN_add, cBy_e2 lL (by omega), iN_nat (by omega)] at h4
        rw [iN_one]
        refine ih (k + 1) (by omega) h1 h2 (fun i hi => ?_)
        by_cases e : i = k
        · subst e; exact h4
        · exact h3 i (by omega)
      · rw [eL, eS, iN_add, cBy_e2 lL (by omega), iN_nat (by omega)] at h4
        refine ⟨Or.inl rfl, no (fun q => h4 ?_)⟩
        have := q.2.2 k (by omega)
        rw [nL, nS] at this
        exact this
  refine w17_1000003 ⟨fun h => ⟨Or.inl rfl, no (fun q => h q.1)⟩, fun h => ⟨fun h2 => ?_, fun h2 => ⟨Or.inl rfl, no (fun q => h2 (q.2.1))⟩⟩⟩
  exact key N 0 (by omega) h (by rw [hlit]; exact h2) (fun i hi => absurd hi (Nat.not_lt_zero _))
set_option maxRecDepth 20000 in
theorem w17_1000004 {σ : gS} {K : gK} (h : ((¬ (σ 1 4) = 2 → ((0 : Int32) = 0 ∨ (0 : Int32) = 1) ∧ K (some (.int 0)) σ) ∧ ((σ 1 4) = 2 → ((((σ 1 3) - (σ 1 2)) = 6 → gE 17 28 [some (.ref 1), some (.ref 1000004), some (.int 0)] [] σ K) ∧ (¬ ((σ 1 3) - (σ 1 2)) = 6 → ((0 : Int32) = 0 ∨ (0 : Int32) = 1) ∧ K (some (.int 0)) σ))))) : gE 17 0 [some (.ref 1), some (.ref 1000004), none] [] σ K :=
  gw_run (cy := 17) (cuts := [28]) (inl := []) (pf := gpdh) gpdh_ok 400 (by decide) h
set_option maxRecDepth 20000 in
theorem v17_1000004 {σ : gS} {K : gK} {k : Int32} (h : ((¬ k < 6 → ((1 : Int32) = 0 ∨ (1 : Int32) = 1) ∧ K (some (.int 1)) σ) ∧ (k < 6 → (σ 2 1 ≤ 1000) ∧ (0 ≤ k ∧ k < 6) ∧ (((if 0 ≤ ((σ 1 2) + k) ∧ ((σ 1 2) + k) < σ 2 1 then σ 3 ((σ 1 2) + k).toNatClampNeg else -1) = ((jv_byt.getD 3 []).getD k.toNatClampNeg 0) → gE 17 28 [some (.ref 1), some (.ref 1000004), some (.int (k + 1))] [] σ K) ∧ (¬ (if 0 ≤ ((σ 1 2) + k) ∧ ((σ 1 2) + k) < σ 2 1 then σ 3 ((σ 1 2) + k).toNatClampNeg else -1) = ((jv_byt.getD 3 []).getD k.toNatClampNeg 0) → ((0 : Int32) = 0 ∨ (0 : Int32) = 1) ∧ K (some (.int 0)) σ))))) : gE 17 28 [some (.ref 1), some (.ref 1000004), some (.int k)] [] σ K :=
  gw_run (cy := 17) (cuts := [28]) (inl := []) (pf := gpdh) gpdh_ok 400 (by decide) h
theorem s17_1000004 {σ : gS} {K : gK} (hc : RW σ) (hK : K (some (.int (bI (cWd σ (jW 1000004))))) σ) : gE 17 0 [some (.ref 1), some (.ref 1000004), none] [] σ K := by
  obtain ⟨L, S, eL, eS, lL, lS, nL, nS⟩ := RW_n hc
  obtain ⟨N, hN⟩ : ∃ N, (jW 1000004).length = N := ⟨_, rfl⟩
  have l10 : N ≤ 10 := by rw [← hN]; decide
  have eN : N = (jW 1000004).length := hN.symm
  have lN : (jW 1000004).length = (jW 1000004).length := rfl
  have iL : ∀ k : Nat, k ≤ 10 → (iN k < iN N ↔ k < N) := fun k hk => iN_lt (by omega) (by omega)
  have no : ¬ cWd σ (jW 1000004) → K (some (.int 0)) σ := fun h => by rw [bI_n h] at hK; exact hK
  have hlit : iN N = iN (jW 1000004).length := by rw [hN]
  have key : ∀ d k, k + d = N → σ 1 4 = 2 → σ 1 3 - σ 1 2 = iN N → (∀ i, i < k → cBy (σ 3) L (S + i) = (jW 1000004).getD i 0) → gE 17 28 [some (.ref 1), some (.ref 1000004), some (.int (iN k))] [] σ K := by
    intro d
    induction d with
    | zero =>
      intro k hk h1 h2 h3
      have : k = N := by omega
      subst this
      refine v17_1000004 ⟨fun _ => ⟨Or.inr rfl, ?_⟩, fun h => ?_⟩
      · have yes : cWd σ (jW 1000004) := by
          refine ⟨h1, by rw [hN]; exact h2, fun i hi => ?_⟩
          rw [nL, nS]
          exact h3 i (by omega)
        rw [bI_y yes] at hK
        exact hK
      · have q : iN k < iN k := by rw [hlit] at h ⊢; exact h
        exact absurd ((iN_lt (by omega) (by omega)).mp q) (by omega)
    | succ d ih =>
      intro k hk h1 h2 h3
      have hkN : k < N := by omega
      have qk : iN k < iN N := (iL k (by omega)).mpr hkN
      refine v17_1000004 ⟨fun h => ?_, fun h => ⟨hc.1.2, ⟨(iN_le (k := 0) (by decide) (by omega)).mpr (by omega), h⟩, fun h4 => ?_, fun h4 => ?_⟩⟩
      · exact absurd (by rw [hlit] at qk; exact qk) h
      · rw [eL, eS, iN_add, cBy_e2 lL (by omega), iN_nat (by omega)] at h4
        rw [iN_one]
        refine ih (k + 1) (by omega) h1 h2 (fun i hi => ?_)
        by_cases e : i = k
        · subst e; exact h4
        · exact h3 i (by omega)
      · rw [eL, eS, iN_add, cBy_e2 lL (by omega), iN_nat (by omega)] at h4
        refine ⟨Or.inl rfl, no (fun q => h4 ?_)⟩
        have := q.2.2 k (by omega)
        rw [nL, nS] at this
        exact this
  refine w17_1000004 ⟨fun h => ⟨Or.inl rfl, no (fun q => h q.1)⟩, fun h => ⟨fun h2 => ?_, fun h2 => ⟨Or.inl rfl, no (fun q => h2 (q.2.1))⟩⟩⟩
  exact key N 0 (by omega) h (by rw [hlit]; exact h2) (fun i hi => absurd hi (Nat.not_lt_zero _))
set_option maxRecDepth 20000 in
theorem w17_1000005 {σ : gS} {K : gK} (h : ((¬ (σ 1 4) = 2 → ((0 : Int32) = 0 ∨ (0 : Int32) = 1) ∧ K (some (.int 0)) σ) ∧ ((σ 1 4) = 2 → ((((σ 1 3) - (σ 1 2)) = 6 → gE 17 28 [some (.ref 1), some (.ref 1000005), some (.int 0)] [] σ K) ∧ (¬ ((σ 1 3) - (σ 1 2)) = 6 → ((0 : Int32) = 0 ∨ (0 : Int32) = 1) ∧ K (some (.int 0)) σ))))) : gE 17 0 [some (.ref 1), some (.ref 1000005), none] [] σ K :=
  gw_run (cy := 17) (cuts := [28]) (inl := []) (pf := gpdh) gpdh_ok 400 (by decide) h
set_option maxRecDepth 20000 in
theorem v17_1000005 {σ : gS} {K : gK} {k : Int32} (h : ((¬ k < 6 → ((1 : Int32) = 0 ∨ (1 : Int32) = 1) ∧ K (some (.int 1)) σ) ∧ (k < 6 → (σ 2 1 ≤ 1000) ∧ (0 ≤ k ∧ k < 6) ∧ (((if 0 ≤ ((σ 1 2) + k) ∧ ((σ 1 2) + k) < σ 2 1 then σ 3 ((σ 1 2) + k).toNatClampNeg else -1) = ((jv_byt.getD 4 []).getD k.toNatClampNeg 0) → gE 17 28 [some (.ref 1), some (.ref 1000005), some (.int (k + 1))] [] σ K) ∧ (¬ (if 0 ≤ ((σ 1 2) + k) ∧ ((σ 1 2) + k) < σ 2 1 then σ 3 ((σ 1 2) + k).toNatClampNeg else -1) = ((jv_byt.getD 4 []).getD k.toNatClampNeg 0) → ((0 : Int32) = 0 ∨ (0 : Int32) = 1) ∧ K (some (.int 0)) σ))))) : gE 17 28 [some (.ref 1), some (.ref 1000005), some (.int k)] [] σ K :=
  gw_run (cy := 17) (cuts := [28]) (inl := []) (pf := gpdh) gpdh_ok 400 (by decide) h
theorem s17_1000005 {σ : gS} {K : gK} (hc : RW σ) (hK : K (some (.int (bI (cWd σ (jW 1000005))))) σ) : gE 17 0 [some (.ref 1), some (.ref 1000005), none] [] σ K := by
  obtain ⟨L, S, eL, eS, lL, lS, nL, nS⟩ := RW_n hc
  obtain ⟨N, hN⟩ : ∃ N, (jW 1000005).length = N := ⟨_, rfl⟩
  have l10 : N ≤ 10 := by rw [← hN]; decide
  have eN : N = (jW 1000005).length := hN.symm
  have lN : (jW 1000005).length = (jW 1000005).length := rfl
  have iL : ∀ k : Nat, k ≤ 10 → (iN k < iN N ↔ k < N) := fun k hk => iN_lt (by omega) (by omega)
  have no : ¬ cWd σ (jW 1000005) → K (some (.int 0)) σ := fun h => by rw [bI_n h] at hK; exact hK
  have hlit : iN N = iN (jW 1000005).length := by rw [hN]
  have key : ∀ d k, k + d = N → σ 1 4 = 2 → σ 1 3 - σ 1 2 = iN N → (∀ i, i < k → cBy (σ 3) L (S + i) = (jW 1000005).getD i 0) → gE 17 28 [some (.ref 1), some (.ref 1000005), some (.int (iN k))] [] σ K := by
    intro d
    induction d with
    | zero =>
      intro k hk h1 h2 h3
      have : k = N := by omega
      subst this
      refine v17_1000005 ⟨fun _ => ⟨Or.inr rfl, ?_⟩, fun h => ?_⟩
      · have yes : cWd σ (jW 1000005) := by
          refine ⟨h1, by rw [hN]; exact h2, fun i hi => ?_⟩
          rw [nL, nS]
          exact h3 i (by omega)
        rw [bI_y yes] at hK
        exact hK
      · have q : iN k < iN k := by rw [hlit] at h ⊢; exact h
        exact absurd ((iN_lt (by omega) (by omega)).mp q) (by omega)
    | succ d ih =>
      intro k hk h1 h2 h3
      have hkN : k < N := by omega
      have qk : iN k < iN N := (iL k (by omega)).mpr hkN
      refine v17_1000005 ⟨fun h => ?_, fun h => ⟨hc.1.2, ⟨(iN_le (k := 0) (by decide) (by omega)).mpr (by omega), h⟩, fun h4 => ?_, fun h4 => ?_⟩⟩
      · exact absurd (by rw [hlit] at qk; exact qk) h
      · rw [eL, eS, iN_add, cBy_e2 lL (by omega), iN_nat (by omega)] at h4
        rw [iN_one]
        refine ih (k + 1) (by omega) h1 h2 (fun i hi => ?_)
        by_cases e : i = k
        · subst e; exact h4
        · exact h3 i (by omega)
      · rw [eL, eS, iN_add, cBy_e2 lL (by omega), iN_nat (by omega)] at h4
        refine ⟨Or.inl rfl, no (fun q => h4 ?_)⟩
        have := q.2.2 k (by omega)
        rw [nL, nS] at this
        exact this
  refine w17_1000005 ⟨fun h => ⟨Or.inl rfl, no (fun q => h q.1)⟩, fun h => ⟨fun h2 => ?_, fun h2 => ⟨Or.inl rfl, no (fun q => h2 (q.2.1))⟩⟩⟩
  exact key N 0 (by omega) h (by rw [hlit]; exact h2) (fun i hi => absurd hi (Nat.not_lt_zero _))
set_option maxRecDepth 20000 in
theorem w17_1000006 {σ : gS} {K : gK} (h : ((¬ (σ 1 4) = 2 → ((0 : Int32) = 0 ∨ (0 : Int32) = 1) ∧ K (some (.int 0)) σ) ∧ ((σ 1 4) = 2 → ((((σ 1 3) - (σ 1 2)) = 6 → gE 17 28 [some (.ref 1), some (.ref 1000006), some (.int 0)] [] σ K) ∧ (¬ ((σ 1 3) - (σ 1 2)) = 6 → ((0 : Int32) = 0 ∨ (0 : Int32) = 1) ∧ K (some (.int 0)) σ))))) : gE 17 0 [some (.ref 1), some (.ref 1000006), none] [] σ K :=
  gw_run (cy := 17) (cuts := [28]) (inl := []) (pf := gpdh) gpdh_ok 400 (by decide) h
set_option maxRecDepth 20000 in
theorem v17_1000006 {σ : gS} {K : gK} {k : Int32} (h : ((¬ k < 6 → ((1 : Int32) = 0 ∨ (1 : Int32) = 1) ∧ K (some (.int 1)) σ) ∧ (k < 6 → (σ 2 1 ≤ 1000) ∧ (0 ≤ k ∧ k < 6) ∧ (((if 0 ≤ ((σ 1 2) + k) ∧ ((σ 1 2) + k) < σ 2 1 then σ 3 ((σ 1 2) + k).toNatClampNeg else -1) = ((jv_byt.getD 5 []).getD k.toNatClampNeg 0) → gE 17 28 [some (.ref 1), some (.ref 1000006), some (.int (k + 1))] [] σ K) ∧ (¬ (if 0 ≤ ((σ 1 2) + k) ∧ ((σ 1 2) + k) < σ 2 1 then σ 3 ((σ 1 2) + k).toNatClampNeg else -1) = ((jv_byt.getD 5 []).getD k.toNatClampNeg 0) → ((0 : Int32) = 0 ∨ (0 : Int32) = 1) ∧ K (some (.int 0)) σ))))) : gE 17 28 [some (.ref 1), some (.ref 1000006), some (.int k)] [] σ K :=
  gw_run (cy := 17) (cuts := [28]) (inl := []) (pf := gpdh) gpdh_ok 400 (by decide) h
theorem s17_1000006 {σ : gS} {K : gK} (hc : RW σ) (hK : K (some (.int (bI (cWd σ (jW 1000006))))) σ) : gE 17 0 [some (.ref 1), some (.ref 1000006), none] [] σ K := by
  obtain ⟨L, S, eL, eS, lL, lS, nL, nS⟩ := RW_n hc
  obtain ⟨N, hN⟩ : ∃ N, (jW 1000006).length = N := ⟨_, rfl⟩
  have l10 : N ≤ 10 := by rw [← hN]; decide
  have eN : N = (jW 1000006).length := hN.symm
  have lN : (jW 1000006).length = (jW 1000006).length := rfl
  have iL : ∀ k : Nat, k ≤ 10 → (iN k < iN N ↔ k < N) := fun k hk => iN_lt (by omega) (by omega)
  have no : ¬ cWd σ (jW 1000006) → K (some (.int 0)) σ := fun h => by rw [bI_n h] at hK; exact hK
  have hlit : iN N = iN (jW 1000006).length := by rw [hN]
  have key : ∀ d k, k + d = N → σ 1 4 = 2 → σ 1 3 - σ 1 2 = iN N → (∀ i, i < k → cBy (σ 3) L (S + i) = (jW 1000006).getD i 0) → gE 17 28 [some (.ref 1), some (.ref 1000006), some (.int (iN k))] [] σ K := by
    intro d
    induction d with
    | zero =>
      intro k hk h1 h2 h3
      have : k = N := by omega
      subst this
      refine v17_1000006 ⟨fun _ => ⟨Or.inr rfl, ?_⟩, fun h => ?_⟩
      · have yes : cWd σ (jW 1000006) := by
          refine ⟨h1, by rw [hN]; exact h2, fun i hi => ?_⟩
          rw [nL, nS]
          exact h3 i (by omega)
        rw [bI_y yes] at hK
        exact hK
      · have q : iN k < iN k := by rw [hlit] at h ⊢; exact h
        exact absurd ((iN_lt (by omega) (by omega)).mp q) (by omega)
    | succ d ih =>
      intro k hk h1 h2 h3
      have hkN : k < N := by omega
      have qk : iN k < iN N := (iL k (by omega)).mpr hkN
      refine v17_1000006 ⟨fun h => ?_, fun h => ⟨hc.1.2, ⟨(iN_le (k := 0) (by decide) (by omega)).mpr (by omega), h⟩, fun h4 => ?_, fun h4 => ?_⟩⟩
      · exact absurd (by rw [hlit] at qk; exact qk) h
      · rw [eL, eS, iN_add, cBy_e2 lL (by omega), iN_nat (by omega)] at h4
        rw [iN_one]
        refine ih (k + 1) (by omega) h1 h2 (fun i hi => ?_)
        by_cases e : i = k
        · subst e; exact h4
        · exact h3 i (by omega)
      · rw [eL, eS, iN_add, cBy_e2 lL (by omega), iN_nat (by omega)] at h4
        refine ⟨Or.inl rfl, no (fun q => h4 ?_)⟩
        have := q.2.2 k (by omega)
        rw [nL, nS] at this
        exact this
  refine w17_1000006 ⟨fun h => ⟨Or.inl rfl, no (fun q => h q.1)⟩, fun h => ⟨fun h2 => ?_, fun h2 => ⟨Or.inl rfl, no (fun q => h2 (q.2.1))⟩⟩⟩
  exact key N 0 (by omega) h (by rw [hlit]; exact h2) (fun i hi => absurd hi (Nat.not_lt_zero _))
set_option maxRecDepth 20000 in
theorem w17_1000007 {σ : gS} {K : gK} (h : ((¬ (σ 1 4) = 2 → ((0 : Int32) = 0 ∨ (0 : Int32) = 1) ∧ K (some (.int 0)) σ) ∧ ((σ 1 4) = 2 → ((((σ 1 3) - (σ 1 2)) = 5 → gE 17 28 [some (.ref 1), some (.ref 1000007), some (.int 0)] [] σ K) ∧ (¬ ((σ 1 3) - (σ 1 2)) = 5 → ((0 : Int32) = 0 ∨ (0 : Int32) = 1) ∧ K (some (.int 0)) σ))))) : gE 17 0 [some (.ref 1), some (.ref 1000007), none] [] σ K :=
  gw_run (cy := 17) (cuts := [28]) (inl := []) (pf := gpdh) gpdh_ok 400 (by decide) h
set_option maxRecDepth 20000 in
theorem v17_1000007 {σ : gS} {K : gK} {k : Int32} (h : ((¬ k < 5 → ((1 : Int32) = 0 ∨ (1 : Int32) = 1) ∧ K (some (.int 1)) σ) ∧ (k < 5 → (σ 2 1 ≤ 1000) ∧ (0 ≤ k ∧ k < 5) ∧ (((if 0 ≤ ((σ 1 2) + k) ∧ ((σ 1 2) + k) < σ 2 1 then σ 3 ((σ 1 2) + k).toNatClampNeg else -1) = ((jv_byt.getD 6 []).getD k.toNatClampNeg 0) → gE 17 28 [some (.ref 1), some (.ref 1000007), some (.int (k + 1))] [] σ K) ∧ (¬ (if 0 ≤ ((σ 1 2) + k) ∧ ((σ 1 2) + k) < σ 2 1 then σ 3 ((σ 1 2) + k).toNatClampNeg else -1) = ((jv_byt.getD 6 []).getD k.toNatClampNeg 0) → ((0 : Int32) = 0 ∨ (0 : Int32) = 1) ∧ K (some (.int 0)) σ))))) : gE 17 28 [some (.ref 1), some (.ref 1000007), some (.int k)] [] σ K :=
  gw_run (cy := 17) (cuts := [28]) (inl := []) (pf := gpdh) gpdh_ok 400 (by decide) h
theorem s17_1000007 {σ : gS} {K : gK} (hc : RW σ) (hK : K (some (.int (bI (cWd σ (jW 1000007))))) σ) : gE 17 0 [some (.ref 1), some (.ref 1000007), none] [] σ K := by
  obtain ⟨L, S, eL, eS, lL, lS, nL, nS⟩ := RW_n hc
  obtain ⟨N, hN⟩ : ∃ N, (jW 1000007).length = N := ⟨_, rfl⟩
  have l10 : N ≤ 10 := by rw [← hN]; decide
  have eN : N = (jW 1000007).length := hN.symm
  have lN : (jW 1000007).length = (jW 1000007).length := rfl
  have iL : ∀ k : Nat, k ≤ 10 → (iN k < iN N ↔ k < N) := fun k hk => iN_lt (by omega) (by omega)
  have no : ¬ cWd σ (jW 1000007) → K (some (.int 0)) σ := fun h => by rw [bI_n h] at hK; exact hK
  have hlit : iN N = iN (jW 1000007).length := by rw [hN]
  have key : ∀ d k, k + d = N → σ 1 4 = 2 → σ 1 3 - σ 1 2 = iN N → (∀ i, i < k → cBy (σ 3) L (S + i) = (jW 1000007).getD i 0) → gE 17 28 [some (.ref 1), some (.ref 1000007), some (.int (iN k))] [] σ K := by
    intro d
    induction d with
    | zero =>
      intro k hk h1 h2 h3
      have : k = N := by omega
      subst this
      refine v17_1000007 ⟨fun _ => ⟨Or.inr rfl, ?_⟩, fun h => ?_⟩
      · have yes : cWd σ (jW 1000007) := by
          refine ⟨h1, by rw [hN]; exact h2, fun i hi => ?_⟩
          rw [nL, nS]
          exact h3 i (by omega)
        rw [bI_y yes] at hK
        exact hK
      · have q : iN k < iN k := by rw [hlit] at h ⊢; exact h
        exact absurd ((iN_lt (by omega) (by omega)).mp q) (by omega)
    | succ d ih =>
      intro k hk h1 h2 h3
      have hkN : k < N := by omega
      have qk : iN k < iN N := (iL k (by omega)).mpr hkN
      refine v17_1000007 ⟨fun h => ?_, fun h => ⟨hc.1.2, ⟨(iN_le (k := 0) (by decide) (by omega)).mpr (by omega), h⟩, fun h4 => ?_, fun h4 => ?_⟩⟩
      · exact absurd (by rw [hlit] at qk; exact qk) h
      · rw [eL, eS, iN_add, cBy_e2 lL (by omega), iN_nat (by omega)] at h4
        rw [iN_one]
        refine ih (k + 1) (by omega) h1 h2 (fun i hi => ?_)
        by_cases e : i = k
        · subst e; exact h4
        · exact h3 i (by omega)
      · rw [eL, eS, iN_add, cBy_e2 lL (by omega), iN_nat (by omega)] at h4
        refine ⟨Or.inl rfl, no (fun q => h4 ?_)⟩
        have := q.2.2 k (by omega)
        rw [nL, nS] at this
        exact this
  refine w17_1000007 ⟨fun h => ⟨Or.inl rfl, no (fun q => h q.1)⟩, fun h => ⟨fun h2 => ?_, fun h2 => ⟨Or.inl rfl, no (fun q => h2 (q.2.1))⟩⟩⟩
  exact key N 0 (by omega) h (by rw [hlit]; exact h2) (fun i hi => absurd hi (Nat.not_lt_zero _))
set_option maxRecDepth 20000 in
theorem w17_1000008 {σ : gS} {K : gK} (h : ((¬ (σ 1 4) = 2 → ((0 : Int32) = 0 ∨ (0 : Int32) = 1) ∧ K (some (.int 0)) σ) ∧ ((σ 1 4) = 2 → ((((σ 1 3) - (σ 1 2)) = 3 → gE 17 28 [some (.ref 1), some (.ref 1000008), some (.int 0)] [] σ K) ∧ (¬ ((σ 1 3) - (σ 1 2)) = 3 → ((0 : Int32) = 0 ∨ (0 : Int32) = 1) ∧ K (some (.int 0)) σ))))) : gE 17 0 [some (.ref 1), some (.ref 1000008), none] [] σ K :=
  gw_run (cy := 17) (cuts := [28]) (inl := []) (pf := gpdh) gpdh_ok 400 (by decide) h
set_option maxRecDepth 20000 in
theorem v17_1000008 {σ : gS} {K : gK} {k : Int32} (h : ((¬ k < 3 → ((1 : Int32) = 0 ∨ (1 : Int32) = 1) ∧ K (some (.int 1)) σ) ∧ (k < 3 → (σ 2 1 ≤ 1000) ∧ (0 ≤ k ∧ k < 3) ∧ (((if 0 ≤ ((σ 1 2) + k) ∧ ((σ 1 2) + k) < σ 2 1 then σ 3 ((σ 1 2) + k).toNatClampNeg else -1) = ((jv_byt.getD 7 []).getD k.toNatClampNeg 0) → gE 17 28 [some (.ref 1), some (.ref 1000008), some (.int (k + 1))] [] σ K) ∧ (¬ (if 0 ≤ ((σ 1 2) + k) ∧ ((σ 1 2) + k) < σ 2 1 then σ 3 ((σ 1 2) + k).toNatClampNeg else -1) = ((jv_byt.getD 7 []).getD k.toNatClampNeg 0) → ((0 : Int32) = 0 ∨ (0 : Int32) = 1) ∧ K (some (.int 0)) σ))))) : gE 17 28 [some (.ref 1), some (.ref 1000008), some (.int k)] [] σ K :=
  gw_run (cy := 17) (cuts := [28]) (inl := []) (pf := gpdh) gpdh_ok 400 (by decide) h
theorem s17_1000008 {σ : gS} {K : gK} (hc : RW σ) (hK : K (some (.int (bI (cWd σ (jW 1000008))))) σ) : gE 17 0 [some (.ref 1), some (.ref 1000008), none] [] σ K := by
  obtain ⟨L, S, eL, eS, lL, lS, nL, nS⟩ := RW_n hc
  obtain ⟨N, hN⟩ : ∃ N, (jW 1000008).length = N := ⟨_, rfl⟩
  have l10 : N ≤ 10 := by rw [← hN]; decide
  have eN : N = (jW 1000008).length := hN.symm
  have lN : (jW 1000008).length = (jW 1000008).length := rfl
  have iL : ∀ k : Nat, k ≤ 10 → (iN k < iN N ↔ k < N) := fun k hk => iN_lt (by omega) (by omega)
  have no : ¬ cWd σ (jW 1000008) → K (some (.int 0)) σ := fun h => by rw [bI_n h] at hK; exact hK
  have hlit : iN N = iN (jW 1000008).length := by rw [hN]
  have key : ∀ d k, k + d = N → σ 1 4 = 2 → σ 1 3 - σ 1 2 = iN N → (∀ i, i < k → cBy (σ 3) L (S + i) = (jW 1000008).getD i 0) → gE 17 28 [some (.ref 1), some (.ref 1000008), some (.int (iN k))] [] σ K := by
    intro d
    induction d with
    | zero =>
      intro k hk h1 h2 h3
      have : k = N := by omega
      subst this
      refine v17_1000008 ⟨fun _ => ⟨Or.inr rfl, ?_⟩, fun h => ?_⟩
      · have yes : cWd σ (jW 1000008) := by
          refine ⟨h1, by rw [hN]; exact h2, fun i hi => ?_⟩
          rw [nL, nS]
          exact h3 i (by omega)
        rw [bI_y yes] at hK
        exact hK
      · have q : iN k < iN k := by rw [hlit] at h ⊢; exact h
        exact absurd ((iN_lt (by omega) (by omega)).mp q) (by omega)
    | succ d ih =>
      intro k hk h1 h2 h3
      have hkN : k < N := by omega
      have qk : iN k < iN N := (iL k (by omega)).mpr hkN
      refine v17_1000008 ⟨fun h => ?_, fun h => ⟨hc.1.2, ⟨(iN_le (k := 0) (by decide) (by omega)).mpr (by omega), h⟩, fun h4 => ?_, fun h4 => ?_⟩⟩
      · exact absurd (by rw [hlit] at qk; exact qk) h
      · rw [eL, eS, iN_add, cBy_e2 lL (by omega), iN_nat (by omega)] at h4
        rw [iN_one]
        refine ih (k + 1) (by omega) h1 h2 (fun i hi => ?_)
        by_cases e : i = k
        · subst e; exact h4
        · exact h3 i (by omega)
      · rw [eL, eS, iN_add, cBy_e2 lL (by omega), iN_nat (by omega)] at h4
        refine ⟨Or.inl rfl, no (fun q => h4 ?_)⟩
        have := q.2.2 k (by omega)
        rw [nL, nS] at this
        exact this
  refine w17_1000008 ⟨fun h => ⟨Or.inl rfl, no (fun q => h q.1)⟩, fun h => ⟨fun h2 => ?_, fun h2 => ⟨Or.inl rfl, no (fun q => h2 (q.2.1))⟩⟩⟩
  exact key N 0 (by omega) h (by rw [hlit]; exact h2) (fun i hi => absurd hi (Nat.not_lt_zero _))
set_option maxRecDepth 20000 in
theorem w17_1000009 {σ : gS} {K : gK} (h : ((¬ (σ 1 4) = 2 → ((0 : Int32) = 0 ∨ (0 : Int32) = 1) ∧ K (some (.int 0)) σ) ∧ ((σ 1 4) = 2 → ((((σ 1 3) - (σ 1 2)) = 6 → gE 17 28 [some (.ref 1), some (.ref 1000009), some (.int 0)] [] σ K) ∧ (¬ ((σ 1 3) - (σ 1 2)) = 6 → ((0 : Int32) = 0 ∨ (0 : Int32) = 1) ∧ K (some (.int 0)) σ))))) : gE 17 0 [some (.ref 1), some (.ref 1000009), none] [] σ K :=
  gw_run (cy := 17) (cuts := [28]) (inl := []) (pf := gpdh) gpdh_ok 400 (by decide) h
set_option maxRecDepth 20000 in
theorem v17_1000009 {σ : gS} {K : gK} {k : Int32} (h : ((¬ k < 6 → ((1 : Int32) = 0 ∨ (1 : Int32) = 1) ∧ K (some (.int 1)) σ) ∧ (k < 6 → (σ 2 1 ≤ 1000) ∧ (0 ≤ k ∧ k < 6) ∧ (((if 0 ≤ ((σ 1 2) + k) ∧ ((σ 1 2) + k) < σ 2 1 then σ 3 ((σ 1 2) + k).toNatClampNeg else -1) = ((jv_byt.getD 8 []).getD k.toNatClampNeg 0) → gE 17 28 [some (.ref 1), some (.ref 1000009), some (.int (k + 1))] [] σ K) ∧ (¬ (if 0 ≤ ((σ 1 2) + k) ∧ ((σ 1 2) + k) < σ 2 1 then σ 3 ((σ 1 2) + k).toNatClampNeg else -1) = ((jv_byt.getD 8 []).getD k.toNatClampNeg 0) → ((0 : Int32) = 0 ∨ (0 : Int32) = 1) ∧ K (some (.int 0)) σ))))) : gE 17 28 [some (.ref 1), some (.ref 1000009), some (.int k)] [] σ K :=
  gw_run (cy := 17) (cuts := [28]) (inl := []) (pf := gpdh) gpdh_ok 400 (by decide) h
theorem s17_1000009 {σ : gS} {K : gK} (hc : RW σ) (hK : K (some (.int (bI (cWd σ (jW 1000009))))) σ) : gE 17 0 [some (.ref 1), some (.ref 1000009), none] [] σ K := by
  obtain ⟨L, S, eL, eS, lL, lS, nL, nS⟩ := RW_n hc
  obtain ⟨N, hN⟩ : ∃ N, (jW 1000009).length = N := ⟨_, rfl⟩
  have l10 : N ≤ 10 := by rw [← hN]; decide
  have eN : N = (jW 1000009).length := hN.symm
  have lN : (jW 1000009).length = (jW 1000009).length := rfl
  have iL : ∀ k : Nat, k ≤ 10 → (iN k < iN N ↔ k < N) := fun k hk => iN_lt (by omega) (by omega)
  have no : ¬ cWd σ (jW 1000009) → K (some (.int 0)) σ := fun h => by rw [bI_n h] at hK; exact hK
  have hlit : iN N = iN (jW 1000009).length := by rw [hN]
  have key : ∀ d k, k + d = N → σ 1 4 = 2 → σ 1 3 - σ 1 2 = iN N → (∀ i, i < k → cBy (σ 3) L (S + i) = (jW 1000009).getD i 0) → gE 17 28 [some (.ref 1), some (.ref 1000009), some (.int (iN k))] [] σ K := by
    intro d
    induction d with
    | zero =>
      intro k hk h1 h2 h3
      have : k = N := by omega
      subst this
      refine v17_1000009 ⟨fun _ => ⟨Or.inr rfl, ?_⟩, fun h => ?_⟩
      · have yes : cWd σ (jW 1000009) := by
          refine ⟨h1, by rw [hN]; exact h2, fun i hi => ?_⟩
          rw [nL, nS]
          exact h3 i (by omega)
        rw [bI_y yes] at hK
        exact hK
      · have q : iN k < iN k := by rw [hlit] at h ⊢; exact h
        exact absurd ((iN_lt (by omega) (by omega)).mp q) (by omega)
    | succ d ih =>
      intro k hk h1 h2 h3
      have hkN : k < N := by omega
      have qk : iN k < iN N := (iL k (by omega)).mpr hkN
      refine v17_1000009 ⟨fun h => ?_, fun h => ⟨hc.1.2, ⟨(iN_le (k := 0) (by decide) (by omega)).mpr (by omega), h⟩, fun h4 => ?_, fun h4 => ?_⟩⟩
      · exact absurd (by rw [hlit] at qk; exact qk) h
      · rw [eL, eS, iN_add, cBy_e2 lL (by omega), iN_nat (by omega)] at h4
        rw [iN_one]
        refine ih (k + 1) (by omega) h1 h2 (fun i hi => ?_)
        by_cases e : i = k
        · subst e; exact h4
        · exact h3 i (by omega)
      · rw [eL, eS, iN_add, cBy_e2 lL (by omega), iN_nat (by omega)] at h4
        refine ⟨Or.inl rfl, no (fun q => h4 ?_)⟩
        have := q.2.2 k (by omega)
        rw [nL, nS] at this
        exact this
  refine w17_1000009 ⟨fun h => ⟨Or.inl rfl, no (fun q => h q.1)⟩, fun h => ⟨fun h2 => ?_, fun h2 => ⟨Or.inl rfl, no (fun q => h2 (q.2.1))⟩⟩⟩
  exact key N 0 (by omega) h (by rw [hlit]; exact h2) (fun i hi => absurd hi (Nat.not_lt_zero _))
set_option maxRecDepth 20000 in
theorem w17_1000010 {σ : gS} {K : gK} (h : ((¬ (σ 1 4) = 2 → ((0 : Int32) = 0 ∨ (0 : Int32) = 1) ∧ K (some (.int 0)) σ) ∧ ((σ 1 4) = 2 → ((((σ 1 3) - (σ 1 2)) = 4 → gE 17 28 [some (.ref 1), some (.ref 1000010), some (.int 0)] [] σ K) ∧ (¬ ((σ 1 3) - (σ 1 2)) = 4 → ((0 : Int32) = 0 ∨ (0 : Int32) = 1) ∧ K (some (.int 0)) σ))))) : gE 17 0 [some (.ref 1), some (.ref 1000010), none] [] σ K :=
  gw_run (cy := 17) (cuts := [28]) (inl := []) (pf := gpdh) gpdh_ok 400 (by decide) h
set_option maxRecDepth 20000 in
theorem v17_1000010 {σ : gS} {K : gK} {k : Int32} (h : ((¬ k < 4 → ((1 : Int32) = 0 ∨ (1 : Int32) = 1) ∧ K (some (.int 1)) σ) ∧ (k < 4 → (σ 2 1 ≤ 1000) ∧ (0 ≤ k ∧ k < 4) ∧ (((if 0 ≤ ((σ 1 2) + k) ∧ ((σ 1 2) + k) < σ 2 1 then σ 3 ((σ 1 2) + k).toNatClampNeg else -1) = ((jv_byt.getD 9 []).getD k.toNatClampNeg 0) → gE 17 28 [some (.ref 1), some (.ref 1000010), some (.int (k + 1))] [] σ K) ∧ (¬ (if 0 ≤ ((σ 1 2) + k) ∧ ((σ 1 2) + k) < σ 2 1 then σ 3 ((σ 1 2) + k).toNatClampNeg else -1) = ((jv_byt.getD 9 []).getD k.toNatClampNeg 0) → ((0 : Int32) = 0 ∨ (0 : Int32) = 1) ∧ K (some (.int 0)) σ))))) : gE 17 28 [some (.ref 1), some (.ref 1000010), some (.int k)] [] σ K :=
  gw_run (cy := 17) (cuts := [28]) (inl := []) (pf := gpdh) gpdh_ok 400 (by decide) h
theorem s17_1000010 {σ : gS} {K : gK} (hc : RW σ) (hK : K (some (.int (bI (cWd σ (jW 1000010))))) σ) : gE 17 0 [some (.ref 1), some (.ref 1000010), none] [] σ K := by
  obtain ⟨L, S, eL, eS, lL, lS, nL, nS⟩ := RW_n hc
  obtain ⟨N, hN⟩ : ∃ N, (jW 1000010).length = N := ⟨_, rfl⟩
  have l10 : N ≤ 10 := by rw [← hN]; decide
  have eN : N = (jW 1000010).length := hN.symm
  have lN : (jW 1000010).length = (jW 1000010).length := rfl
  have iL : ∀ k : Nat, k ≤ 10 → (iN k < iN N ↔ k < N) := fun k hk => iN_lt (by omega) (by omega)
  have no : ¬ cWd σ (jW 1000010) → K (some (.int 0)) σ := fun h => by rw [bI_n h] at hK; exact hK
  have hlit : iN N = iN (jW 1000010).length := by rw [hN]
  have key : ∀ d k, k + d = N → σ 1 4 = 2 → σ 1 3 - σ 1 2 = iN N → (∀ i, i < k → cBy (σ 3) L (S + i) = (jW 1000010).getD i 0) → gE 17 28 [some (.ref 1), some (.ref 1000010), some (.int (iN k))] [] σ K := by
    intro d
    induction d with
    | zero =>
      intro k hk h1 h2 h3
      have : k = N := by omega
      subst this
      refine v17_1000010 ⟨fun _ => ⟨Or.inr rfl, ?_⟩, fun h => ?_⟩
      · have yes : cWd σ (jW 1000010) := by
          refine ⟨h1, by rw [hN]; exact h2, fun i hi => ?_⟩
          rw [nL, nS]
          exact h3 i (by omega)
        rw [bI_y yes] at hK
        exact hK
      · have q : iN k < iN k := by rw [hlit] at h ⊢; exact h
        exact absurd ((iN_lt (by omega) (by omega)).mp q) (by omega)
    | succ d ih =>
      intro k hk h1 h2 h3
      have hkN : k < N := by omega
      have qk : iN k < iN N := (iL k (by omega)).mpr hkN
      refine v17_1000010 ⟨fun h => ?_, fun h => ⟨hc.1.2, ⟨(iN_le (k := 0) (by decide) (by omega)).mpr (by omega), h⟩, fun h4 => ?_, fun h4 => ?_⟩⟩
      · exact absurd (by rw [hlit] at qk; exact qk) h
      · rw [eL, eS, iN_add, cBy_e2 lL (by omega), iN_nat (by omega)] at h4
        rw [iN_one]
        refine ih (k + 1) (by omega) h1 h2 (fun i hi => ?_)
        by_cases e : i = k
        · subst e; exact h4
        · exact h3 i (by omega)
      · rw [eL, eS, iN_add, cBy_e2 lL (by omega), iN_nat (by omega)] at h4
        refine ⟨Or.inl rfl, no (fun q => h4 ?_)⟩
        have := q.2.2 k (by omega)
        rw [nL, nS] at this
        exact this
  refine w17_1000010 ⟨fun h => ⟨Or.inl rfl, no (fun q => h q.1)⟩, fun h => ⟨fun h2 => ?_, fun h2 => ⟨Or.inl rfl, no (fun q => h2 (q.2.1))⟩⟩⟩
  exact key N 0 (by omega) h (by rw [hlit]; exact h2) (fun i hi => absurd hi (Nat.not_lt_zero _))
noncomputable def f17 : gD := fun Lv σ => match Lv with
  | [some (.ref q0), some (.ref p), none] => cond ((Nat.beq p 1000001 || Nat.beq p 1000002 || Nat.beq p 1000003 || Nat.beq p 1000004 || Nat.beq p 1000005 || Nat.beq p 1000006 || Nat.beq p 1000007 || Nat.beq p 1000008 || Nat.beq p 1000009 || Nat.beq p 1000010) && (Nat.beq q0 1)) (some (some (RW σ), some (.int (bI (cWd σ (jW p)))), σ)) none
  | _ => none
theorem ok17 : gFok 17 f17 := by
  intro Lv σ q h hc K hK
  unfold f17 at h
  split at h
  · rename_i q0 p
    obtain ⟨hb, h⟩ := c_no h
    obtain ⟨hc1, hb1⟩ := s_and hb
    have hb0 := hc1
    have e0 := b_eq hb1
    subst e0
    rcases s_or hb0 with hb0 | hb0
    · rcases s_or hb0 with hb0 | hb0
      · rcases s_or hb0 with hb0 | hb0
        · rcases s_or hb0 with hb0 | hb0
          · rcases s_or hb0 with hb0 | hb0
            · rcases s_or hb0 with hb0 | hb0
              · rcases s_or hb0 with hb0 | hb0
                · rcases s_or hb0 with hb0 | hb0
                  · rcases s_or hb0 with hb0 | hb0
                    · have e := b_eq hb0
                      subst e
                      cases h
                      exact s17_1000001 (hc _ rfl) hK
                    · have e := b_eq hb0
                      subst e
                      cases h
                      exact s17_1000002 (hc _ rfl) hK
                  · have e := b_eq hb0
                    subst e
                    cases h
                    exact s17_1000003 (hc _ rfl) hK
                · have e := b_eq hb0
                  subst e
                  cases h
                  exact s17_1000004 (hc _ rfl) hK
              · have e := b_eq hb0
                subst e
                cases h
                exact s17_1000005 (hc _ rfl) hK
            · have e := b_eq hb0
              subst e
              cases h
              exact s17_1000006 (hc _ rfl) hK
          · have e := b_eq hb0
            subst e
            cases h
            exact s17_1000007 (hc _ rfl) hK
        · have e := b_eq hb0
          subst e
          cases h
          exact s17_1000008 (hc _ rfl) hK
      · have e := b_eq hb0
        subst e
        cases h
        exact s17_1000009 (hc _ rfl) hK
    · have e := b_eq hb0
      subst e
      cases h
      exact s17_1000010 (hc _ rfl) hK
  · cases h
noncomputable def gpdi_l : List (Nat × gD) := (17, f17) :: gpdh_l
noncomputable def gpdi : gP := gpl0 gpdi_l
theorem gpdi_ok : gPok gpdi := gpl0_cons ok17 (gpdh_ok)
