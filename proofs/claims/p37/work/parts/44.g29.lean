-- text 29
/-! THE CLASS: trains copied -/
theorem tv_60 : ∀ k, k < 20 → gTv (60 + 2 + k) := by unfold gTv; decide +kernel
theorem tv_86 : ∀ k, k < 20 → gTv (86 + 2 + k) := by unfold gTv; decide +kernel
theorem tv_115 : ∀ k, k < 20 → gTv (115 + 2 + k) := by unfold gTv; decide +kernel
theorem tv_141 : ∀ k, k < 20 → gTv (141 + 2 + k) := by unfold gTv; decide +kernel
theorem tv_167 : ∀ k, k < 20 → gTv (167 + 2 + k) := by unfold gTv; decide +kernel
theorem tv_193 : ∀ k, k < 20 → gTv (193 + 2 + k) := by unfold gTv; decide +kernel
theorem tv_219 : ∀ k, k < 20 → gTv (219 + 2 + k) := by unfold gTv; decide +kernel
theorem tv_245 : ∀ k, k < 20 → gTv (245 + 2 + k) := by unfold gTv; decide +kernel
theorem tv_271 : ∀ k, k < 20 → gTv (271 + 2 + k) := by unfold gTv; decide +kernel
theorem tv_297 : ∀ k, k < 20 → gTv (297 + 2 + k) := by unfold gTv; decide +kernel
noncomputable def gpcp_l : List (Nat × gD) := (103, f103) :: gpco_l
noncomputable def gpcp : gP := gpl0 gpcp_l
theorem gpcp_ok : gPok gpcp := gpl0_cons ok103 (gpco_ok)
set_option maxRecDepth 20000 in
theorem w2_30_56 {σ : gS} {K : gK} (h : gE 2 2 [some (.ref 30), some (.ref 56), some (.int 0)] [] σ K) : gE 2 0 [some (.ref 30), some (.ref 56), none] [] σ K :=
  gw_run (cy := 2) (cuts := [2, 46]) (inl := []) (pf := gpcp) gpcp_ok 400 (by decide) h
set_option maxRecDepth 20000 in
theorem c30_56_2_2 {σ : gS} {K : gK} {l2 : Int32} (h : ((¬ l2 < 120 → gE 2 46 [some (.ref 30), some (.ref 56), some (.int l2)] [] (gup σ 30 1 (σ 56 1)) K) ∧ (l2 < 120 → ((¬ l2 < 120 → gE 2 46 [some (.ref 30), some (.ref 56), some (.int l2)] [] (gup σ 30 1 (σ 56 1)) K) ∧ (l2 < 120 → (0 ≤ l2 ∧ l2 < 120) ∧ (0 ≤ l2 ∧ l2 < 120) ∧ gE 2 2 [some (.ref 30), some (.ref 56), some (.int (l2 + 1))] [] (gup σ 31 l2.toNatClampNeg (σ 57 l2.toNatClampNeg)) K))))) : gE 2 2 [some (.ref 30), some (.ref 56), some (.int l2)] [] σ K :=
  gw_run (cy := 2) (cuts := [2, 46]) (inl := []) (pf := gpcp) gpcp_ok 400 (by decide) h
set_option maxRecDepth 20000 in
theorem c30_56_2_46 {σ : gS} {K : gK} {l2 : Option Value} (h : K none (gup σ 30 2 (σ 56 2))) : gE 2 46 [some (.ref 30), some (.ref 56), l2] [] σ K :=
  gw_run (cy := 2) (cuts := [2, 46]) (inl := []) (pf := gpcp) gpcp_ok 400 (by decide) h
theorem s2_30_56 {σ : gS} {K : gK} (hK : K none (cLc σ 30 56)) : gE 2 0 [some (.ref 30), some (.ref 56), none] [] σ K := by
  unfold cLc at hK
  have main := g_forI (y := 2) (pc := 2) (K := K) 120 (fun k => [some (.ref 30), some (.ref 56), some (.int (iN k))]) (fun k => cA1 σ 31 57 k) (fun _ => True) (fun _ => by
    refine c30_56_2_2 ⟨fun _ => ?_, fun h => absurd h (by decide)⟩
    have r1 : cA1 σ 31 57 120 56 1 = σ 56 1 := by unfold cA1; rw [if_neg (by omega)]
    rw [r1]
    refine c30_56_2_46 ?_
    have r2 : gup (cA1 σ 31 57 120) 30 1 (σ 56 1) 56 2 = σ 56 2 := by rw [gup_ne (by omega)]; unfold cA1; rw [if_neg (by omega)]
    rw [r2]
    exact hK) (fun k hk _ ih => by
    have bd : 0 ≤ iN k ∧ iN k < 120 := ⟨(iN_le (k := 0) (by decide) (by omega)).mpr (by omega), (iN_lt (m := 120) (by omega) (by decide)).mpr hk⟩
    refine c30_56_2_2 ⟨fun h => absurd bd.2 h, fun _ => ⟨fun h => absurd bd.2 h, fun _ => ⟨bd, bd, ?_⟩⟩⟩
    rw [iN_nat (by omega), cA1_s (by decide), iN_one]
    exact ih trivial) 0 (Nat.zero_le _) trivial
  rw [cA1_0] at main
  exact w2_30_56 main
set_option maxRecDepth 20000 in
theorem w2_56_30 {σ : gS} {K : gK} (h : gE 2 2 [some (.ref 56), some (.ref 30), some (.int 0)] [] σ K) : gE 2 0 [some (.ref 56), some (.ref 30), none] [] σ K :=
  gw_run (cy := 2) (cuts := [2, 46]) (inl := []) (pf := gpcp) gpcp_ok 400 (by decide) h
set_option maxRecDepth 20000 in
theorem c56_30_2_2 {σ : gS} {K : gK} {l2 : Int32} (h : ((¬ l2 < 120 → gE 2 46 [some (.ref 56), some (.ref 30), some (.int l2)] [] (gup σ 56 1 (σ 30 1)) K) ∧ (l2 < 120 → ((¬ l2 < 120 → gE 2 46 [some (.ref 56), some (.ref 30), some (.int l2)] [] (gup σ 56 1 (σ 30 1)) K) ∧ (l2 < 120 → (0 ≤ l2 ∧ l2 < 120) ∧ (0 ≤ l2 ∧ l2 < 120) ∧ gE 2 2 [some (.ref 56), some (.ref 30), some (.int (l2 + 1))] [] (gup σ 57 l2.toNatClampNeg (σ 31 l2.toNatClampNeg)) K))))) : gE 2 2 [some (.ref 56), some (.ref 30), some (.int l2)] [] σ K :=
  gw_run (cy := 2) (cuts := [2, 46]) (inl := []) (pf := gpcp) gpcp_ok 400 (by decide) h
set_option maxRecDepth 20000 in
theorem c56_30_2_46 {σ : gS} {K : gK} {l2 : Option Value} (h : K none (gup σ 56 2 (σ 30 2))) : gE 2 46 [some (.ref 56), some (.ref 30), l2] [] σ K :=
  gw_run (cy := 2) (cuts := [2, 46]) (inl := []) (pf := gpcp) gpcp_ok 400 (by decide) h
theorem s2_56_30 {σ : gS} {K : gK} (hK : K none (cLc σ 56 30)) : gE 2 0 [some (.ref 56), some (.ref 30), none] [] σ K := by
  unfold cLc at hK
  have main := g_forI (y := 2) (pc := 2) (K := K) 120 (fun k => [some (.ref 56), some (.ref 30), some (.int (iN k))]) (fun k => cA1 σ 57 31 k) (fun _ => True) (fun _ => by
    refine c56_30_2_2 ⟨fun _ => ?_, fun h => absurd h (by decide)⟩
    have r1 : cA1 σ 57 31 120 30 1 = σ 30 1 := by unfold cA1; rw [if_neg (by omega)]
    rw [r1]
    refine c56_30_2_46 ?_
    have r2 : gup (cA1 σ 57 31 120) 56 1 (σ 30 1) 30 2 = σ 30 2 := by rw [gup_ne (by omega)]; unfold cA1; rw [if_neg (by omega)]
    rw [r2]
    exact hK) (fun k hk _ ih => by
    have bd : 0 ≤ iN k ∧ iN k < 120 := ⟨(iN_le (k := 0) (by decide) (by omega)).mpr (by omega), (iN_lt (m := 120) (by omega) (by decide)).mpr hk⟩
    refine c56_30_2_2 ⟨fun h => absurd bd.2 h, fun _ => ⟨fun h => absurd bd.2 h, fun _ => ⟨bd, bd, ?_⟩⟩⟩
    rw [iN_nat (by omega), cA1_s (by decide), iN_one]
    exact ih trivial) 0 (Nat.zero_le _) trivial
  rw [cA1_0] at main
  exact w2_56_30 main
set_option maxRecDepth 20000 in
theorem w2_84_30 {σ : gS} {K : gK} (h : gE 2 2 [some (.ref 84), some (.ref 30), some (.int 0)] [] σ K) : gE 2 0 [some (.ref 84), some (.ref 30), none] [] σ K :=
  gw_run (cy := 2) (cuts := [2, 46]) (inl := []) (pf := gpcp) gpcp_ok 400 (by decide) h
set_option maxRecDepth 20000 in
theorem c84_30_2_2 {σ : gS} {K : gK} {l2 : Int32} (h : ((¬ l2 < 120 → gE 2 46 [some (.ref 84), some (.ref 30), some (.int l2)] [] (gup σ 84 1 (σ 30 1)) K) ∧ (l2 < 120 → ((¬ l2 < 120 → gE 2 46 [some (.ref 84), some (.ref 30), some (.int l2)] [] (gup σ 84 1 (σ 30 1)) K) ∧ (l2 < 120 → (0 ≤ l2 ∧ l2 < 120) ∧ (0 ≤ l2 ∧ l2 < 120) ∧ gE 2 2 [some (.ref 84), some (.ref 30), some (.int (l2 + 1))] [] (gup σ 85 l2.toNatClampNeg (σ 31 l2.toNatClampNeg)) K))))) : gE 2 2 [some (.ref 84), some (.ref 30), some (.int l2)] [] σ K :=
  gw_run (cy := 2) (cuts := [2, 46]) (inl := []) (pf := gpcp) gpcp_ok 400 (by decide) h
set_option maxRecDepth 20000 in
theorem c84_30_2_46 {σ : gS} {K : gK} {l2 : Option Value} (h : K none (gup σ 84 2 (σ 30 2))) : gE 2 46 [some (.ref 84), some (.ref 30), l2] [] σ K :=
  gw_run (cy := 2) (cuts := [2, 46]) (inl := []) (pf := gpcp) gpcp_ok 400 (by decide) h
theorem s2_84_30 {σ : gS} {K : gK} (hK : K none (cLc σ 84 30)) : gE 2 0 [some (.ref 84), some (.ref 30), none] [] σ K := by
  unfold cLc at hK
  have main := g_forI (y := 2) (pc := 2) (K := K) 120 (fun k => [some (.ref 84), some (.ref 30), some (.int (iN k))]) (fun k => cA1 σ 85 31 k) (fun _ => True) (fun _ => by
    refine c84_30_2_2 ⟨fun _ => ?_, fun h => absurd h (by decide)⟩
    have r1 : cA1 σ 85 31 120 30 1 = σ 30 1 := by unfold cA1; rw [if_neg (by omega)]
    rw [r1]
    refine c84_30_2_46 ?_
    have r2 : gup (cA1 σ 85 31 120) 84 1 (σ 30 1) 30 2 = σ 30 2 := by rw [gup_ne (by omega)]; unfold cA1; rw [if_neg (by omega)]
    rw [r2]
    exact hK) (fun k hk _ ih => by
    have bd : 0 ≤ iN k ∧ iN k < 120 := ⟨(iN_le (k := 0) (by decide) (by omega)).mpr (by omega), (iN_lt (m := 120) (by omega) (by decide)).mpr hk⟩
    refine c84_30_2_2 ⟨fun h => absurd bd.2 h, fun _ => ⟨fun h => absurd bd.2 h, fun _ => ⟨bd, bd, ?_⟩⟩⟩
    rw [iN_nat (by omega), cA1_s (by decide), iN_one]
    exact ih trivial) 0 (Nat.zero_le _) trivial
  rw [cA1_0] at main
  exact w2_84_30 main
set_option maxRecDepth 20000 in
theorem w2_110_30 {σ : gS} {K : gK} (h : gE 2 2 [some (.ref 110), some (.ref 30), some (.int 0)] [] σ K) : gE 2 0 [some (.ref 110), some (.ref 30), none] [] σ K :=
  gw_run (cy := 2) (cuts := [2, 46]) (inl := []) (pf := gpcp) gpcp_ok 400 (by decide) h
set_option maxRecDepth 20000 in
theorem c110_30_2_2 {σ : gS} {K : gK} {l2 : Int32} (h : ((¬ l2 < 120 → gE 2 46 [some (.ref 110), some (.ref 30), some (.int l2)] [] (gup σ 110 1 (σ 30 1)) K) ∧ (l2 < 120 → ((¬ l2 < 120 → gE 2 46 [some (.ref 110), some (.ref 30), some (.int l2)] [] (gup σ 110 1 (σ 30 1)) K) ∧ (l2 < 120 → (0 ≤ l2 ∧ l2 < 120) ∧ (0 ≤ l2 ∧ l2 < 120) ∧ gE 2 2 [some (.ref 110), some (.ref 30), some (.int (l2 + 1))] [] (gup σ 111 l2.toNatClampNeg (σ 31 l2.toNatClampNeg)) K))))) : gE 2 2 [some (.ref 110), some (.ref 30), some (.int l2)] [] σ K :=
  gw_run (cy := 2) (cuts := [2, 46]) (inl := []) (pf := gpcp) gpcp_ok 400 (by decide) h
set_option maxRecDepth 20000 in
theorem c110_30_2_46 {σ : gS} {K : gK} {l2 : Option Value} (h : K none (gup σ 110 2 (σ 30 2))) : gE 2 46 [some (.ref 110), some (.ref 30), l2] [] σ K :=
  gw_run (cy := 2) (cuts := [2, 46]) (inl := []) (pf := gpcp) gpcp_ok 400 (by decide) h
theorem s2_110_30 {σ : gS} {K : gK} (hK : K none (cLc σ 110 30)) : gE 2 0 [some (.ref 110), some (.ref 30), none] [] σ K := by
  unfold cLc at hK
  have main := g_forI (y := 2) (pc := 2) (K := K) 120 (fun k => [some (.ref 110), some (.ref 30), some (.int (iN k))]) (fun k => cA1 σ 111 31 k) (fun _ => True) (fun _ => by
    refine c110_30_2_2 ⟨fun _ => ?_, fun h => absurd h (by decide)⟩
    have r1 : cA1 σ 111 31 120 30 1 = σ 30 1 := by unfold cA1; rw [if_neg (by omega)]
    rw [r1]
    refine c110_30_2_46 ?_
    have r2 : gup (cA1 σ 111 31 120) 110 1 (σ 30 1) 30 2 = σ 30 2 := by rw [gup_ne (by omega)]; unfold cA1; rw [if_neg (by omega)]
    rw [r2]
    exact hK) (fun k hk _ ih => by
    have bd : 0 ≤ iN k ∧ iN k < 120 := ⟨(iN_le (k := 0) (by decide) (by omega)).mpr (by omega), (iN_lt (m := 120) (by omega) (by decide)).mpr hk⟩
    refine c110_30_2_2 ⟨fun h => absurd bd.2 h, fun _ => ⟨fun h => absurd bd.2 h, fun _ => ⟨bd, bd, ?_⟩⟩⟩
    rw [iN_nat (by omega), cA1_s (by decide), iN_one]
    exact ih trivial) 0 (Nat.zero_le _) trivial
  rw [cA1_0] at main
  exact w2_110_30 main
set_option maxRecDepth 20000 in
theorem w2_30_84 {σ : gS} {K : gK} (h : gE 2 2 [some (.ref 30), some (.ref 84), some (.int 0)] [] σ K) : gE 2 0 [some (.ref 30), some (.ref 84), none] [] σ K :=
  gw_run (cy := 2) (cuts := [2, 46]) (inl := []) (pf := gpcp) gpcp_ok 400 (by decide) h
set_option maxRecDepth 20000 in
theorem c30_84_2_2 {σ : gS} {K : gK} {l2 : Int32} (h : ((¬ l2 < 120 → gE 2 46 [some (.ref 30), some (.ref 84), some (.int l2)] [] (gup σ 30 1 (σ 84 1)) K) ∧ (l2 < 120 → ((¬ l2 < 120 → gE 2 46 [some (.ref 30), some (.ref 84), some (.int l2)] [] (gup σ 30 1 (σ 84 1)) K) ∧ (l2 < 120 → (0 ≤ l2 ∧ l2 < 120) ∧ (0 ≤ l2 ∧ l2 < 120) ∧ gE 2 2 [some (.ref 30), some (.ref 84), some (.int (l2 + 1))] [] (gup σ 31 l2.toNatClampNeg (σ 85 l2.toNatClampNeg)) K))))) : gE 2 2 [some (.ref 30), some (.ref 84), some (.int l2)] [] σ K :=
  gw_run (cy := 2) (cuts := [2, 46]) (inl := []) (pf := gpcp) gpcp_ok 400 (by decide) h
set_option maxRecDepth 20000 in
theorem c30_84_2_46 {σ : gS} {K : gK} {l2 : Option Value} (h : K none (gup σ 30 2 (σ 84 2))) : gE 2 46 [some (.ref 30), some (.ref 84), l2] [] σ K :=
  gw_run (cy := 2) (cuts := [2, 46]) (inl := []) (pf := gpcp) gpcp_ok 400 (by decide) h
theorem s2_30_84 {σ : gS} {K : gK} (hK : K none (cLc σ 30 84)) : gE 2 0 [some (.ref 30), some (.ref 84), none] [] σ K := by
  unfold cLc at hK
  have main := g_forI (y := 2) (pc := 2) (K := K) 120 (fun k => [some (.ref 30), some (.ref 84), some (.int (iN k))]) (fun k => cA1 σ 31 85 k) (fun _ => True) (fun _ => by
    refine c30_84_2_2 ⟨fun _ => ?_, fun h => absurd h (by decide)⟩
    have r1 : cA1 σ 31 85 120 84 1 = σ 84 1 := by unfold cA1; rw [if_neg (by omega)]
    rw [r1]
    refine c30_84_2_46 ?_
    have r2 : gup (cA1 σ 31 85 120) 30 1 (σ 84 1) 84 2 = σ 84 2 := by rw [gup_ne (by omega)]; unfold cA1; rw [if_neg (by omega)]
    rw [r2]
    exact hK) (fun k hk _ ih => by
    have bd : 0 ≤ iN k ∧ iN k < 120 := ⟨(iN_le (k := 0) (by decide) (by omega)).mpr (by omega), (iN_lt (m := 120) (by omega) (by decide)).mpr hk⟩
    refine c30_84_2_2 ⟨fun h => absurd bd.2 h, fun _ => ⟨fun h => absurd bd.2 h, fun _ => ⟨bd, bd, ?_⟩⟩⟩
    rw [iN_nat (by omega), cA1_s (by decide), iN_one]
    exact ih trivial) 0 (Nat.zero_le _) trivial
  rw [cA1_0] at main
  exact w2_30_84 main
set_option maxRecDepth 20000 in
theorem w2_30_110 {σ : gS} {K : gK} (h : gE 2 2 [some (.ref 30), some (.ref 110), some (.int 0)] [] σ K) : gE 2 0 [some (.ref 30), some (.ref 110), none] [] σ K :=
  gw_run (cy := 2) (cuts := [2, 46]) (inl := []) (pf := gpcp) gpcp_ok 400 (by decide) h
set_option maxRecDepth 20000 in
theorem c30_110_2_2 {σ : gS} {K : gK} {l2 : Int32} (h : ((¬ l2 < 120 → gE 2 46 [some (.ref 30), some (.ref 110), some (.int l2)] [] (gup σ 30 1 (σ 110 1)) K) ∧ (l2 < 120 → ((¬ l2 < 120 → gE 2 46 [some (.ref 30), some (.ref 110), some (.int l2)] [] (gup σ 30 1 (σ 110 1)) K) ∧ (l2 < 120 → (0 ≤ l2 ∧ l2 < 120) ∧ (0 ≤ l2 ∧ l2 < 120) ∧ gE 2 2 [some (.ref 30), some (.ref 110), some (.int (l2 + 1))] [] (gup σ 31 l2.toNatClampNeg (σ 111 l2.toNatClampNeg)) K))))) : gE 2 2 [some (.ref 30), some (.ref 110), some (.int l2)] [] σ K :=
  gw_run (cy := 2) (cuts := [2, 46]) (inl := []) (pf := gpcp) gpcp_ok 400 (by decide) h
set_option maxRecDepth 20000 in
theorem c30_110_2_46 {σ : gS} {K : gK} {l2 : Option Value} (h : K none (gup σ 30 2 (σ 110 2))) : gE 2 46 [some (.ref 30), some (.ref 110), l2] [] σ K :=
  gw_run (cy := 2) (cuts := [2, 46]) (inl := []) (pf := gpcp) gpcp_ok 400 (by decide) h
theorem s2_30_110 {σ : gS} {K : gK} (hK : K none (cLc σ 30 110)) : gE 2 0 [some (.ref 30), some (.ref 110), none] [] σ K := by
  unfold cLc at hK
  have main := g_forI (y := 2) (pc := 2) (K := K) 120 (fun k => [some (.ref 30), some (.ref 110), some (.int (iN k))]) (fun k => cA1 σ 31 111 k) (fun _ => True) (fun _ => by
    refine c30_110_2_2 ⟨fun _ => ?_, fun h => absurd h (by decide)⟩
    have r1 : cA1 σ 31 111 120 110 1 = σ 110 1 := by unfold cA1; rw [if_neg (by omega)]
    rw [r1]
    refine c30_110_2_46 ?_
    have r2 : gup (cA1 σ 31 111 120) 30 1 (σ 110 1) 110 2 = σ 110 2 := by rw [gup_ne (by omega)]; unfold cA1; rw [if_neg (by omega)]
    rw [r2]
    exact hK) (fun k hk _ ih => by
    have bd : 0 ≤ iN k ∧ iN k < 120 := ⟨(iN_le (k := 0) (by decide) (by omega)).mpr (by omega), (iN_lt (m := 120) (by omega) (by decide)).mpr hk⟩
    refine c30_110_2_2 ⟨fun h => absurd bd.2 h, fun _ => ⟨fun h => absurd bd.2 h, fun _ => ⟨bd, bd, ?_⟩⟩⟩
    rw [iN_nat (by omega), cA1_s (by decide), iN_one]
    exact ih trivial) 0 (Nat.zero_le _) trivial
  rw [cA1_0] at main
  exact w2_30_110 main
set_option maxRecDepth 20000 in
theorem w2_139_30 {σ : gS} {K : gK} (h : gE 2 2 [some (.ref 139), some (.ref 30), some (.int 0)] [] σ K) : gE 2 0 [some (.ref 139), some (.ref 30), none] [] σ K :=
  gw_run (cy := 2) (cuts := [2, 46]) (inl := []) (pf := gpcp) gpcp_ok 400 (by decide) h
set_option maxRecDepth 20000 in
theorem c139_30_2_2 {σ : gS} {K : gK} {l2 : Int32} (h : ((¬ l2 < 120 → gE 2 46 [some (.ref 139), some (.ref 30), some (.int l2)] [] (gup σ 139 1 (σ 30 1)) K) ∧ (l2 < 120 → ((¬ l2 < 120 → gE 2 46 [some (.ref 139), some (.ref 30), some (.int l2)] [] (gup σ 139 1 (σ 30 1)) K) ∧ (l2 < 120 → (0 ≤ l2 ∧ l2 < 120) ∧ (0 ≤ l2 ∧ l2 < 120) ∧ gE 2 2 [some (.ref 139), some (.ref 30), some (.int (l2 + 1))] [] (gup σ 140 l2.toNatClampNeg (σ 31 l2.toNatClampNeg)) K))))) : gE 2 2 [some (.ref 139), some (.ref 30), some (.int l2)] [] σ K :=
  gw_run (cy := 2) (cuts := [2, 46]) (inl := []) (pf := gpcp) gpcp_ok 400 (by decide) h
set_option maxRecDepth 20000 in
theorem c139_30_2_46 {σ : gS} {K : gK} {l2 : Option Value} (h : K none (gup σ 139 2 (σ 30 2))) : gE 2 46 [some (.ref 139), some (.ref 30), l2] [] σ K :=
  gw_run (cy := 2) (cuts := [2, 46]) (inl := []) (pf := gpcp) gpcp_ok 400 (by decide) h
theorem s2_139_30 {σ : gS} {K : gK} (hK : K none (cLc σ 139 30)) : gE 2 0 [some (.ref 139), some (.ref 30), none] [] σ K := by
  unfold cLc at hK
  have main := g_forI (y := 2) (pc := 2) (K := K) 120 (fun k => [some (.ref 139), some (.ref 30), some (.int (iN k))]) (fun k => cA1 σ 140 31 k) (fun _ => True) (fun _ => by
    refine c139_30_2_2 ⟨fun _ => ?_, fun h => absurd h (by decide)⟩
    have r1 : cA1 σ 140 31 120 30 1 = σ 30 1 := by unfold cA1; rw [if_neg (by omega)]
    rw [r1]
    refine c139_30_2_46 ?_
    have r2 : gup (cA1 σ 140 31 120) 139 1 (σ 30 1) 30 2 = σ 30 2 := by rw [gup_ne (by omega)]; unfold cA1; rw [if_neg (by omega)]
    rw [r2]
    exact hK) (fun k hk _ ih => by
    have bd : 0 ≤ iN k ∧ iN k < 120 := ⟨(iN_le (k := 0) (by decide) (by omega)).mpr (by omega), (iN_lt (m := 120) (by omega) (by decide)).mpr hk⟩
    refine c139_30_2_2 ⟨fun h => absurd bd.2 h, fun _ => ⟨fun h => absurd bd.2 h, fun _ => ⟨bd, bd, ?_⟩⟩⟩
    rw [iN_nat (by omega), cA1_s (by decide), iN_one]
    exact ih trivial) 0 (Nat.zero_le _) trivial
  rw [cA1_0] at main
  exact w2_139_30 main
set_option maxRecDepth 20000 in
theorem w2_165_30 {σ : gS} {K : gK} (h : gE 2 2 [some (.ref 165), some (.ref 30), some (.int 0)] [] σ K) : gE 2 0 [some (.ref 165), some (.ref 30), none] [] σ K :=
  gw_run (cy := 2) (cuts := [2, 46]) (inl := []) (pf := gpcp) gpcp_ok 400 (by decide) h
set_option maxRecDepth 20000 in
theorem c165_30_2_2 {σ : gS} {K : gK} {l2 : Int32} (h : ((¬ l2 < 120 → gE 2 46 [some (.ref 165), some (.ref 30), some (.int l2)] [] (gup σ 165 1 (σ 30 1)) K) ∧ (l2 < 120 → ((¬ l2 < 120 → gE 2 46 [some (.ref 165), some (.ref 30), some (.int l2)] [] (gup σ 165 1 (σ 30 1)) K) ∧ (l2 < 120 → (0 ≤ l2 ∧ l2 < 120) ∧ (0 ≤ l2 ∧ l2 < 120) ∧ gE 2 2 [some (.ref 165), some (.ref 30), some (.int (l2 + 1))] [] (gup σ 166 l2.toNatClampNeg (σ 31 l2.toNatClampNeg)) K))))) : gE 2 2 [some (.ref 165), some (.ref 30), some (.int l2)] [] σ K :=
  gw_run (cy := 2) (cuts := [2, 46]) (inl := []) (pf := gpcp) gpcp_ok 400 (by decide) h
set_option maxRecDepth 20000 in
theorem c165_30_2_46 {σ : gS} {K : gK} {l2 : Option Value} (h : K none (gup σ 165 2 (σ 30 2))) : gE 2 46 [some (.ref 165), some (.ref 30), l2] [] σ K :=
  gw_run (cy := 2) (cuts := [2, 46]) (inl := []) (pf := gpcp) gpcp_ok 400 (by decide) h
theorem s2_165_30 {σ : gS} {K : gK} (hK : K none (cLc σ 165 30)) : gE 2 0 [some (.ref 165), some (.ref 30), none] [] σ K := by
  unfold cLc at hK
  have main := g_forI (y := 2) (pc := 2) (K := K) 120 (fun k => [some (.ref 165), some (.ref 30), some (.int (iN k))]) (fun k => cA1 σ 166 31 k) (fun _ => True) (fun _ => by
    refine c165_30_2_2 ⟨fun _ => ?_, fun h => absurd h (by decide)⟩
    have r1 : cA1 σ 166 31 120 30 1 = σ 30 1 := by unfold cA1; rw [if_neg (by omega)]
    rw [r1]
    refine c165_30_2_46 ?_
    have r2 : gup (cA1 σ 166 31 120) 165 1 (σ 30 1) 30 2 = σ 30 2 := by rw [gup_ne (by omega)]; unfold cA1; rw [if_neg (by omega)]
    rw [r2]
    exact hK) (fun k hk _ ih => by
    have bd : 0 ≤ iN k ∧ iN k < 120 := ⟨(iN_le (k := 0) (by decide) (by omega)).mpr (by omega), (iN_lt (m := 120) (by omega) (by decide)).mpr hk⟩
    refine c165_30_2_2 ⟨fun h => absurd bd.2 h, fun _ => ⟨fun h => absurd bd.2 h, fun _ => ⟨bd, bd, ?_⟩⟩⟩
    rw [iN_nat (by omega), cA1_s (by decide), iN_one]
    exact ih trivial) 0 (Nat.zero_le _) trivial
  rw [cA1_0] at main
  exact w2_165_30 main
set_option maxRecDepth 20000 in
theorem w2_191_30 {σ : gS} {K : gK} (h : gE 2 2 [some (.ref 191), some (.ref 30), some (.int 0)] [] σ K) : gE 2 0 [some (.ref 191), some (.ref 30), none] [] σ K :=
  gw_run (cy := 2) (cuts := [2, 46]) (inl := []) (pf := gpcp) gpcp_ok 400 (by decide) h
set_option maxRecDepth 20000 in
theorem c191_30_2_2 {σ : gS} {K : gK} {l2 : Int32} (h : ((¬ l2 < 120 → gE 2 46 [some (.ref 191), some (.ref 30), some (.int l2)] [] (gup σ 191 1 (σ 30 1)) K) ∧ (l2 < 120 → ((¬ l2 < 120 → gE 2 46 [some (.ref 191), some (.ref 30), some (.int l2)] [] (gup σ 191 1 (σ 30 1)) K) ∧ (l2 < 120 → (0 ≤ l2 ∧ l2 < 120) ∧ (0 ≤ l2 ∧ l2 < 120) ∧ gE 2 2 [some (.ref 191), some (.ref 30), some (.int (l2 + 1))] [] (gup σ 192 l2.toNatClampNeg (σ 31 l2.toNatClampNeg)) K))))) : gE 2 2 [some (.ref 191), some (.ref 30), some (.int l2)] [] σ K :=
  gw_run (cy := 2) (cuts := [2, 46]) (inl := []) (pf := gpcp) gpcp_ok 400 (by decide) h
set_option maxRecDepth 20000 in
theorem c191_30_2_46 {σ : gS} {K : gK} {l2 : Option Value} (h : K none (gup σ 191 2 (σ 30 2))) : gE 2 46 [some (.ref 191), some (.ref 30), l2] [] σ K :=
  gw_run (cy := 2) (cuts := [2, 46]) (inl := []) (pf := gpcp) gpcp_ok 400 (by decide) h
theorem s2_191_30 {σ : gS} {K : gK} (hK : K none (cLc σ 191 30)) : gE 2 0 [some (.ref 191), some (.ref 30), none] [] σ K := by
  unfold cLc at hK
  have main := g_forI (y := 2) (pc := 2) (K := K) 120 (fun k => [some (.ref 191), some (.ref 30), some (.int (iN k))]) (fun k => cA1 σ 192 31 k) (fun _ => True) (fun _ => by
    refine c191_30_2_2 ⟨fun _ => ?_, fun h => absurd h (by decide)⟩
    have r1 : cA1 σ 192 31 120 30 1 = σ 30 1 := by unfold cA1; rw [if_neg (by omega)]
    rw [r1]
    refine c191_30_2_46 ?_
    have r2 : gup (cA1 σ 192 31 120) 191 1 (σ 30 1) 30 2 = σ 30 2 := by rw [gup_ne (by omega)]; unfold cA1; rw [if_neg (by omega)]
    rw [r2]
    exact hK) (fun k hk _ ih => by
    have bd : 0 ≤ iN k ∧ iN k < 120 := ⟨(iN_le (k := 0) (by decide) (by omega)).mpr (by omega), (iN_lt (m := 120) (by omega) (by decide)).mpr hk⟩
    refine c191_30_2_2 ⟨fun h => absurd bd.2 h, fun _ => ⟨fun h => absurd bd.2 h, fun _ => ⟨bd, bd, ?_⟩⟩⟩
    rw [iN_nat (by omega), cA1_s (by decide), iN_one]
    exact ih trivial) 0 (Nat.zero_le _) trivial
  rw [cA1_0] at main
  exact w2_191_30 main
set_option maxRecDepth 20000 in
theorem w2_217_30 {σ : gS} {K : gK} (h : gE 2 2 [some (.ref 217), some (.ref 30), some (.int 0)] [] σ K) : gE 2 0 [some (.ref 217), some (.ref 30), none] [] σ K :=
  gw_run (cy := 2) (cuts := [2, 46]) (inl := []) (pf := gpcp) gpcp_ok 400 (by decide) h
set_option maxRecDepth 20000 in
theorem c217_30_2_2 {σ : gS} {K : gK} {l2 : Int32} (h : ((¬ l2 < 120 → gE 2 46 [some (.ref 217), some (.ref 30), some (.int l2)] [] (gup σ 217 1 (σ 30 1)) K) ∧ (l2 < 120 → ((¬ l2 < 120 → gE 2 46 [some (.ref 217), some (.ref 30), some (.int l2)] [] (gup σ 217 1 (σ 30 1)) K) ∧ (l2 < 120 → (0 ≤ l2 ∧ l2 < 120) ∧ (0 ≤ l2 ∧ l2 < 120) ∧ gE 2 2 [some (.ref 217), some (.ref 30), some (.int (l2 + 1))] [] (gup σ 218 l2.toNatClampNeg (σ 31 l2.toNatClampNeg)) K))))) : gE 2 2 [some (.ref 217), some (.ref 30), some (.int l2)] [] σ K :=
  gw_run (cy := 2) (cuts := [2, 46]) (inl := []) (pf := gpcp) gpcp_ok 400 (by decide) h
set_option maxRecDepth 20000 in
theorem c217_30_2_46 {σ : gS} {K : gK} {l2 : Option Value} (h : K none (gup σ 217 2 (σ 30 2))) : gE 2 46 [some (.ref 217), some (.ref 30), l2] [] σ K :=
  gw_run (cy := 2) (cuts := [2, 46]) (inl := []) (pf := gpcp) gpcp_ok 400 (by decide) h
theorem s2_217_30 {σ : gS} {K : gK} (hK : K none (cLc σ 217 30)) : gE 2 0 [some (.ref 217), some (.ref 30), none] [] σ K := by
  unfold cLc at hK
  have main := g_forI (y := 2) (pc := 2) (K := K) 120 (fun k => [some (.ref 217), some (.ref 30), some (.int (iN k))]) (fun k => cA1 σ 218 31 k) (fun _ => True) (fun _ => by
    refine c217_30_2_2 ⟨fun _ => ?_, fun h => absurd h (by decide)⟩
    have r1 : cA1 σ 218 31 120 30 1 = σ 30 1 := by unfold cA1; rw [if_neg (by omega)]
    rw [r1]
    refine c217_30_2_46 ?_
    have r2 : gup (cA1 σ 218 31 120) 217 1 (σ 30 1) 30 2 = σ 30 2 := by rw [gup_ne (by omega)]; unfold cA1; rw [if_neg (by omega)]
    rw [r2]
    exact hK) (fun k hk _ ih => by
    have bd : 0 ≤ iN k ∧ iN k < 120 := ⟨(iN_le (k := 0) (by decide) (by omega)).mpr (by omega), (iN_lt (m := 120) (by omega) (by decide)).mpr hk⟩
    refine c217_30_2_2 ⟨fun h => absurd bd.2 h, fun _ => ⟨fun h => absurd bd.2 h, fun _ => ⟨bd, bd, ?_⟩⟩⟩
    rw [iN_nat (by omega), cA1_s (by decide), iN_one]
    exact ih trivial) 0 (Nat.zero_le _) trivial
  rw [cA1_0] at main
  exact w2_217_30 main
set_option maxRecDepth 20000 in
theorem w2_243_30 {σ : gS} {K : gK} (h : gE 2 2 [some (.ref 243), some (.ref 30), some (.int 0)] [] σ K) : gE 2 0 [some (.ref 243), some (.ref 30), none] [] σ K :=
  gw_run (cy := 2) (cuts := [2, 46]) (inl := []) (pf := gpcp) gpcp_ok 400 (by decide) h
set_option maxRecDepth 20000 in
theorem c243_30_2_2 {σ : gS} {K : gK} {l2 : Int32} (h : ((¬ l2 < 120 → gE 2 46 [some (.ref 243), some (.ref 30), some (.int l2)] [] (gup σ 243 1 (σ 30 1)) K) ∧ (l2 < 120 → ((¬ l2 < 120 → gE 2 46 [some (.ref 243), some (.ref 30), some (.int l2)] [] (gup σ 243 1 (σ 30 1)) K) ∧ (l2 < 120 → (0 ≤ l2 ∧ l2 < 120) ∧ (0 ≤ l2 ∧ l2 < 120) ∧ gE 2 2 [some (.ref 243), some (.ref 30), some (.int (l2 + 1))] [] (gup σ 244 l2.toNatClampNeg (σ 31 l2.toNatClampNeg)) K))))) : gE 2 2 [some (.ref 243), some (.ref 30), some (.int l2)] [] σ K :=
  gw_run (cy := 2) (cuts := [2, 46]) (inl := []) (pf := gpcp) gpcp_ok 400 (by decide) h
set_option maxRecDepth 20000 in
theorem c243_30_2_46 {σ : gS} {K : gK} {l2 : Option Value} (h : K none (gup σ 243 2 (σ 30 2))) : gE 2 46 [some (.ref 243), some (.ref 30), l2] [] σ K :=
  gw_run (cy := 2) (cuts := [2, 46]) (inl := []) (pf := gpcp) gpcp_ok 400 (by decide) h
theorem s2_243_30 {σ : gS} {K : gK} (hK : K none (cLc σ 243 30)) : gE 2 0 [some (.ref 243), some (.ref 30), none] [] σ K := by
  unfold cLc at hK
  have main := g_forI (y := 2) (pc := 2) (K := K) 120 (fun k => [some (.ref 243), some (.ref 30), some (.int (iN k))]) (fun k => cA1 σ 244 31 k) (fun _ => True) (fun _ => by
    refine c243_30_2_2 ⟨fun _ => ?_, fun h => absurd h (by decide)⟩
    have r1 : cA1 σ 244 31 120 30 1 = σ 30 1 := by unfold cA1; rw [if_neg (by omega)]
    rw [r1]
    refine c243_30_2_46 ?_
    have r2 : gup (cA1 σ 244 31 120) 243 1 (σ 30 1) 30 2 = σ 30 2 := by rw [gup_ne (by omega)]; unfold cA1; rw [if_neg (by omega)]
    rw [r2]
    exact hK) (fun k hk _ ih => by
    have bd : 0 ≤ iN k ∧ iN k < 120 := ⟨(iN_le (k := 0) (by decide) (by omega)).mpr (by omega), (iN_lt (m := 120) (by omega) (by decide)).mpr hk⟩
    refine c243_30_2_2 ⟨fun h => absurd bd.2 h, fun _ => ⟨fun h => absurd bd.2 h, fun _ => ⟨bd, bd, ?_⟩⟩⟩
    rw [iN_nat (by omega), cA1_s (by decide), iN_one]
    exact ih trivial) 0 (Nat.zero_le _) trivial
  rw [cA1_0] at main
  exact w2_243_30 main
set_option maxRecDepth 20000 in
theorem w2_269_30 {σ : gS} {K : gK} (h : gE 2 2 [some (.ref 269), some (.ref 30), some (.int 0)] [] σ K) : gE 2 0 [some (.ref 269), some (.ref 30), none] [] σ K :=
  gw_run (cy := 2) (cuts := [2, 46]) (inl := []) (pf := gpcp) gpcp_ok 400 (by decide) h
set_option maxRecDepth 20000 in
theorem c269_30_2_2 {σ : gS} {K : gK} {l2 : Int32} (h : ((¬ l2 < 120 → gE 2 46 [some (.ref 269), some (.ref 30), some (.int l2)] [] (gup σ 269 1 (σ 30 1)) K) ∧ (l2 < 120 → ((¬ l2 < 120 → gE 2 46 [some (.ref 269), some (.ref 30), some (.int l2)] [] (gup σ 269 1 (σ 30 1)) K) ∧ (l2 < 120 → (0 ≤ l2 ∧ l2 < 120) ∧ (0 ≤ l2 ∧ l2 < 120) ∧ gE 2 2 [some (.ref 269), some (.ref 30), some (.int (l2 + 1))] [] (gup σ 270 l2.toNatClampNeg (σ 31 l2.toNatClampNeg)) K))))) : gE 2 2 [some (.ref 269), some (.ref 30), some (.int l2)] [] σ K :=
  gw_run (cy := 2) (cuts := [2, 46]) (inl := []) (pf := gpcp) gpcp_ok 400 (by decide) h
set_option maxRecDepth 20000 in
theorem c269_30_2_46 {σ : gS} {K : gK} {l2 : Option Value} (h : K none (gup σ 269 2 (σ 30 2))) : gE 2 46 [some (.ref 269), some (.ref 30), l2] [] σ K :=
  gw_run (cy := 2) (cuts := [2, 46]) (inl := []) (pf := gpcp) gpcp_ok 400 (by decide) h
theorem s2_269_30 {σ : gS} {K : gK} (hK : K none (cLc σ 269 30)) : gE 2 0 [some (.ref 269), some (.ref 30), none] [] σ K := by
  unfold cLc at hK
  have main := g_forI (y := 2) (pc := 2) (K := K) 120 (fun k => [some (.ref 269), some (.ref 30), some (.int (iN k))]) (fun k => cA1 σ 270 31 k) (fun _ => True) (fun _ => by
    refine c269_30_2_2 ⟨fun _ => ?_, fun h => absurd h (by decide)⟩
    have r1 : cA1 σ 270 31 120 30 1 = σ 30 1 := by unfold cA1; rw [if_neg (by omega)]
    rw [r1]
    refine c269_30_2_46 ?_
    have r2 : gup (cA1 σ 270 31 120) 269 1 (σ 30 1) 30 2 = σ 30 2 := by rw [gup_ne (by omega)]; unfold cA1; rw [if_neg (by omega)]
    rw [r2]
    exact hK) (fun k hk _ ih => by
    have bd : 0 ≤ iN k ∧ iN k < 120 := ⟨(iN_le (k := 0) (by decide) (by omega)).mpr (by omega), (iN_lt (m := 120) (by omega) (by decide)).mpr hk⟩
    refine c269_30_2_2 ⟨fun h => absurd bd.2 h, fun _ => ⟨fun h => absurd bd.2 h, fun _ => ⟨bd, bd, ?_⟩⟩⟩
    rw [iN_nat (by omega), cA1_s (by decide), iN_one]
    exact ih trivial) 0 (Nat.zero_le _) trivial
  rw [cA1_0] at main
  exact w2_269_30 main
set_option maxRecDepth 20000 in
theorem w2_295_30 {σ : gS} {K : gK} (h : gE 2 2 [some (.ref 295), some (.ref 30), some (.int 0)] [] σ K) : gE 2 0 [some (.ref 295), some (.ref 30), none] [] σ K :=
  gw_run (cy := 2) (cuts := [2, 46]) (inl := []) (pf := gpcp) gpcp_ok 400 (by decide) h
set_option maxRecDepth 20000 in
theorem c295_30_2_2 {σ : gS} {K : gK} {l2 : Int32} (h : ((¬ l2 < 120 → gE 2 46 [some (.ref 295), some (.ref 30), some (.int l2)] [] (gup σ 295 1 (σ 30 1)) K) ∧ (l2 < 120 → ((¬ l2 < 120 → gE 2 46 [some (.ref 295), some (.ref 30), some (.int l2)] [] (gup σ 295 1 (σ 30 1)) K) ∧ (l2 < 120 → (0 ≤ l2 ∧ l2 < 120) ∧ (0 ≤ l2 ∧ l2 < 120) ∧ gE 2 2 [some (.ref 295), some (.ref 30), some (.int (l2 + 1))] [] (gup σ 296 l2.toNatClampNeg (σ 31 l2.toNatClampNeg)) K))))) : gE 2 2 [some (.ref 295), some (.ref 30), some (.int l2)] [] σ K :=
  gw_run (cy := 2) (cuts := [2, 46]) (inl := []) (pf := gpcp) gpcp_ok 400 (by decide) h
set_option maxRecDepth 20000 in
theorem c295_30_2_46 {σ : gS} {K : gK} {l2 : Option Value} (h : K none (gup σ 295 2 (σ 30 2))) : gE 2 46 [some (.ref 295), some (.ref 30), l2] [] σ K :=
  gw_run (cy := 2) (cuts := [2, 46]) (inl := []) (pf := gpcp) gpcp_ok 400 (by decide) h
theorem s2_295_30 {σ : gS} {K : gK} (hK : K none (cLc σ 295 30)) : gE 2 0 [some (.ref 295), some (.ref 30), none] [] σ K := by
  unfold cLc at hK
  have main := g_forI (y := 2) (pc := 2) (K := K) 120 (fun k => [some (.ref 295), some (.ref 30), some (.int (iN k))]) (fun k => cA1 σ 296 31 k) (fun _ => True) (fun _ => by
    refine c295_30_2_2 ⟨fun _ => ?_, fun h => absurd h (by decide)⟩
    have r1 : cA1 σ 296 31 120 30 1 = σ 30 1 := by unfold cA1; rw [if_neg (by omega)]
    rw [r1]
    refine c295_30_2_46 ?_
    have r2 : gup (cA1 σ 296 31 120) 295 1 (σ 30 1) 30 2 = σ 30 2 := by rw [gup_ne (by omega)]; unfold cA1; rw [if_neg (by omega)]
    rw [r2]
    exact hK) (fun k hk _ ih => by
    have bd : 0 ≤ iN k ∧ iN k < 120 := ⟨(iN_le (k := 0) (by decide) (by omega)).mpr (by omega), (iN_lt (m := 120) (by omega) (by decide)).mpr hk⟩
    refine c295_30_2_2 ⟨fun h => absurd bd.2 h, fun _ => ⟨fun h => absurd bd.2 h, fun _ => ⟨bd, bd, ?_⟩⟩⟩
    rw [iN_nat (by omega), cA1_s (by decide), iN_one]
    exact ih trivial) 0 (Nat.zero_le _) trivial
  rw [cA1_0] at main
  exact w2_295_30 main
set_option maxRecDepth 20000 in
theorem w2_321_30 {σ : gS} {K : gK} (h : gE 2 2 [some (.ref 321), some (.ref 30), some (.int 0)] [] σ K) : gE 2 0 [some (.ref 321), some (.ref 30), none] [] σ K :=
  gw_run (cy := 2) (cuts := [2, 46]) (inl := []) (pf := gpcp) gpcp_ok 400 (by decide) h
set_option maxRecDepth 20000 in
theorem c321_30_2_2 {σ : gS} {K : gK} {l2 : Int32} (h : ((¬ l2 < 120 → gE 2 46 [some (.ref 321), some (.ref 30), some (.int l2)] [] (gup σ 321 1 (σ 30 1)) K) ∧ (l2 < 120 → ((¬ l2 < 120 → gE 2 46 [some (.ref 321), some (.ref 30), some (.int l2)] [] (gup σ 321 1 (σ 30 1)) K) ∧ (l2 < 120 → (0 ≤ l2 ∧ l2 < 120) ∧ (0 ≤ l2 ∧ l2 < 120) ∧ gE 2 2 [some (.ref 321), some (.ref 30), some (.int (l2 + 1))] [] (gup σ 322 l2.toNatClampNeg (σ 31 l2.toNatClampNeg)) K))))) : gE 2 2 [some (.ref 321), some (.ref 30), some (.int l2)] [] σ K :=
  gw_run (cy := 2) (cuts := [2, 46]) (inl := []) (pf := gpcp) gpcp_ok 400 (by decide) h
set_option maxRecDepth 20000 in
theorem c321_30_2_46 {σ : gS} {K : gK} {l2 : Option Value} (h : K none (gup σ 321 2 (σ 30 2))) : gE 2 46 [some (.ref 321), some (.ref 30), l2] [] σ K :=
  gw_run (cy := 2) (cuts := [2, 46]) (inl := []) (pf := gpcp) gpcp_ok 400 (by decide) h
theorem s2_321_30 {σ : gS} {K : gK} (hK : K none (cLc σ 321 30)) : gE 2 0 [some (.ref 321), some (.ref 30), none] [] σ K := by
  unfold cLc at hK
  have main := g_forI (y := 2) (pc := 2) (K := K) 120 (fun k => [some (.ref 321), some (.ref 30), some (.int (iN k))]) (fun k => cA1 σ 322 31 k) (fun _ => True) (fun _ => by
    refine c321_30_2_2 ⟨fun _ => ?_, fun h => absurd h (by decide)⟩
    have r1 : cA1 σ 322 31 120 30 1 = σ 30 1 := by unfold cA1; rw [if_neg (by omega)]
    rw [r1]
    refine c321_30_2_46 ?_
    have r2 : gup (cA1 σ 322 31 120) 321 1 (σ 30 1) 30 2 = σ 30 2 := by rw [gup_ne (by omega)]; unfold cA1; rw [if_neg (by omega)]
    rw [r2]
    exact hK) (fun k hk _ ih => by
    have bd : 0 ≤ iN k ∧ iN k < 120 := ⟨(iN_le (k := 0) (by decide) (by omega)).mpr (by omega), (iN_lt (m := 120) (by omega) (by decide)).mpr hk⟩
    refine c321_30_2_2 ⟨fun h => absurd bd.2 h, fun _ => ⟨fun h => absurd bd.2 h, fun _ => ⟨bd, bd, ?_⟩⟩⟩
    rw [iN_nat (by omega), cA1_s (by decide), iN_one]
    exact ih trivial) 0 (Nat.zero_le _) trivial
  rw [cA1_0] at main
  exact w2_321_30 main
set_option maxRecDepth 20000 in
theorem w2_30_139 {σ : gS} {K : gK} (h : gE 2 2 [some (.ref 30), some (.ref 139), some (.int 0)] [] σ K) : gE 2 0 [some (.ref 30), some (.ref 139), none] [] σ K :=
  gw_run (cy := 2) (cuts := [2, 46]) (inl := []) (pf := gpcp) gpcp_ok 400 (by decide) h
set_option maxRecDepth 20000 in
theorem c30_139_2_2 {σ : gS} {K : gK} {l2 : Int32} (h : ((¬ l2 < 120 → gE 2 46 [some (.ref 30), some (.ref 139), some (.int l2)] [] (gup σ 30 1 (σ 139 1)) K) ∧ (l2 < 120 → ((¬ l2 < 120 → gE 2 46 [some (.ref 30), some (.ref 139), some (.int l2)] [] (gup σ 30 1 (σ 139 1)) K) ∧ (l2 < 120 → (0 ≤ l2 ∧ l2 < 120) ∧ (0 ≤ l2 ∧ l2 < 120) ∧ gE 2 2 [some (.ref 30), some (.ref 139), some (.int (l2 + 1))] [] (gup σ 31 l2.toNatClampNeg (σ 140 l2.toNatClampNeg)) K))))) : gE 2 2 [some (.ref 30), some (.ref 139), some (.int l2)] [] σ K :=
  gw_run (cy := 2) (cuts := [2, 46]) (inl := []) (pf := gpcp) gpcp_ok 400 (by decide) h
set_option maxRecDepth 20000 in
theorem c30_139_2_46 {σ : gS} {K : gK} {l2 : Option Value} (h : K none (gup σ 30 2 (σ 139 2))) : gE 2 46 [some (.ref 30), some (.ref 139), l2] [] σ K :=
  gw_run (cy := 2) (cuts := [2, 46]) (inl := []) (pf := gpcp) gpcp_ok 400 (by decide) h
theorem s2_30_139 {σ : gS} {K : gK} (hK : K none (cLc σ 30 139)) : gE 2 0 [some (.ref 30), some (.ref 139), none] [] σ K := by
  unfold cLc at hK
  have main := g_forI (y := 2) (pc := 2) (K := K) 120 (fun k => [some (.ref 30), some (.ref 139), some (.int (iN k))]) (fun k => cA1 σ 31 140 k) (fun _ => True) (fun _ => by
    refine c30_139_2_2 ⟨fun _ => ?_, fun h => absurd h (by decide)⟩
    have r1 : cA1 σ 31 140 120 139 1 = σ 139 1 := by unfold cA1; rw [if_neg (by omega)]
    rw [r1]
    refine c30_139_2_46 ?_
    have r2 : gup (cA1 σ 31 140 120) 30 1 (σ 139 1) 139 2 = σ 139 2 := by rw [gup_ne (by omega)]; unfold cA1; rw [if_neg (by omega)]
    rw [r2]
    exact hK) (fun k hk _ ih => by
    have bd : 0 ≤ iN k ∧ iN k < 120 := ⟨(iN_le (k := 0) (by decide) (by omega)).mpr (by omega), (iN_lt (m := 120) (by omega) (by decide)).mpr hk⟩
    refine c30_139_2_2 ⟨fun h => absurd bd.2 h, fun _ => ⟨fun h => absurd bd.2 h, fun _ => ⟨bd, bd, ?_⟩⟩⟩
    rw [iN_nat (by omega), cA1_s (by decide), iN_one]
    exact ih trivial) 0 (Nat.zero_le _) trivial
  rw [cA1_0] at main
  exact w2_30_139 main
set_option maxRecDepth 20000 in
theorem w2_30_165 {σ : gS} {K : gK} (h : gE 2 2 [some (.ref 30), some (.ref 165), some (.int 0)] [] σ K) : gE 2 0 [some (.ref 30), some (.ref 165), none] [] σ K :=
  gw_run (cy := 2) (cuts := [2, 46]) (inl := []) (pf := gpcp) gpcp_ok 400 (by decide) h
set_option maxRecDepth 20000 in
theorem c30_165_2_2 {σ : gS} {K : gK} {l2 : Int32} (h : ((¬ l2 < 120 → gE 2 46 [some (.ref 30), some (.ref 165), some (.int l2)] [] (gup σ 30 1 (σ 165 1)) K) ∧ (l2 < 120 → ((¬ l2 < 120 → gE 2 46 [some (.ref 30), some (.ref 165), some (.int l2)] [] (gup σ 30 1 (σ 165 1)) K) ∧ (l2 < 120 → (0 ≤ l2 ∧ l2 < 120) ∧ (0 ≤ l2 ∧ l2 < 120) ∧ gE 2 2 [some (.ref 30), some (.ref 165), some (.int (l2 + 1))] [] (gup σ 31 l2.toNatClampNeg (σ 166 l2.toNatClampNeg)) K))))) : gE 2 2 [some (.ref 30), some (.ref 165), some (.int l2)] [] σ K :=
  gw_run (cy := 2) (cuts := [2, 46]) (inl := []) (pf := gpcp) gpcp_ok 400 (by decide) h
set_option maxRecDepth 20000 in
theorem c30_165_2_46 {σ : gS} {K : gK} {l2 : Option Value} (h : K none (gup σ 30 2 (σ 165 2))) : gE 2 46 [some (.ref 30), some (.ref 165), l2] [] σ K :=
  gw_run (cy := 2) (cuts := [2, 46]) (inl := []) (pf := gpcp) gpcp_ok 400 (by decide) h
theorem s2_30_165 {σ : gS} {K : gK} (hK : K none (cLc σ 30 165)) : gE 2 0 [some (.ref 30), some (.ref 165), none] [] σ K := by
  unfold cLc at hK
  have main := g_forI (y := 2) (pc := 2) (K := K) 120 (fun k => [some (.ref 30), some (.ref 165), some (.int (iN k))]) (fun k => cA1 σ 31 166 k) (fun _ => True) (fun _ => by
    refine c30_165_2_2 ⟨fun _ => ?_, fun h => absurd h (by decide)⟩
    have r1 : cA1 σ 31 166 120 165 1 = σ 165 1 := by unfold cA1; rw [if_neg (by omega)]
    rw [r1]
    refine c30_165_2_46 ?_
    have r2 : gup (cA1 σ 31 166 120) 30 1 (σ 165 1) 165 2 = σ 165 2 := by rw [gup_ne (by omega)]; unfold cA1; rw [if_neg (by omega)]
    rw [r2]
    exact hK) (fun k hk _ ih => by
    have bd : 0 ≤ iN k ∧ iN k < 120 := ⟨(iN_le (k := 0) (by decide) (by omega)).mpr (by omega), (iN_lt (m := 120) (by omega) (by decide)).mpr hk⟩
    refine c30_165_2_2 ⟨fun h => absurd bd.2 h, fun _ => ⟨fun h => absurd bd.2 h, fun _ => ⟨bd, bd, ?_⟩⟩⟩
    rw [iN_nat (by omega), cA1_s (by decide), iN_one]
    exact ih trivial) 0 (Nat.zero_le _) trivial
  rw [cA1_0] at main
  exact w2_30_165 main
set_option maxRecDepth 20000 in
theorem w2_30_191 {σ : gS} {K : gK} (h : gE 2 2 [some (.ref 30), some (.ref 191), some (.int 0)] [] σ K) : gE 2 0 [some (.ref 30), some (.ref 191), none] [] σ K :=
  gw_run (cy := 2) (cuts := [2, 46]) (inl := []) (pf := gpcp) gpcp_ok 400 (by decide) h
set_option maxRecDepth 20000 in
theorem c30_191_2_2 {σ : gS} {K : gK} {l2 : Int32} (h : ((¬ l2 < 120 → gE 2 46 [some (.ref 30), some (.ref 191), some (.int l2)] [] (gup σ 30 1 (σ 191 1)) K) ∧ (l2 < 120 → ((¬ l2 < 120 → gE 2 46 [some (.ref 30), some (.ref 191), some (.int l2)] [] (gup σ 30 1 (σ 191 1)) K) ∧ (l2 < 120 → (0 ≤ l2 ∧ l2 < 120) ∧ (0 ≤ l2 ∧ l2 < 120) ∧ gE 2 2 [some (.ref 30), some (.ref 191), some (.int (l2 + 1))] [] (gup σ 31 l2.toNatClampNeg (σ 192 l2.toNatClampNeg)) K))))) : gE 2 2 [some (.ref 30), some (.ref 191), some (.int l2)] [] σ K :=
  gw_run (cy := 2) (cuts := [2, 46]) (inl := []) (pf := gpcp) gpcp_ok 400 (by decide) h
set_option maxRecDepth 20000 in
theorem c30_191_2_46 {σ : gS} {K : gK} {l2 : Option Value} (h : K none (gup σ 30 2 (σ 191 2))) : gE 2 46 [some (.ref 30), some (.ref 191), l2] [] σ K :=
  gw_run (cy := 2) (cuts := [2, 46]) (inl := []) (pf := gpcp) gpcp_ok 400 (by decide) h
theorem s2_30_191 {σ : gS} {K : gK} (hK : K none (cLc σ 30 191)) : gE 2 0 [some (.ref 30), some (.ref 191), none] [] σ K := by
  unfold cLc at hK
  have main := g_forI (y := 2) (pc := 2) (K := K) 120 (fun k => [some (.ref 30), some (.ref 191), some (.int (iN k))]) (fun k => cA1 σ 31 192 k) (fun _ => True) (fun _ => by
    refine c30_191_2_2 ⟨fun _ => ?_, fun h => absurd h (by decide)⟩
    have r1 : cA1 σ 31 192 120 191 1 = σ 191 1 := by unfold cA1; rw [if_neg (by omega)]
    rw [r1]
    refine c30_191_2_46 ?_
    have r2 : gup (cA1 σ 31 192 120) 30 1 (σ 191 1) 191 2 = σ 191 2 := by rw [gup_ne (by omega)]; unfold cA1; rw [if_neg (by omega)]
    rw [r2]
    exact hK) (fun k hk _ ih => by
    have bd : 0 ≤ iN k ∧ iN k < 120 := ⟨(iN_le (k := 0) (by decide) (by omega)).mpr (by omega), (iN_lt (m := 120) (by omega) (by decide)).mpr hk⟩
    refine c30_191_2_2 ⟨fun h => absurd bd.2 h, fun _ => ⟨fun h => absurd bd.2 h, fun _ => ⟨bd, bd, ?_⟩⟩⟩
    rw [iN_nat (by omega), cA1_s (by decide), iN_one]
    exact ih trivial) 0 (Nat.zero_le _) trivial
  rw [cA1_0] at main
  exact w2_30_191 main
set_option maxRecDepth 20000 in
theorem w2_30_217 {σ : gS} {K : gK} (h : gE 2 2 [some (.ref 30), some (.ref 217), some (.int 0)] [] σ K) : gE 2 0 [some (.ref 30), some (.ref 217), none] [] σ K :=
  gw_run (cy := 2) (cuts := [2, 46]) (inl := []) (pf := gpcp) gpcp_ok 400 (by decide) h
set_option maxRecDepth 20000 in
theorem c30_217_2_2 {σ : gS} {K : gK} {l2 : Int32} (h : ((¬ l2 < 120 → gE 2 46 [some (.ref 30), some (.ref 217), some (.int l2)] [] (gup σ 30 1 (σ 217 1)) K) ∧ (l2 < 120 → ((¬ l2 < 120 → gE 2 46 [some (.ref 30), some (.ref 217), some (.int l2)] [] (gup σ 30 1 (σ 217 1)) K) ∧ (l2 < 120 → (0 ≤ l2 ∧ l2 < 120) ∧ (0 ≤ l2 ∧ l2 < 120) ∧ gE 2 2 [some (.ref 30), some (.ref 217), some (.int (l2 + 1))] [] (gup σ 31 l2.toNatClampNeg (σ 218 l2.toNatClampNeg)) K))))) : gE 2 2 [some (.ref 30), some (.ref 217), some (.int l2)] [] σ K :=
  gw_run (cy := 2) (cuts := [2, 46]) (inl := []) (pf := gpcp) gpcp_ok 400 (by decide) h
set_option maxRecDepth 20000 in
theorem c30_217_2_46 {σ : gS} {K : gK} {l2 : Option Value} (h : K none (gup σ 30 2 (σ 217 2))) : gE 2 46 [some (.ref 30), some (.ref 217), l2] [] σ K :=
  gw_run (cy := 2) (cuts := [2, 46]) (inl := []) (pf := gpcp) gpcp_ok 400 (by decide) h
theorem s2_30_217 {σ : gS} {K : gK} (hK : K none (cLc σ 30 217)) : gE 2 0 [some (.ref 30), some (.ref 217), none] [] σ K := by
  unfold cLc at hK
  have main := g_forI (y := 2) (pc := 2) (K := K) 120 (fun k => [some (.ref 30), some (.ref 217), some (.int (iN k))]) (fun k => cA1 σ 31 218 k) (fun _ => True) (fun _ => by
    refine c30_217_2_2 ⟨fun _ => ?_, fun h => absurd h (by decide)⟩
    have r1 : cA1 σ 31 218 120 217 1 = σ 217 1 := by unfold cA1; rw [if_neg (by omega)]
    rw [r1]
    refine c30_217_2_46 ?_
    have r2 : gup (cA1 σ 31 218 120) 30 1 (σ 217 1) 217 2 = σ 217 2 := by rw [gup_ne (by omega)]; unfold cA1; rw [if_neg (by omega)]
    rw [r2]
    exact hK) (fun k hk _ ih => by
    have bd : 0 ≤ iN k ∧ iN k < 120 := ⟨(iN_le (k := 0) (by decide) (by omega)).mpr (by omega), (iN_lt (m := 120) (by omega) (by decide)).mpr hk⟩
    refine c30_217_2_2 ⟨fun h => absurd bd.2 h, fun _ => ⟨fun h => absurd bd.2 h, fun _ => ⟨bd, bd, ?_⟩⟩⟩
    rw [iN_nat (by omega), cA1_s (by decide), iN_one]
    exact ih trivial) 0 (Nat.zero_le _) trivial
  rw [cA1_0] at main
  exact w2_30_217 main
set_option maxRecDepth 20000 in
theorem w2_30_243 {σ : gS} {K : gK} (h : gE 2 2 [some (.ref 30), some (.ref 243), some (.int 0)] [] σ K) : gE 2 0 [some (.ref 30), some (.ref 243), none] [] σ K :=
  gw_run (cy := 2) (cuts := [2, 46]) (inl := []) (pf := gpcp) gpcp_ok 400 (by decide) h
set_option maxRecDepth 20000 in
theorem c30_243_2_2 {σ : gS} {K : gK} {l2 : Int32} (h : ((¬ l2 < 120 → gE 2 46 [some (.ref 30), some (.ref 243), some (.int l2)] [] (gup σ 30 1 (σ 243 1)) K) ∧ (l2 < 120 → ((¬ l2 < 120 → gE 2 46 [some (.ref 30), some (.ref 243), some (.int l2)] [] (gup σ 30 1 (σ 243 1)) K) ∧ (l2 < 120 → (0 ≤ l2 ∧ l2 < 120) ∧ (0 ≤ l2 ∧ l2 < 120) ∧ gE 2 2 [some (.ref 30), some (.ref 243), some (.int (l2 + 1))] [] (gup σ 31 l2.toNatClampNeg (σ 244 l2.toNatClampNeg)) K))))) : gE 2 2 [some (.ref 30), some (.ref 243), some (.int l2)] [] σ K :=
  gw_run (cy := 2) (cuts := [2, 46]) (inl := []) (pf := gpcp) gpcp_ok 400 (by decide) h
set_option maxRecDepth 20000 in
theorem c30_243_2_46 {σ : gS} {K : gK} {l2 : Option Value} (h : K none (gup σ 30 2 (σ 243 2))) : gE 2 46 [some (.ref 30), some (.ref 243), l2] [] σ K :=
  gw_run (cy := 2) (cuts := [2, 46]) (inl := []) (pf := gpcp) gpcp_ok 400 (by decide) h
theorem s2_30_243 {σ : gS} {K : gK} (hK : K none (cLc σ 30 243)) : gE 2 0 [some (.ref 30), some (.ref 243), none] [] σ K := by
  unfold cLc at hK
  have main := g_forI (y := 2) (pc := 2) (K := K) 120 (fun k => [some (.ref 30), some (.ref 243), some (.int (iN k))]) (fun k => cA1 σ 31 244 k) (fun _ => True) (fun _ => by
    refine c30_243_2_2 ⟨fun _ => ?_, fun h => absurd h (by decide)⟩
    have r1 : cA1 σ 31 244 120 243 1 = σ 243 1 := by unfold cA1; rw [if_neg (by omega)]
    rw [r1]
    refine c30_243_2_46 ?_
    have r2 : gup (cA1 σ 31 244 120) 30 1 (σ 243 1) 243 2 = σ 243 2 := by rw [gup_ne (by omega)]; unfold cA1; rw [if_neg (by omega)]
    rw [r2]
    exact hK) (fun k hk _ ih => by
    have bd : 0 ≤ iN k ∧ iN k < 120 := ⟨(iN_le (k := 0) (by decide) (by omega)).mpr (by omega), (iN_lt (m := 120) (by omega) (by decide)).mpr hk⟩
    refine c30_243_2_2 ⟨fun h => absurd bd.2 h, fun _ => ⟨fun h => absurd bd.2 h, fun _ => ⟨bd, bd, ?_⟩⟩⟩
    rw [iN_nat (by omega), cA1_s (by decide), iN_one]
    exact ih trivial) 0 (Nat.zero_le _) trivial
  rw [cA1_0] at main
  exact w2_30_243 main
set_option maxRecDepth 20000 in
theorem w2_30_269 {σ : gS} {K : gK} (h : gE 2 2 [some (.ref 30), some (.ref 269), some (.int 0)] [] σ K) : gE 2 0 [some (.ref 30), some (.ref 269), none] [] σ K :=
  gw_run (cy := 2) (cuts := [2, 46]) (inl := []) (pf := gpcp) gpcp_ok 400 (by decide) h
set_option maxRecDepth 20000 in
theorem c30_269_2_2 {σ : gS} {K : gK} {l2 : Int32} (h : ((¬ l2 < 120 → gE 2 46 [some (.ref 30), some (.ref 269), some (.int l2)] [] (gup σ 30 1 (σ 269 1)) K) ∧ (l2 < 120 → ((¬ l2 < 120 → gE 2 46 [some (.ref 30), some (.ref 269), some (.int l2)] [] (gup σ 30 1 (σ 269 1)) K) ∧ (l2 < 120 → (0 ≤ l2 ∧ l2 < 120) ∧ (0 ≤ l2 ∧ l2 < 120) ∧ gE 2 2 [some (.ref 30), some (.ref 269), some (.int (l2 + 1))] [] (gup σ 31 l2.toNatClampNeg (σ 270 l2.toNatClampNeg)) K))))) : gE 2 2 [some (.ref 30), some (.ref 269), some (.int l2)] [] σ K :=
  gw_run (cy := 2) (cuts := [2, 46]) (inl := []) (pf := gpcp) gpcp_ok 400 (by decide) h
set_option maxRecDepth 20000 in
theorem c30_269_2_46 {σ : gS} {K : gK} {l2 : Option Value} (h : K none (gup σ 30 2 (σ 269 2))) : gE 2 46 [some (.ref 30), some (.ref 269), l2] [] σ K :=
  gw_run (cy := 2) (cuts := [2, 46]) (inl := []) (pf := gpcp) gpcp_ok 400 (by decide) h
theorem s2_30_269 {σ : gS} {K : gK} (hK : K none (cLc σ 30 269)) : gE 2 0 [some (.ref 30), some (.ref 269), none] [] σ K := by
  unfold cLc at hK
  have main := g_forI (y := 2) (pc := 2) (K := K) 120 (fun k => [some (.ref 30), some (.ref 269), some (.int (iN k))]) (fun k => cA1 σ 31 270 k) (fun _ => True) (fun _ => by
    refine c30_269_2_2 ⟨fun _ => ?_, fun h => absurd h (by decide)⟩
    have r1 : cA1 σ 31 270 120 269 1 = σ 269 1 := by unfold cA1; rw [if_neg (by omega)]
    rw [r1]
    refine c30_269_2_46 ?_
    have r2 : gup (cA1 σ 31 270 120) 30 1 (σ 269 1) 269 2 = σ 269 2 := by rw [gup_ne (by omega)]; unfold cA1; rw [if_neg (by omega)]
    rw [r2]
    exact hK) (fun k hk _ ih => by
    have bd : 0 ≤ iN k ∧ iN k < 120 := ⟨(iN_le (k := 0) (by decide) (by omega)).mpr (by omega), (iN_lt (m := 120) (by omega) (by decide)).mpr hk⟩
    refine c30_269_2_2 ⟨fun h => absurd bd.2 h, fun _ => ⟨fun h => absurd bd.2 h, fun _ => ⟨bd, bd, ?_⟩⟩⟩
    rw [iN_nat (by omega), cA1_s (by decide), iN_one]
    exact ih trivial) 0 (Nat.zero_le _) trivial
  rw [cA1_0] at main
  exact w2_30_269 main
set_option maxRecDepth 20000 in
theorem w2_30_295 {σ : gS} {K : gK} (h : gE 2 2 [some (.ref 30), some (.ref 295), some (.int 0)] [] σ K) : gE 2 0 [some (.ref 30), some (.ref 295), none] [] σ K :=
  gw_run (cy := 2) (cuts := [2, 46]) (inl := []) (pf := gpcp) gpcp_ok 400 (by decide) h
set_option maxRecDepth 20000 in
theorem c30_295_2_2 {σ : gS} {K : gK} {l2 : Int32} (h : ((¬ l2 < 120 → gE 2 46 [some (.ref 30), some (.ref 295), some (.int l2)] [] (gup σ 30 1 (σ 295 1)) K) ∧ (l2 < 120 → ((¬ l2 < 120 → gE 2 46 [some (.ref 30), some (.ref 295), some (.int l2)] [] (gup σ 30 1 (σ 295 1)) K) ∧ (l2 < 120 → (0 ≤ l2 ∧ l2 < 120) ∧ (0 ≤ l2 ∧ l2 < 120) ∧ gE 2 2 [some (.ref 30), some (.ref 295), some (.int (l2 + 1))] [] (gup σ 31 l2.toNatClampNeg (σ 296 l2.toNatClampNeg)) K))))) : gE 2 2 [some (.ref 30), some (.ref 295), some (.int l2)] [] σ K :=
  gw_run (cy := 2) (cuts := [2, 46]) (inl := []) (pf := gpcp) gpcp_ok 400 (by decide) h
set_option maxRecDepth 20000 in
theorem c30_295_2_46 {σ : gS} {K : gK} {l2 : Option Value} (h : K none (gup σ 30 2 (σ 295 2))) : gE 2 46 [some (.ref 30), some (.ref 295), l2] [] σ K :=
  gw_run (cy := 2) (cuts := [2, 46]) (inl := []) (pf := gpcp) gpcp_ok 400 (by decide) h
theorem s2_30_295 {σ : gS} {K : gK} (hK : K none (cLc σ 30 295)) : gE 2 0 [some (.ref 30), some (.ref 295), none] [] σ K := by
  unfold cLc at hK
  have main := g_forI (y := 2) (pc := 2) (K := K) 120 (fun k => [some (.ref 30), some (.ref 295), some (.int (iN k))]) (fun k => cA1 σ 31 296 k) (fun _ => True) (fun _ => by
    refine c30_295_2_2 ⟨fun _ => ?_, fun h => absurd h (by decide)⟩
    have r1 : cA1 σ 31 296 120 295 1 = σ 295 1 := by unfold cA1; rw [if_neg (by omega)]
    rw [r1]
    refine c30_295_2_46 ?_
    have r2 : gup (cA1 σ 31 296 120) 30 1 (σ 295 1) 295 2 = σ 295 2 := by rw [gup_ne (by omega)]; unfold cA1; rw [if_neg (by omega)]
    rw [r2]
    exact hK) (fun k hk _ ih => by
    have bd : 0 ≤ iN k ∧ iN k < 120 := ⟨(iN_le (k := 0) (by decide) (by omega)).mpr (by omega), (iN_lt (m := 120) (by omega) (by decide)).mpr hk⟩
    refine c30_295_2_2 ⟨fun h => absurd bd.2 h, fun _ => ⟨fun h => absurd bd.2 h, fun _ => ⟨bd, bd, ?_⟩⟩⟩
    rw [iN_nat (by omega), cA1_s (by decide), iN_one]
    exact ih trivial) 0 (Nat.zero_le _) trivial
  rw [cA1_0] at main
  exact w2_30_295 main
set_option maxRecDepth 20000 in
theorem w2_30_321 {σ : gS} {K : gK} (h : gE 2 2 [some (.ref 30), some (.ref 321), some (.int 0)] [] σ K) : gE 2 0 [some (.ref 30), some (.ref 321), none] [] σ K :=
  gw_run (cy := 2) (cuts := [2, 46]) (inl := []) (pf := gpcp) gpcp_ok 400 (by decide) h
set_option maxRecDepth 20000 in
theorem c30_321_2_2 {σ : gS} {K : gK} {l2 : Int32} (h : ((¬ l2 < 120 → gE 2 46 [some (.ref 30), some (.ref 321), some (.int l2)] [] (gup σ 30 1 (σ 321 1)) K) ∧ (l2 < 120 → ((¬ l2 < 120 → gE 2 46 [some (.ref 30), some (.ref 321), some (.int l2)] [] (gup σ 30 1 (σ 321 1)) K) ∧ (l2 < 120 → (0 ≤ l2 ∧ l2 < 120) ∧ (0 ≤ l2 ∧ l2 < 120) ∧ gE 2 2 [some (.ref 30), some (.ref 321), some (.int (l2 + 1))] [] (gup σ 31 l2.toNatClampNeg (σ 322 l2.toNatClampNeg)) K))))) : gE 2 2 [some (.ref 30), some (.ref 321), some (.int l2)] [] σ K :=
  gw_run (cy := 2) (cuts := [2, 46]) (inl := []) (pf := gpcp) gpcp_ok 400 (by decide) h
set_option maxRecDepth 20000 in
theorem c30_321_2_46 {σ : gS} {K : gK} {l2 : Option Value} (h : K none (gup σ 30 2 (σ 321 2))) : gE 2 46 [some (.ref 30), some (.ref 321), l2] [] σ K :=
  gw_run (cy := 2) (cuts := [2, 46]) (inl := []) (pf := gpcp) gpcp_ok 400 (by decide) h
theorem s2_30_321 {σ : gS} {K : gK} (hK : K none (cLc σ 30 321)) : gE 2 0 [some (.ref 30), some (.ref 321), none] [] σ K := by
  unfold cLc at hK
  have main := g_forI (y := 2) (pc := 2) (K := K) 120 (fun k => [some (.ref 30), some (.ref 321), some (.int (iN k))]) (fun k => cA1 σ 31 322 k) (fun _ => True) (fun _ => by
    refine c30_321_2_2 ⟨fun _ => ?_, fun h => absurd h (by decide)⟩
    have r1 : cA1 σ 31 322 120 321 1 = σ 321 1 := by unfold cA1; rw [if_neg (by omega)]
    rw [r1]
    refine c30_321_2_46 ?_
    have r2 : gup (cA1 σ 31 322 120) 30 1 (σ 321 1) 321 2 = σ 321 2 := by rw [gup_ne (by omega)]; unfold cA1; rw [if_neg (by omega)]
    rw [r2]
    exact hK) (fun k hk _ ih => by
    have bd : 0 ≤ iN k ∧ iN k < 120 := ⟨(iN_le (k := 0) (by decide) (by omega)).mpr (by omega), (iN_lt (m := 120) (by omega) (by decide)).mpr hk⟩
    refine c30_321_2_2 ⟨fun h => absurd bd.2 h, fun _ => ⟨fun h => absurd bd.2 h, fun _ => ⟨bd, bd, ?_⟩⟩⟩
    rw [iN_nat (by omega), cA1_s (by decide), iN_one]
    exact ih trivial) 0 (Nat.zero_le _) trivial
  rw [cA1_0] at main
  exact w2_30_321 main
noncomputable def f2 : gD := fun Lv σ => match Lv with
  | [some (.ref p), some (.ref q), none] => cond ((Nat.beq p 30 && Nat.beq q 56) || (Nat.beq p 56 && Nat.beq q 30) || (Nat.beq p 84 && Nat.beq q 30) || (Nat.beq p 110 && Nat.beq q 30) || (Nat.beq p 30 && Nat.beq q 84) || (Nat.beq p 30 && Nat.beq q 110) || (Nat.beq p 139 && Nat.beq q 30) || (Nat.beq p 165 && Nat.beq q 30) || (Nat.beq p 191 && Nat.beq q 30) || (Nat.beq p 217 && Nat.beq q 30) || (Nat.beq p 243 && Nat.beq q 30) || (Nat.beq p 269 && Nat.beq q 30) || (Nat.beq p 295 && Nat.beq q 30) || (Nat.beq p 321 && Nat.beq q 30) || (Nat.beq p 30 && Nat.beq q 139) || (Nat.beq p 30 && Nat.beq q 165) || (Nat.beq p 30 && Nat.beq q 191) || (Nat.beq p 30 && Nat.beq q 217) || (Nat.beq p 30 && Nat.beq q 243) || (Nat.beq p 30 && Nat.beq q 269) || (Nat.beq p 30 && Nat.beq q 295) || (Nat.beq p 30 && Nat.beq q 321)) (some (none, none, cLc σ p q)) none
  | _ => none
theorem ok2 : gFok 2 f2 := by
  intro Lv σ q h hc K hK
  unfold f2 at h
  split at h
  · rename_i p q
    obtain ⟨hb, h⟩ := c_no h
    have hb0 := hb
    rcases s_or hb0 with hb0 | hb0
    · rcases s_or hb0 with hb0 | hb0
      · rcases s_or hb0 with hb0 | hb0
        · rcases s_or hb0 with hb0 | hb0
          · rcases s_or hb0 with hb0 | hb0
            · rcases s_or hb0 with hb0 | hb0
              · rcases s_or hb0 with hb0 | hb0
                · rcases s_or hb0 with hb0 | hb0
                  · rcases s_or hb0 with hb0 | hb0
                    · rcases s_or hb0 with hb0 | hb0
                      · rcases s_or hb0 with hb0 | hb0
                        · rcases s_or hb0 with hb0 | hb0
                          · rcases s_or hb0 with hb0 | hb0
                            · rcases s_or hb0 with hb0 | hb0
                              · rcases s_or hb0 with hb0 | hb0
                                · rcases s_or hb0 with hb0 | hb0
                                  · rcases s_or hb0 with hb0 | hb0
                                    · rcases s_or hb0 with hb0 | hb0
                                      · rcases s_or hb0 with hb0 | hb0
                                        · rcases s_or hb0 with hb0 | hb0
                                          · rcases s_or hb0 with hb0 | hb0
                                            · obtain ⟨e1, e2⟩ := s_and hb0
                                              have e1 := b_eq e1
                                              have e2 := b_eq e2
                                              subst e1
                                              subst e2
                                              cases h
                                              exact s2_30_56 hK
                                            · obtain ⟨e1, e2⟩ := s_and hb0
                                              have e1 := b_eq e1
                                              have e2 := b_eq e2
                                              subst e1
                                              subst e2
                                              cases h
                                              exact s2_56_30 hK
                                          · obtain ⟨e1, e2⟩ := s_and hb0
                                            have e1 := b_eq e1
                                            have e2 := b_eq e2
                                            subst e1
                                            subst e2
                                            cases h
                                            exact s2_84_30 hK
                                        · obtain ⟨e1, e2⟩ := s_and hb0
                                          have e1 := b_eq e1
                                          have e2 := b_eq e2
                                          subst e1
                                          subst e2
                                          cases h
                                          exact s2_110_30 hK
                                      · obtain ⟨e1, e2⟩ := s_and hb0
                                        have e1 := b_eq e1
                                        have e2 := b_eq e2
                                        subst e1
                                        subst e2
                                        cases h
                                        exact s2_30_84 hK
                                    · obtain ⟨e1, e2⟩ := s_and hb0
                                      have e1 := b_eq e1
                                      have e2 := b_eq e2
                                      subst e1
                                      subst e2
                                      cases h
                                      exact s2_30_110 hK
                                  · obtain ⟨e1, e2⟩ := s_and hb0
                                    have e1 := b_eq e1
                                    have e2 := b_eq e2
                                    subst e1
                                    subst e2
                                    cases h
                                    exact s2_139_30 hK
                                · obtain ⟨e1, e2⟩ := s_and hb0
                                  have e1 := b_eq e1
                                  have e2 := b_eq e2
                                  subst e1
                                  subst e2
                                  cases h
                                  exact s2_165_30 hK
                              · obtain ⟨e1, e2⟩ := s_and hb0
                                have e1 := b_eq e1
                                have e2 := b_eq e2
                                subst e1
                                subst e2
                                cases h
                                exact s2_191_30 hK
                            · obtain ⟨e1, e2⟩ := s_and hb0
                              have e1 := b_eq e1
                              have e2 := b_eq e2
                              subst e1
                              subst e2
                              cases h
                              exact s2_217_30 hK
                          · obtain ⟨e1, e2⟩ := s_and hb0
                            have e1 := b_eq e1
                            have e2 := b_eq e2
                            subst e1
                            subst e2
                            cases h
                            exact s2_243_30 hK
                        · obtain ⟨e1, e2⟩ := s_and hb0
                          have e1 := b_eq e1
                          have e2 := b_eq e2
                          subst e1
                          subst e2
                          cases h
                          exact s2_269_30 hK
                      · obtain ⟨e1, e2⟩ := s_and hb0
                        have e1 := b_eq e1
                        have e2 := b_eq e2
                        subst e1
                        subst e2
                        cases h
                        exact s2_295_30 hK
                    · obtain ⟨e1, e2⟩ := s_and hb0
                      have e1 := b_eq e1
                      have e2 := b_eq e2
                      subst e1
                      subst e2
                      cases h
                      exact s2_321_30 hK
                  · obtain ⟨e1, e2⟩ := s_and hb0
                    have e1 := b_eq e1
                    have e2 := b_eq e2
                    subst e1
                    subst e2
                    cases h
                    exact s2_30_139 hK
                · obtain ⟨e1, e2⟩ := s_and hb0
                  have e1 := b_eq e1
                  have e2 := b_eq e2
                  subst e1
                  subst e2
                  cases h
                  exact s2_30_165 hK
              · obtain ⟨e1, e2⟩ := s_and hb0
                have e1 := b_eq e1
                have e2 := b_eq e2
                subst e1
                subst e2
                cases h
                exact s2_30_191 hK
            · obtain ⟨e1, e2⟩ := s_and hb0
              have e1 := b_eq e1
              have e2 := b_eq e2
              subst e1
              subst e2
              cases h
              exact s2_30_217 hK
          · obtain ⟨e1, e2⟩ := s_and hb0
            have e1 := b_eq e1
            have e2 := b_eq e2
            subst e1
            subst e2
            cases h
            exact s2_30_243 hK
        · obtain ⟨e1, e2⟩ := s_and hb0
          have e1 := b_eq e1
          have e2 := b_eq e2
          subst e1
          subst e2
          cases h
          exact s2_30_269 hK
      · obtain ⟨e1, e2⟩ := s_and hb0
        have e1 := b_eq e1
        have e2 := b_eq e2
        subst e1
        subst e2
        cases h
        exact s2_30_295 hK
    · obtain ⟨e1, e2⟩ := s_and hb0
      have e1 := b_eq e1
      have e2 := b_eq e2
      subst e1
      subst e2
      cases h
      exact s2_30_321 hK
  · cases h
noncomputable def gpcq_l : List (Nat × gD) := (2, f2) :: gpcp_l
noncomputable def gpcq : gP := gpl0 gpcq_l
theorem gpcq_ok : gPok gpcq := gpl0_cons ok2 (gpcp_ok)
/-- the header's numbers from another train: the first k -/
def cHd (σ : gS) (p q k : Nat) : gS := fun b j => if b = p ∧ 4 ≤ j ∧ j < 4 + k then σ q j else σ b j
theorem cHd_0 (σ : gS) (p q : Nat) : cHd σ p q 0 = σ := by funext b j; unfold cHd; rw [if_neg (by omega)]
theorem cHd_s {σ : gS} {p q k : Nat} (h : ¬ p = q) : gup (cHd σ p q k) p (4 + k) (cHd σ p q k q (4 + k)) = cHd σ p q (k + 1) := by
  funext b j
  unfold gup cHd
  by_cases h1 : b = p ∧ j = 4 + k
  · rw [if_pos h1, h1.2, if_neg (show ¬ (q = p ∧ 4 ≤ 4 + k ∧ 4 + k < 4 + k) by omega), if_pos (show b = p ∧ 4 ≤ 4 + k ∧ 4 + k < 4 + (k + 1) from ⟨h1.1, by omega, by omega⟩)]
  · rw [if_neg h1]
    by_cases h2 : b = p ∧ 4 ≤ j ∧ j < 4 + k
    · rw [if_pos h2, if_pos (by omega)]
    · rw [if_neg h2, if_neg (by omega)]
/-- a train from another -/
def cCo (σ : gS) (p q : Nat) : gS := cHd (cLc (cA1 (cT1 σ p q (σ q 7).toNatClampNeg) (p + 23) (q + 23) 50) (p + 24) (q + 24)) p q 9
set_option maxRecDepth 20000 in
theorem w48_6_32 {σ : gS} {K : gK} (h : gE 48 2 [some (.ref 6), some (.ref 32), some (.int 0)] [] σ K) : gE 48 0 [some (.ref 6), some (.ref 32), none] [] σ K :=
  gw_run (cy := 48) (cuts := [2, 31, 78, 86, 94, 102, 110, 118, 126, 134, 142]) (inl := []) (pf := gpcq) gpcq_ok 400 (by decide) h
set_option maxRecDepth 20000 in
theorem c6_32_48_2 {σ : gS} {K : gK} {l2 : Int32} (h : ((¬ l2 < (σ 32 7) → gE 48 31 [some (.ref 6), some (.ref 32), some (.int 0)] [] σ K) ∧ (l2 < (σ 32 7) → (0 ≤ l2 ∧ l2 < 20) ∧ (0 ≤ l2 ∧ l2 < 20) ∧ gTv (6 + 2 + l2.toNatClampNeg) ∧ (gTv (6 + 2 + l2.toNatClampNeg) ∧ gTv (32 + 2 + l2.toNatClampNeg)) ∧ gE 48 2 [some (.ref 6), some (.ref 32), some (.int (l2 + 1))] [] (cTv σ (6 + 2 + l2.toNatClampNeg) (32 + 2 + l2.toNatClampNeg)) K))) : gE 48 2 [some (.ref 6), some (.ref 32), some (.int l2)] [] σ K :=
  gw_run (cy := 48) (cuts := [2, 31, 78, 86, 94, 102, 110, 118, 126, 134, 142]) (inl := []) (pf := gpcq) gpcq_ok 400 (by decide) h
set_option maxRecDepth 20000 in
theorem c6_32_48_31 {σ : gS} {K : gK} {l2 : Int32} (h : ((¬ l2 < 50 → gE 48 78 [some (.ref 6), some (.ref 32), some (.int l2)] [] (cLc σ 30 56) K) ∧ (l2 < 50 → ((¬ l2 < 50 → gE 48 78 [some (.ref 6), some (.ref 32), some (.int l2)] [] (cLc σ 30 56) K) ∧ (l2 < 50 → (0 ≤ l2 ∧ l2 < 50) ∧ (0 ≤ l2 ∧ l2 < 50) ∧ gE 48 31 [some (.ref 6), some (.ref 32), some (.int (l2 + 1))] [] (gup σ 29 l2.toNatClampNeg (σ 55 l2.toNatClampNeg)) K))))) : gE 48 31 [some (.ref 6), some (.ref 32), some (.int l2)] [] σ K :=
  gw_run (cy := 48) (cuts := [2, 31, 78, 86, 94, 102, 110, 118, 126, 134, 142]) (inl := []) (pf := gpcq) gpcq_ok 400 (by decide) h
set_option maxRecDepth 20000 in
theorem c6_32_48_78 {σ : gS} {K : gK} {l2 : Option Value} (h : gE 48 86 [some (.ref 6), some (.ref 32), l2] [] (gup σ 6 4 (σ 32 4)) K) : gE 48 78 [some (.ref 6), some (.ref 32), l2] [] σ K :=
  gw_run (cy := 48) (cuts := [2, 31, 78, 86, 94, 102, 110, 118, 126, 134, 142]) (inl := []) (pf := gpcq) gpcq_ok 400 (by decide) h
set_option maxRecDepth 20000 in
theorem c6_32_48_86 {σ : gS} {K : gK} {l2 : Option Value} (h : gE 48 94 [some (.ref 6), some (.ref 32), l2] [] (gup σ 6 5 (σ 32 5)) K) : gE 48 86 [some (.ref 6), some (.ref 32), l2] [] σ K :=
  gw_run (cy := 48) (cuts := [2, 31, 78, 86, 94, 102, 110, 118, 126, 134, 142]) (inl := []) (pf := gpcq) gpcq_ok 400 (by decide) h
set_option maxRecDepth 20000 in
theorem c6_32_48_94 {σ : gS} {K : gK} {l2 : Option Value} (h : gE 48 102 [some (.ref 6), some (.ref 32), l2] [] (gup σ 6 6 (σ 32 6)) K) : gE 48 94 [some (.ref 6), some (.ref 32), l2] [] σ K :=
  gw_run (cy := 48) (cuts := [2, 31, 78, 86, 94, 102, 110, 118, 126, 134, 142]) (inl := []) (pf := gpcq) gpcq_ok 400 (by decide) h
set_option maxRecDepth 20000 in
theorem c6_32_48_102 {σ : gS} {K : gK} {l2 : Option Value} (h : gE 48 110 [some (.ref 6), some (.ref 32), l2] [] (gup σ 6 7 (σ 32 7)) K) : gE 48 102 [some (.ref 6), some (.ref 32), l2] [] σ K :=
  gw_run (cy := 48) (cuts := [2, 31, 78, 86, 94, 102, 110, 118, 126, 134, 142]) (inl := []) (pf := gpcq) gpcq_ok 400 (by decide) h
set_option maxRecDepth 20000 in
theorem c6_32_48_110 {σ : gS} {K : gK} {l2 : Option Value} (h : gE 48 118 [some (.ref 6), some (.ref 32), l2] [] (gup σ 6 8 (σ 32 8)) K) : gE 48 110 [some (.ref 6), some (.ref 32), l2] [] σ K :=
  gw_run (cy := 48) (cuts := [2, 31, 78, 86, 94, 102, 110, 118, 126, 134, 142]) (inl := []) (pf := gpcq) gpcq_ok 400 (by decide) h
set_option maxRecDepth 20000 in
theorem c6_32_48_118 {σ : gS} {K : gK} {l2 : Option Value} (h : gE 48 126 [some (.ref 6), some (.ref 32), l2] [] (gup σ 6 9 (σ 32 9)) K) : gE 48 118 [some (.ref 6), some (.ref 32), l2] [] σ K :=
  gw_run (cy := 48) (cuts := [2, 31, 78, 86, 94, 102, 110, 118, 126, 134, 142]) (inl := []) (pf := gpcq) gpcq_ok 400 (by decide) h
set_option maxRecDepth 20000 in
theorem c6_32_48_126 {σ : gS} {K : gK} {l2 : Option Value} (h : gE 48 134 [some (.ref 6), some (.ref 32), l2] [] (gup σ 6 10 (σ 32 10)) K) : gE 48 126 [some (.ref 6), some (.ref 32), l2] [] σ K :=
  gw_run (cy := 48) (cuts := [2, 31, 78, 86, 94, 102, 110, 118, 126, 134, 142]) (inl := []) (pf := gpcq) gpcq_ok 400 (by decide) h
set_option maxRecDepth 20000 in
theorem c6_32_48_134 {σ : gS} {K : gK} {l2 : Option Value} (h : gE 48 142 [some (.ref 6), some (.ref 32), l2] [] (gup σ 6 11 (σ 32 11)) K) : gE 48 134 [some (.ref 6), some (.ref 32), l2] [] σ K :=
  gw_run (cy := 48) (cuts := [2, 31, 78, 86, 94, 102, 110, 118, 126, 134, 142]) (inl := []) (pf := gpcq) gpcq_ok 400 (by decide) h
set_option maxRecDepth 20000 in
theorem c6_32_48_142 {σ : gS} {K : gK} {l2 : Option Value} (h : K none (gup σ 6 12 (σ 32 12))) : gE 48 142 [some (.ref 6), some (.ref 32), l2] [] σ K :=
  gw_run (cy := 48) (cuts := [2, 31, 78, 86, 94, 102, 110, 118, 126, 134, 142]) (inl := []) (pf := gpcq) gpcq_ok 400 (by decide) h
theorem s48_6_32 {σ : gS} {K : gK} (hc : 0 ≤ σ 32 7 ∧ σ 32 7 ≤ 20) (hK : K none (cCo σ 6 32)) : gE 48 0 [some (.ref 6), some (.ref 32), none] [] σ K := by
  obtain ⟨en, hn⟩ : σ 32 7 = iN (σ 32 7).toNatClampNeg ∧ (σ 32 7).toNatClampNeg ≤ 20 := by
    obtain ⟨e, l⟩ := iN_of hc.1
    refine ⟨e, ?_⟩
    have h2 := hc.2
    rw [e] at h2
    exact (iN_le (m := 20) l (by decide)).mp h2
  unfold cCo at hK
  obtain ⟨n, hnn⟩ : ∃ n, (σ 32 7).toNatClampNeg = n := ⟨_, rfl⟩
  rw [hnn] at en hn hK
  have tail : ∀ u, gE 48 78 [some (.ref 6), some (.ref 32), u] [] (cLc (cA1 (cT1 σ 6 32 n) 29 55 50) 30 56) K := by
    intro u
    obtain ⟨τ, hτ⟩ : ∃ τ, cLc (cA1 (cT1 σ 6 32 n) 29 55 50) 30 56 = τ := ⟨_, rfl⟩
    have hK : K none (cHd τ 6 32 9) := by rw [← hτ]; exact hK
    rw [hτ]
    have hs : ∀ k, gup (cHd τ 6 32 k) 6 (4 + k) (cHd τ 6 32 k 32 (4 + k)) = cHd τ 6 32 (k + 1) := fun k => cHd_s (by decide)
    have h0 : gup τ 6 4 (τ 32 4) = cHd τ 6 32 1 := by
      have := hs 0
      rw [cHd_0] at this
      exact this
    refine c6_32_48_78 ?_
    rw [h0]
    refine c6_32_48_86 ?_
    rw [hs 1]
    refine c6_32_48_94 ?_
    rw [hs 2]
    refine c6_32_48_102 ?_
    rw [hs 3]
    refine c6_32_48_110 ?_
    rw [hs 4]
    refine c6_32_48_118 ?_
    rw [hs 5]
    refine c6_32_48_126 ?_
    rw [hs 6]
    refine c6_32_48_134 ?_
    rw [hs 7]
    refine c6_32_48_142 ?_
    rw [hs 8]
    exact hK
  have main2 : gE 48 31 [some (.ref 6), some (.ref 32), some (.int 0)] [] (cT1 σ 6 32 n) K := by
    have main := g_forI (y := 48) (pc := 31) (K := K) 50 (fun k => [some (.ref 6), some (.ref 32), some (.int (iN k))]) (fun k => cA1 (cT1 σ 6 32 n) 29 55 k) (fun _ => True) (fun _ => by
      refine c6_32_48_31 ⟨fun _ => tail _, fun h => absurd h (by decide)⟩) (fun k hk _ ih => by
      have bd : 0 ≤ iN k ∧ iN k < 50 := ⟨(iN_le (k := 0) (by decide) (by omega)).mpr (by omega), (iN_lt (m := 50) (by omega) (by decide)).mpr hk⟩
      refine c6_32_48_31 ⟨fun h => absurd bd.2 h, fun _ => ⟨fun h => absurd bd.2 h, fun _ => ⟨bd, bd, ?_⟩⟩⟩
      rw [iN_nat (by omega), cA1_s (by decide), iN_one]
      exact ih trivial) 0 (Nat.zero_le _) trivial
    rw [cA1_0] at main
    exact main
  have c7 : ∀ k, k ≤ 20 → cT1 σ 6 32 k 32 7 = σ 32 7 := fun k hk => by unfold cT1; rw [if_neg (by omega)]
  have main := g_forI (y := 48) (pc := 2) (K := K) n (fun k => [some (.ref 6), some (.ref 32), some (.int (iN k))]) (fun k => cT1 σ 6 32 k) (fun _ => True) (fun _ => by
    refine c6_32_48_2 ⟨fun _ => main2, fun h => ?_⟩
    rw [c7 _ hn, en, iN_lt (by omega) (by omega)] at h; omega) (fun k hk _ ih => by
    have k20 : k < 20 := by omega
    refine c6_32_48_2 ⟨fun h => ?_, fun h => ?_⟩
    · rw [c7 _ (by omega), en, iN_lt (by omega) (by omega)] at h; omega
    · rw [iN_nat (by omega), iN_one]
      refine ⟨b20 k20, b20 k20, tv_6 k k20, ⟨tv_6 k k20, tv_32 k k20⟩, ?_⟩
      rw [cT1_s (by decide) k20]
      exact ih trivial) 0 (Nat.zero_le _) trivial
  rw [cT1_0] at main
  exact w48_6_32 main
set_option maxRecDepth 20000 in
theorem w48_32_6 {σ : gS} {K : gK} (h : gE 48 2 [some (.ref 32), some (.ref 6), some (.int 0)] [] σ K) : gE 48 0 [some (.ref 32), some (.ref 6), none] [] σ K :=
  gw_run (cy := 48) (cuts := [2, 31, 78, 86, 94, 102, 110, 118, 126, 134, 142]) (inl := []) (pf := gpcq) gpcq_ok 400 (by decide) h
set_option maxRecDepth 20000 in
theorem c32_6_48_2 {σ : gS} {K : gK} {l2 : Int32} (h : ((¬ l2 < (σ 6 7) → gE 48 31 [some (.ref 32), some (.ref 6), some (.int 0)] [] σ K) ∧ (l2 < (σ 6 7) → (0 ≤ l2 ∧ l2 < 20) ∧ (0 ≤ l2 ∧ l2 < 20) ∧ gTv (32 + 2 + l2.toNatClampNeg) ∧ (gTv (32 + 2 + l2.toNatClampNeg) ∧ gTv (6 + 2 + l2.toNatClampNeg)) ∧ gE 48 2 [some (.ref 32), some (.ref 6), some (.int (l2 + 1))] [] (cTv σ (32 + 2 + l2.toNatClampNeg) (6 + 2 + l2.toNatClampNeg)) K))) : gE 48 2 [some (.ref 32), some (.ref 6), some (.int l2)] [] σ K :=
  gw_run (cy := 48) (cuts := [2, 31, 78, 86, 94, 102, 110, 118, 126, 134, 142]) (inl := []) (pf := gpcq) gpcq_ok 400 (by decide) h
set_option maxRecDepth 20000 in
theorem c32_6_48_31 {σ : gS} {K : gK} {l2 : Int32} (h : ((¬ l2 < 50 → gE 48 78 [some (.ref 32), some (.ref 6), some (.int l2)] [] (cLc σ 56 30) K) ∧ (l2 < 50 → ((¬ l2 < 50 → gE 48 78 [some (.ref 32), some (.ref 6), some (.int l2)] [] (cLc σ 56 30) K) ∧ (l2 < 50 → (0 ≤ l2 ∧ l2 < 50) ∧ (0 ≤ l2 ∧ l2 < 50) ∧ gE 48 31 [some (.ref 32), some (.ref 6), some (.int (l2 + 1))] [] (gup σ 55 l2.toNatClampNeg (σ 29 l2.toNatClampNeg)) K))))) : gE 48 31 [some (.ref 32), some (.ref 6), some (.int l2)] [] σ K :=
  gw_run (cy := 48) (cuts := [2, 31, 78, 86, 94, 102, 110, 118, 126, 134, 142]) (inl := []) (pf := gpcq) gpcq_ok 400 (by decide) h
set_option maxRecDepth 20000 in
theorem c32_6_48_78 {σ : gS} {K : gK} {l2 : Option Value} (h : gE 48 86 [some (.ref 32), some (.ref 6), l2] [] (gup σ 32 4 (σ 6 4)) K) : gE 48 78 [some (.ref 32), some (.ref 6), l2] [] σ K :=
  gw_run (cy := 48) (cuts := [2, 31, 78, 86, 94, 102, 110, 118, 126, 134, 142]) (inl := []) (pf := gpcq) gpcq_ok 400 (by decide) h
set_option maxRecDepth 20000 in
theorem c32_6_48_86 {σ : gS} {K : gK} {l2 : Option Value} (h : gE 48 94 [some (.ref 32), some (.ref 6), l2] [] (gup σ 32 5 (σ 6 5)) K) : gE 48 86 [some (.ref 32), some (.ref 6), l2] [] σ K :=
  gw_run (cy := 48) (cuts := [2, 31, 78, 86, 94, 102, 110, 118, 126, 134, 142]) (inl := []) (pf := gpcq) gpcq_ok 400 (by decide) h
set_option maxRecDepth 20000 in
theorem c32_6_48_94 {σ : gS} {K : gK} {l2 : Option Value} (h : gE 48 102 [some (.ref 32), some (.ref 6), l2] [] (gup σ 32 6 (σ 6 6)) K) : gE 48 94 [some (.ref 32), some (.ref 6), l2] [] σ K :=
  gw_run (cy := 48) (cuts := [2, 31, 78, 86, 94, 102, 110, 118, 126, 134, 142]) (inl := []) (pf := gpcq) gpcq_ok 400 (by decide) h
set_option maxRecDepth 20000 in
theorem c32_6_48_102 {σ : gS} {K : gK} {l2 : Option Value} (h : gE 48 110 [some (.ref 32), some (.ref 6), l2] [] (gup σ 32 7 (σ 6 7)) K) : gE 48 102 [some (.ref 32), some (.ref 6), l2] [] σ K :=
  gw_run (cy := 48) (cuts := [2, 31, 78, 86, 94, 102, 110, 118, 126, 134, 142]) (inl := []) (pf := gpcq) gpcq_ok 400 (by decide) h
set_option maxRecDepth 20000 in
theorem c32_6_48_110 {σ : gS} {K : gK} {l2 : Option Value} (h : gE 48 118 [some (.ref 32), some (.ref 6), l2] [] (gup σ 32 8 (σ 6 8)) K) : gE 48 110 [some (.ref 32), some (.ref 6), l2] [] σ K :=
  gw_run (cy := 48) (cuts := [2, 31, 78, 86, 94, 102, 110, 118, 126, 134, 142]) (inl := []) (pf := gpcq) gpcq_ok 400 (by decide) h
set_option maxRecDepth 20000 in
theorem c32_6_48_118 {σ : gS} {K : gK} {l2 : Option Value} (h : gE 48 126 [some (.ref 32), some (.ref 6), l2] [] (gup σ 32 9 (σ 6 9)) K) : gE 48 118 [some (.ref 32), some (.ref 6), l2] [] σ K :=
  gw_run (cy := 48) (cuts := [2, 31, 78, 86, 94, 102, 110, 118, 126, 134, 142]) (inl := []) (pf := gpcq) gpcq_ok 400 (by decide) h
set_option maxRecDepth 20000 in
theorem c32_6_48_126 {σ : gS} {K : gK} {l2 : Option Value} (h : gE 48 134 [some (.ref 32), some (.ref 6), l2] [] (gup σ 32 10 (σ 6 10)) K) : gE 48 126 [some (.ref 32), some (.ref 6), l2] [] σ K :=
  gw_run (cy := 48) (cuts := [2, 31, 78, 86, 94, 102, 110, 118, 126, 134, 142]) (inl := []) (pf := gpcq) gpcq_ok 400 (by decide) h
set_option maxRecDepth 20000 in
theorem c32_6_48_134 {σ : gS} {K : gK} {l2 : Option Value} (h : gE 48 142 [some (.ref 32), some (.ref 6), l2] [] (gup σ 32 11 (σ 6 11)) K) : gE 48 134 [some (.ref 32), some (.ref 6), l2] [] σ K :=
  gw_run (cy := 48) (cuts := [2, 31, 78, 86, 94, 102, 110, 118, 126, 134, 142]) (inl := []) (pf := gpcq) gpcq_ok 400 (by decide) h
set_option maxRecDepth 20000 in
theorem c32_6_48_142 {σ : gS} {K : gK} {l2 : Option Value} (h : K none (gup σ 32 12 (σ 6 12))) : gE 48 142 [some (.ref 32), some (.ref 6), l2] [] σ K :=
  gw_run (cy := 48) (cuts := [2, 31, 78, 86, 94, 102, 110, 118, 126, 134, 142]) (inl := []) (pf := gpcq) gpcq_ok 400 (by decide) h
theorem s48_32_6 {σ : gS} {K : gK} (hc : 0 ≤ σ 6 7 ∧ σ 6 7 ≤ 20) (hK : K none (cCo σ 32 6)) : gE 48 0 [some (.ref 32), some (.ref 6), none] [] σ K := by
  obtain ⟨en, hn⟩ : σ 6 7 = iN (σ 6 7).toNatClampNeg ∧ (σ 6 7).toNatClampNeg ≤ 20 := by
    obtain ⟨e, l⟩ := iN_of hc.1
    refine ⟨e, ?_⟩
    have h2 := hc.2
    rw [e] at h2
    exact (iN_le (m := 20) l (by decide)).mp h2
  unfold cCo at hK
  obtain ⟨n, hnn⟩ : ∃ n, (σ 6 7).toNatClampNeg = n := ⟨_, rfl⟩
  rw [hnn] at en hn hK
  have tail : ∀ u, gE 48 78 [some (.ref 32), some (.ref 6), u] [] (cLc (cA1 (cT1 σ 32 6 n) 55 29 50) 56 30) K := by
    intro u
    obtain ⟨τ, hτ⟩ : ∃ τ, cLc (cA1 (cT1 σ 32 6 n) 55 29 50) 56 30 = τ := ⟨_, rfl⟩
    have hK : K none (cHd τ 32 6 9) := by rw [← hτ]; exact hK
    rw [hτ]
    have hs : ∀ k, gup (cHd τ 32 6 k) 32 (4 + k) (cHd τ 32 6 k 6 (4 + k)) = cHd τ 32 6 (k + 1) := fun k => cHd_s (by decide)
    have h0 : gup τ 32 4 (τ 6 4) = cHd τ 32 6 1 := by
      have := hs 0
      rw [cHd_0] at this
      exact this
    refine c32_6_48_78 ?_
    rw [h0]
    refine c32_6_48_86 ?_
    rw [hs 1]
    refine c32_6_48_94 ?_
    rw [hs 2]
    refine c32_6_48_102 ?_
    rw [hs 3]
    refine c32_6_48_110 ?_
    rw [hs 4]
    refine c32_6_48_118 ?_
    rw [hs 5]
    refine c32_6_48_126 ?_
    rw [hs 6]
    refine c32_6_48_134 ?_
    rw [hs 7]
    refine c32_6_48_142 ?_
    rw [hs 8]
    exact hK
  have main2 : gE 48 31 [some (.ref 32), some (.ref 6), some (.int 0)] [] (cT1 σ 32 6 n) K := by
    have main := g_forI (y := 48) (pc := 31) (K := K) 50 (fun k => [some (.ref 32), some (.ref 6), some (.int (iN k))]) (fun k => cA1 (cT1 σ 32 6 n) 55 29 k) (fun _ => True) (fun _ => by
      refine c32_6_48_31 ⟨fun _ => tail _, fun h => absurd h (by decide)⟩) (fun k hk _ ih => by
      have bd : 0 ≤ iN k ∧ iN k < 50 := ⟨(iN_le (k := 0) (by decide) (by omega)).mpr (by omega), (iN_lt (m := 50) (by omega) (by decide)).mpr hk⟩
      refine c32_6_48_31 ⟨fun h => absurd bd.2 h, fun _ => ⟨fun h => absurd bd.2 h, fun _ => ⟨bd, bd, ?_⟩⟩⟩
      rw [iN_nat (by omega), cA1_s (by decide), iN_one]
      exact ih trivial) 0 (Nat.zero_le _) trivial
    rw [cA1_0] at main
    exact main
  have c7 : ∀ k, k ≤ 20 → cT1 σ 32 6 k 6 7 = σ 6 7 := fun k hk => by unfold cT1; rw [if_neg (by omega)]
  have main := g_forI (y := 48) (pc := 2) (K := K) n (fun k => [some (.ref 32), some (.ref 6), some (.int (iN k))]) (fun k => cT1 σ 32 6 k) (fun _ => True) (fun _ => by
    refine c32_6_48_2 ⟨fun _ => main2, fun h => ?_⟩
    rw [c7 _ hn, en, iN_lt (by omega) (by omega)] at h; omega) (fun k hk _ ih => by
    have k20 : k < 20 := by omega
    refine c32_6_48_2 ⟨fun h => ?_, fun h => ?_⟩
    · rw [c7 _ (by omega), en, iN_lt (by omega) (by omega)] at h; omega
    · rw [iN_nat (by omega), iN_one]
      refine ⟨b20 k20, b20 k20, tv_32 k k20, ⟨tv_32 k k20, tv_6 k k20⟩, ?_⟩
      rw [cT1_s (by decide) k20]
      exact ih trivial) 0 (Nat.zero_le _) trivial
  rw [cT1_0] at main
  exact w48_32_6 main
set_option maxRecDepth 20000 in
theorem w48_60_6 {σ : gS} {K : gK} (h : gE 48 2 [some (.ref 60), some (.ref 6), some (.int 0)] [] σ K) : gE 48 0 [some (.ref 60), some (.ref 6), none] [] σ K :=
  gw_run (cy := 48) (cuts := [2, 31, 78, 86, 94, 102, 110, 118, 126, 134, 142]) (inl := []) (pf := gpcq) gpcq_ok 400 (by decide) h
set_option maxRecDepth 20000 in
theorem c60_6_48_2 {σ : gS} {K : gK} {l2 : Int32} (h : ((¬ l2 < (σ 6 7) → gE 48 31 [some (.ref 60), some (.ref 6), some (.int 0)] [] σ K) ∧ (l2 < (σ 6 7) → (0 ≤ l2 ∧ l2 < 20) ∧ (0 ≤ l2 ∧ l2 < 20) ∧ gTv (60 + 2 + l2.toNatClampNeg) ∧ (gTv (60 + 2 + l2.toNatClampNeg) ∧ gTv (6 + 2 + l2.toNatClampNeg)) ∧ gE 48 2 [some (.ref 60), some (.ref 6), some (.int (l2 + 1))] [] (cTv σ (60 + 2 + l2.toNatClampNeg) (6 + 2 + l2.toNatClampNeg)) K))) : gE 48 2 [some (.ref 60), some (.ref 6), some (.int l2)] [] σ K :=
  gw_run (cy := 48) (cuts := [2, 31, 78, 86, 94, 102, 110, 118, 126, 134, 142]) (inl := []) (pf := gpcq) gpcq_ok 400 (by decide) h
set_option maxRecDepth 20000 in
theorem c60_6_48_31 {σ : gS} {K : gK} {l2 : Int32} (h : ((¬ l2 < 50 → gE 48 78 [some (.ref 60), some (.ref 6), some (.int l2)] [] (cLc σ 84 30) K) ∧ (l2 < 50 → ((¬ l2 < 50 → gE 48 78 [some (.ref 60), some (.ref 6), some (.int l2)] [] (cLc σ 84 30) K) ∧ (l2 < 50 → (0 ≤ l2 ∧ l2 < 50) ∧ (0 ≤ l2 ∧ l2 < 50) ∧ gE 48 31 [some (.ref 60), some (.ref 6), some (.int (l2 + 1))] [] (gup σ 83 l2.toNatClampNeg (σ 29 l2.toNatClampNeg)) K))))) : gE 48 31 [some (.ref 60), some (.ref 6), some (.int l2)] [] σ K :=
  gw_run (cy := 48) (cuts := [2, 31, 78, 86, 94, 102, 110, 118, 126, 134, 142]) (inl := []) (pf := gpcq) gpcq_ok 400 (by decide) h
set_option maxRecDepth 20000 in
theorem c60_6_48_78 {σ : gS} {K : gK} {l2 : Option Value} (h : gE 48 86 [some (.ref 60), some (.ref 6), l2] [] (gup σ 60 4 (σ 6 4)) K) : gE 48 78 [some (.ref 60), some (.ref 6), l2] [] σ K :=
  gw_run (cy := 48) (cuts := [2, 31, 78, 86, 94, 102, 110, 118, 126, 134, 142]) (inl := []) (pf := gpcq) gpcq_ok 400 (by decide) h
set_option maxRecDepth 20000 in
theorem c60_6_48_86 {σ : gS} {K : gK} {l2 : Option Value} (h : gE 48 94 [some (.ref 60), some (.ref 6), l2] [] (gup σ 60 5 (σ 6 5)) K) : gE 48 86 [some (.ref 60), some (.ref 6), l2] [] σ K :=
  gw_run (cy := 48) (cuts := [2, 31, 78, 86, 94, 102, 110, 118, 126, 134, 142]) (inl := []) (pf := gpcq) gpcq_ok 400 (by decide) h
set_option maxRecDepth 20000 in
theorem c60_6_48_94 {σ : gS} {K : gK} {l2 : Option Value} (h : gE 48 102 [some (.ref 60), some (.ref 6), l2] [] (gup σ 60 6 (σ 6 6)) K) : gE 48 94 [some (.ref 60), some (.ref 6), l2] [] σ K :=
  gw_run (cy := 48) (cuts := [2, 31, 78, 86, 94, 102, 110, 118, 126, 134, 142]) (inl := []) (pf := gpcq) gpcq_ok 400 (by decide) h
set_option maxRecDepth 20000 in
theorem c60_6_48_102 {σ : gS} {K : gK} {l2 : Option Value} (h : gE 48 110 [some (.ref 60), some (.ref 6), l2] [] (gup σ 60 7 (σ 6 7)) K) : gE 48 102 [some (.ref 60), some (.ref 6), l2] [] σ K :=
  gw_run (cy := 48) (cuts := [2, 31, 78, 86, 94, 102, 110, 118, 126, 134, 142]) (inl := []) (pf := gpcq) gpcq_ok 400 (by decide) h
set_option maxRecDepth 20000 in
theorem c60_6_48_110 {σ : gS} {K : gK} {l2 : Option Value} (h : gE 48 118 [some (.ref 60), some (.ref 6), l2] [] (gup σ 60 8 (σ 6 8)) K) : gE 48 110 [some (.ref 60), some (.ref 6), l2] [] σ K :=
  gw_run (cy := 48) (cuts := [2, 31, 78, 86, 94, 102, 110, 118, 126, 134, 142]) (inl := []) (pf := gpcq) gpcq_ok 400 (by decide) h
set_option maxRecDepth 20000 in
theorem c60_6_48_118 {σ : gS} {K : gK} {l2 : Option Value} (h : gE 48 126 [some (.ref 60), some (.ref 6), l2] [] (gup σ 60 9 (σ 6 9)) K) : gE 48 118 [some (.ref 60), some (.ref 6), l2] [] σ K :=
  gw_run (cy := 48) (cuts := [2, 31, 78, 86, 94, 102, 110, 118, 126, 134, 142]) (inl := []) (pf := gpcq) gpcq_ok 400 (by decide) h
set_option maxRecDepth 20000 in
theorem c60_6_48_126 {σ : gS} {K : gK} {l2 : Option Value} (h : gE 48 134 [some (.ref 60), some (.ref 6), l2] [] (gup σ 60 10 (σ 6 10)) K) : gE 48 126 [some (.ref 60), some (.ref 6), l2] [] σ K :=
  gw_run (cy := 48) (cuts := [2, 31, 78, 86, 94, 102, 110, 118, 126, 134, 142]) (inl := []) (pf := gpcq) gpcq_ok 400 (by decide) h
set_option maxRecDepth 20000 in
theorem c60_6_48_134 {σ : gS} {K : gK} {l2 : Option Value} (h : gE 48 142 [some (.ref 60), some (.ref 6), l2] [] (gup σ 60 11 (σ 6 11)) K) : gE 48 134 [some (.ref 60), some (.ref 6), l2] [] σ K :=
  gw_run (cy := 48) (cuts := [2, 31, 78, 86, 94, 102, 110, 118, 126, 134, 142]) (inl := []) (pf := gpcq) gpcq_ok 400 (by decide) h
set_option maxRecDepth 20000 in
theorem c60_6_48_142 {σ : gS} {K : gK} {l2 : Option Value} (h : K none (gup σ 60 12 (σ 6 12))) : gE 48 142 [some (.ref 60), some (.ref 6), l2] [] σ K :=
  gw_run (cy := 48) (cuts := [2, 31, 78, 86, 94, 102, 110, 118, 126, 134, 142]) (inl := []) (pf := gpcq) gpcq_ok 400 (by decide) h
theorem s48_60_6 {σ : gS} {K : gK} (hc : 0 ≤ σ 6 7 ∧ σ 6 7 ≤ 20) (hK : K none (cCo σ 60 6)) : gE 48 0 [some (.ref 60), some (.ref 6), none] [] σ K := by
  obtain ⟨en, hn⟩ : σ 6 7 = iN (σ 6 7).toNatClampNeg ∧ (σ 6 7).toNatClampNeg ≤ 20 := by
    obtain ⟨e, l⟩ := iN_of hc.1
    refine ⟨e, ?_⟩
    have h2 := hc.2
    rw [e] at h2
    exact (iN_le (m := 20) l (by decide)).mp h2
  unfold cCo at hK
  obtain ⟨n, hnn⟩ : ∃ n, (σ 6 7).toNatClampNeg = n := ⟨_, rfl⟩
  rw [hnn] at en hn hK
  have tail : ∀ u, gE 48 78 [some (.ref 60), some (.ref 6), u] [] (cLc (cA1 (cT1 σ 60 6 n) 83 29 50) 84 30) K := by
    intro u
    obtain ⟨τ, hτ⟩ : ∃ τ, cLc (cA1 (cT1 σ 60 6 n) 83 29 50) 84 30 = τ := ⟨_, rfl⟩
    have hK : K none (cHd τ 60 6 9) := by rw [← hτ]; exact hK
    rw [hτ]
    have hs : ∀ k, gup (cHd τ 60 6 k) 60 (4 + k) (cHd τ 60 6 k 6 (4 + k)) = cHd τ 60 6 (k + 1) := fun k => cHd_s (by decide)
    have h0 : gup τ 60 4 (τ 6 4) = cHd τ 60 6 1 := by
      have := hs 0
      rw [cHd_0] at this
      exact this
    refine c60_6_48_78 ?_
    rw [h0]
    refine c60_6_48_86 ?_
    rw [hs 1]
    refine c60_6_48_94 ?_
    rw [hs 2]
    refine c60_6_48_102 ?_
    rw [hs 3]
    refine c60_6_48_110 ?_
    rw [hs 4]
    refine c60_6_48_118 ?_
    rw [hs 5]
    refine c60_6_48_126 ?_
    rw [hs 6]
    refine c60_6_48_134 ?_
    rw [hs 7]
    refine c60_6_48_142 ?_
    rw [hs 8]
    exact hK
  have main2 : gE 48 31 [some (.ref 60), some (.ref 6), some (.int 0)] [] (cT1 σ 60 6 n) K := by
    have main := g_forI (y := 48) (pc := 31) (K := K) 50 (fun k => [some (.ref 60), some (.ref 6), some (.int (iN k))]) (fun k => cA1 (cT1 σ 60 6 n) 83 29 k) (fun _ => True) (fun _ => by
      refine c60_6_48_31 ⟨fun _ => tail _, fun h => absurd h (by decide)⟩) (fun k hk _ ih => by
      have bd : 0 ≤ iN k ∧ iN k < 50 := ⟨(iN_le (k := 0) (by decide) (by omega)).mpr (by omega), (iN_lt (m := 50) (by omega) (by decide)).mpr hk⟩
      refine c60_6_48_31 ⟨fun h => absurd bd.2 h, fun _ => ⟨fun h => absurd bd.2 h, fun _ => ⟨bd, bd, ?_⟩⟩⟩
      rw [iN_nat (by omega), cA1_s (by decide), iN_one]
      exact ih trivial) 0 (Nat.zero_le _) trivial
    rw [cA1_0] at main
    exact main
  have c7 : ∀ k, k ≤ 20 → cT1 σ 60 6 k 6 7 = σ 6 7 := fun k hk => by unfold cT1; rw [if_neg (by omega)]
  have main := g_forI (y := 48) (pc := 2) (K := K) n (fun k => [some (.ref 60), some (.ref 6), some (.int (iN k))]) (fun k => cT1 σ 60 6 k) (fun _ => True) (fun _ => by
    refine c60_6_48_2 ⟨fun _ => main2, fun h => ?_⟩
    rw [c7 _ hn, en, iN_lt (by omega) (by omega)] at h; omega) (fun k hk _ ih => by
    have k20 : k < 20 := by omega
    refine c60_6_48_2 ⟨fun h => ?_, fun h => ?_⟩
    · rw [c7 _ (by omega), en, iN_lt (by omega) (by omega)] at h; omega
    · rw [iN_nat (by omega), iN_one]
      refine ⟨b20 k20, b20 k20, tv_60 k k20, ⟨tv_60 k k20, tv_6 k k20⟩, ?_⟩
      rw [cT1_s (by decide) k20]
      exact ih trivial) 0 (Nat.zero_le _) trivial
  rw [cT1_0] at main
  exact w48_60_6 main
set_option maxRecDepth 20000 in
theorem w48_86_6 {σ : gS} {K : gK} (h : gE 48 2 [some (.ref 86), some (.ref 6), some (.int 0)] [] σ K) : gE 48 0 [some (.ref 86), some (.ref 6), none] [] σ K :=
  gw_run (cy := 48) (cuts := [2, 31, 78, 86, 94, 102, 110, 118, 126, 134, 142]) (inl := []) (pf := gpcq) gpcq_ok 400 (by decide) h
set_option maxRecDepth 20000 in
theorem c86_6_48_2 {σ : gS} {K : gK} {l2 : Int32} (h : ((¬ l2 < (σ 6 7) → gE 48 31 [some (.ref 86), some (.ref 6), some (.int 0)] [] σ K) ∧ (l2 < (σ 6 7) → (0 ≤ l2 ∧ l2 < 20) ∧ (0 ≤ l2 ∧ l2 < 20) ∧ gTv (86 + 2 + l2.toNatClampNeg) ∧ (gTv (86 + 2 + l2.toNatClampNeg) ∧ gTv (6 + 2 + l2.toNatClampNeg)) ∧ gE 48 2 [some (.ref 86), some (.ref 6), some (.int (l2 + 1))] [] (cTv σ (86 + 2 + l2.toNatClampNeg) (6 + 2 + l2.toNatClampNeg)) K))) : gE 48 2 [some (.ref 86), some (.ref 6), some (.int l2)] [] σ K :=
  gw_run (cy := 48) (cuts := [2, 31, 78, 86, 94, 102, 110, 118, 126, 134, 142]) (inl := []) (pf := gpcq) gpcq_ok 400 (by decide) h
set_option maxRecDepth 20000 in
theorem c86_6_48_31 {σ : gS} {K : gK} {l2 : Int32} (h : ((¬ l2 < 50 → gE 48 78 [some (.ref 86), some (.ref 6), some (.int l2)] [] (cLc σ 110 30) K) ∧ (l2 < 50 → ((¬ l2 < 50 → gE 48 78 [some (.ref 86), some (.ref 6), some (.int l2)] [] (cLc σ 110 30) K) ∧ (l2 < 50 → (0 ≤ l2 ∧ l2 < 50) ∧ (0 ≤ l2 ∧ l2 < 50) ∧ gE 48 31 [some (.ref 86), some (.ref 6), some (.int (l2 + 1))] [] (gup σ 109 l2.toNatClampNeg (σ 29 l2.toNatClampNeg)) K))))) : gE 48 31 [some (.ref 86), some (.ref 6), some (.int l2)] [] σ K :=
  gw_run (cy := 48) (cuts := [2, 31, 78, 86, 94, 102, 110, 118, 126, 134, 142]) (inl := []) (pf := gpcq) gpcq_ok 400 (by decide) h
set_option maxRecDepth 20000 in
theorem c86_6_48_78 {σ : gS} {K : gK} {l2 : Option Value} (h : gE 48 86 [some (.ref 86), some (.ref 6), l2] [] (gup σ 86 4 (σ 6 4)) K) : gE 48 78 [some (.ref 86), some (.ref 6), l2] [] σ K :=
  gw_run (cy := 48) (cuts := [2, 31, 78, 86, 94, 102, 110, 118, 126, 134, 142]) (inl := []) (pf := gpcq) gpcq_ok 400 (by decide) h
set_option maxRecDepth 20000 in
theorem c86_6_48_86 {σ : gS} {K : gK} {l2 : Option Value} (h : gE 48 94 [some (.ref 86), some (.ref 6), l2] [] (gup σ 86 5 (σ 6 5)) K) : gE 48 86 [some (.ref 86), some (.ref 6), l2] [] σ K :=
  gw_run (cy := 48) (cuts := [2, 31, 78, 86, 94, 102, 110, 118, 126, 134, 142]) (inl := []) (pf := gpcq) gpcq_ok 400 (by decide) h
set_option maxRecDepth 20000 in
theorem c86_6_48_94 {σ : gS} {K : gK} {l2 : Option Value} (h : gE 48 102 [some (.ref 86), some (.ref 6), l2] [] (gup σ 86 6 (σ 6 6)) K) : gE 48 94 [some (.ref 86), some (.ref 6), l2] [] σ K :=
  gw_run (cy := 48) (cuts := [2, 31, 78, 86, 94, 102, 110, 118, 126, 134, 142]) (inl := []) (pf := gpcq) gpcq_ok 400 (by decide) h
set_option maxRecDepth 20000 in
theorem c86_6_48_102 {σ : gS} {K : gK} {l2 : Option Value} (h : gE 48 110 [some (.ref 86), some (.ref 6), l2] [] (gup σ 86 7 (σ 6 7)) K) : gE 48 102 [some (.ref 86), some (.ref 6), l2] [] σ K :=
  gw_run (cy := 48) (cuts := [2, 31, 78, 86, 94, 102, 110, 118, 126, 134, 142]) (inl := []) (pf := gpcq) gpcq_ok 400 (by decide) h
set_option maxRecDepth 20000 in
theorem c86_6_48_110 {σ : gS} {K : gK} {l2 : Option Value} (h : gE 48 118 [some (.ref 86), some (.ref 6), l2] [] (gup σ 86 8 (σ 6 8)) K) : gE 48 110 [some (.ref 86), some (.ref 6), l2] [] σ K :=
  gw_run (cy := 48) (cuts := [2, 31, 78, 86, 94, 102, 110, 118, 126, 134, 142]) (inl := []) (pf := gpcq) gpcq_ok 400 (by decide) h
set_option maxRecDepth 20000 in
theorem c86_6_48_118 {σ : gS} {K : gK} {l2 : Option Value} (h : gE 48 126 [some (.ref 86), some (.ref 6), l2] [] (gup σ 86 9 (σ 6 9)) K) : gE 48 118 [some (.ref 86), some (.ref 6), l2] [] σ K :=
  gw_run (cy := 48) (cuts := [2, 31, 78, 86, 94, 102, 110, 118, 126, 134, 142]) (inl := []) (pf := gpcq) gpcq_ok 400 (by decide) h
set_option maxRecDepth 20000 in
theorem c86_6_48_126 {σ : gS} {K : gK} {l2 : Option Value} (h : gE 48 134 [some (.ref 86), some (.ref 6), l2] [] (gup σ 86 10 (σ 6 10)) K) : gE 48 126 [some (.ref 86), some (.ref 6), l2] [] σ K :=
  gw_run (cy := 48) (cuts := [2, 31, 78, 86, 94, 102, 110, 118, 126, 134, 142]) (inl := []) (pf := gpcq) gpcq_ok 400 (by decide) h
set_option maxRecDepth 20000 in
theorem c86_6_48_134 {σ : gS} {K : gK} {l2 : Option Value} (h : gE 48 142 [some (.ref 86), some (.ref 6), l2] [] (gup σ 86 11 (σ 6 11)) K) : gE 48 134 [some (.ref 86), some (.ref 6), l2] [] σ K :=
  gw_run (cy := 48) (cuts := [2, 31, 78, 86, 94, 102, 110, 118, 126, 134, 142]) (inl := []) (pf := gpcq) gpcq_ok 400 (by decide) h
set_option maxRecDepth 20000 in
theorem c86_6_48_142 {σ : gS} {K : gK} {l2 : Option Value} (h : K none (gup σ 86 12 (σ 6 12))) : gE 48 142 [some (.ref 86), some (.ref 6), l2] [] σ K :=
  gw_run (cy := 48) (cuts := [2, 31, 78, 86, 94, 102, 110, 118, 126, 134, 142]) (inl := []) (pf := gpcq) gpcq_ok 400 (by decide) h
theorem s48_86_6 {σ : gS} {K : gK} (hc : 0 ≤ σ 6 7 ∧ σ 6 7 ≤ 20) (hK : K none (cCo σ 86 6)) : gE 48 0 [some (.ref 86), some (.ref 6), none] [] σ K := by
  obtain ⟨en, hn⟩ : σ 6 7 = iN (σ 6 7).toNatClampNeg ∧ (σ 6 7).toNatClampNeg ≤ 20 := by
    obtain ⟨e, l⟩ := iN_of hc.1
    refine ⟨e, ?_⟩
    have h2 := hc.2
    rw [e] at h2
    exact (iN_le (m := 20) l (by decide)).mp h2
  unfold cCo at hK
  obtain ⟨n, hnn⟩ : ∃ n, (σ 6 7).toNatClampNeg = n := ⟨_, rfl⟩
  rw [hnn] at en hn hK
  have tail : ∀ u, gE 48 78 [some (.ref 86), some (.ref 6), u] [] (cLc (cA1 (cT1 σ 86 6 n) 109 29 50) 110 30) K := by
    intro u
    obtain ⟨τ, hτ⟩ : ∃ τ, cLc (cA1 (cT1 σ 86 6 n) 109 29 50) 110 30 = τ := ⟨_, rfl⟩
    have hK : K none (cHd τ 86 6 9) := by rw [← hτ]; exact hK
    rw [hτ]
    have hs : ∀ k, gup (cHd τ 86 6 k) 86 (4 + k) (cHd τ 86 6 k 6 (4 + k)) = cHd τ 86 6 (k + 1) := fun k => cHd_s (by decide)
    have h0 : gup τ 86 4 (τ 6 4) = cHd τ 86 6 1 := by
      have := hs 0
      rw [cHd_0] at this
      exact this
    refine c86_6_48_78 ?_
    rw [h0]
    refine c86_6_48_86 ?_
    rw [hs 1]
    refine c86_6_48_94 ?_
    rw [hs 2]
    refine c86_6_48_102 ?_
    rw [hs 3]
    refine c86_6_48_110 ?_
    rw [hs 4]
    refine c86_6_48_118 ?_
    rw [hs 5]
    refine c86_6_48_126 ?_
    rw [hs 6]
    refine c86_6_48_134 ?_
    rw [hs 7]
    refine c86_6_48_142 ?_
    rw [hs 8]
    exact hK
  have main2 : gE 48 31 [some (.ref 86), some (.ref 6), some (.int 0)] [] (cT1 σ 86 6 n) K := by
    have main := g_forI (y := 48) (pc := 31) (K := K) 50 (fun k => [some (.ref 86), some (.ref 6), some (.int (iN k))]) (fun k => cA1 (cT1 σ 86 6 n) 109 29 k) (fun _ => True) (fun _ => by
      refine c86_6_48_31 ⟨fun _ => tail _, fun h => absurd h (by decide)⟩) (fun k hk _ ih => by
      have bd : 0 ≤ iN k ∧ iN k < 50 := ⟨(iN_le (k := 0) (by decide) (by omega)).mpr (by omega), (iN_lt (m := 50) (by omega) (by decide)).mpr hk⟩
      refine c86_6_48_31 ⟨fun h => absurd bd.2 h, fun _ => ⟨fun h => absurd bd.2 h, fun _ => ⟨bd, bd, ?_⟩⟩⟩
      rw [iN_nat (by omega), cA1_s (by decide), iN_one]
      exact ih trivial) 0 (Nat.zero_le _) trivial
    rw [cA1_0] at main
    exact main
  have c7 : ∀ k, k ≤ 20 → cT1 σ 86 6 k 6 7 = σ 6 7 := fun k hk => by unfold cT1; rw [if_neg (by omega)]
  have main := g_forI (y := 48) (pc := 2) (K := K) n (fun k => [some (.ref 86), some (.ref 6), some (.int (iN k))]) (fun k => cT1 σ 86 6 k) (fun _ => True) (fun _ => by
    refine c86_6_48_2 ⟨fun _ => main2, fun h => ?_⟩
    rw [c7 _ hn, en, iN_lt (by omega) (by omega)] at h; omega) (fun k hk _ ih => by
    have k20 : k < 20 := by omega
    refine c86_6_48_2 ⟨fun h => ?_, fun h => ?_⟩
    · rw [c7 _ (by omega), en, iN_lt (by omega) (by omega)] at h; omega
    · rw [iN_nat (by omega), iN_one]
      refine ⟨b20 k20, b20 k20, tv_86 k k20, ⟨tv_86 k k20, tv_6 k k20⟩, ?_⟩
      rw [cT1_s (by decide) k20]
      exact ih trivial) 0 (Nat.zero_le _) trivial
  rw [cT1_0] at main
  exact w48_86_6 main
set_option maxRecDepth 20000 in
theorem w48_6_60 {σ : gS} {K : gK} (h : gE 48 2 [some (.ref 6), some (.ref 60), some (.int 0)] [] σ K) : gE 48 0 [some (.ref 6), some (.ref 60), none] [] σ K :=
  gw_run (cy := 48) (cuts := [2, 31, 78, 86, 94, 102, 110, 118, 126, 134, 142]) (inl := []) (pf := gpcq) gpcq_ok 400 (by decide) h
set_option maxRecDepth 20000 in
theorem c6_60_48_2 {σ : gS} {K : gK} {l2 : Int32} (h : ((¬ l2 < (σ 60 7) → gE 48 31 [some (.ref 6), some (.ref 60), some (.int 0)] [] σ K) ∧ (l2 < (σ 60 7) → (0 ≤ l2 ∧ l2 < 20) ∧ (0 ≤ l2 ∧ l2 < 20) ∧ gTv (6 + 2 + l2.toNatClampNeg) ∧ (gTv (6 + 2 + l2.toNatClampNeg) ∧ gTv (60 + 2 + l2.toNatClampNeg)) ∧ gE 48 2 [some (.ref 6), some (.ref 60), some (.int (l2 + 1))] [] (cTv σ (6 + 2 + l2.toNatClampNeg) (60 + 2 + l2.toNatClampNeg)) K))) : gE 48 2 [some (.ref 6), some (.ref 60), some (.int l2)] [] σ K :=
  gw_run (cy := 48) (cuts := [2, 31, 78, 86, 94, 102, 110, 118, 126, 134, 142]) (inl := []) (pf := gpcq) gpcq_ok 400 (by decide) h
set_option maxRecDepth 20000 in
theorem c6_60_48_31 {σ : gS} {K : gK} {l2 : Int32} (h : ((¬ l2 < 50 → gE 48 78 [some (.ref 6), some (.ref 60), some (.int l2)] [] (cLc σ 30 84) K) ∧ (l2 < 50 → ((¬ l2 < 50 → gE 48 78 [some (.ref 6), some (.ref 60), some (.int l2)] [] (cLc σ 30 84) K) ∧ (l2 < 50 → (0 ≤ l2 ∧ l2 < 50) ∧ (0 ≤ l2 ∧ l2 < 50) ∧ gE 48 31 [some (.ref 6), some (.ref 60), some (.int (l2 + 1))] [] (gup σ 29 l2.toNatClampNeg (σ 83 l2.toNatClampNeg)) K))))) : gE 48 31 [some (.ref 6), some (.ref 60), some (.int l2)] [] σ K :=
  gw_run (cy := 48) (cuts := [2, 31, 78, 86, 94, 102, 110, 118, 126, 134, 142]) (inl := []) (pf := gpcq) gpcq_ok 400 (by decide) h
set_option maxRecDepth 20000 in
theorem c6_60_48_78 {σ : gS} {K : gK} {l2 : Option Value} (h : gE 48 86 [some (.ref 6), some (.ref 60), l2] [] (gup σ 6 4 (σ 60 4)) K) : gE 48 78 [some (.ref 6), some (.ref 60), l2] [] σ K :=
  gw_run (cy := 48) (cuts := [2, 31, 78, 86, 94, 102, 110, 118, 126, 134, 142]) (inl := []) (pf := gpcq) gpcq_ok 400 (by decide) h
set_option maxRecDepth 20000 in
theorem c6_60_48_86 {σ : gS} {K : gK} {l2 : Option Value} (h : gE 48 94 [some (.ref 6), some (.ref 60), l2] [] (gup σ 6 5 (σ 60 5)) K) : gE 48 86 [some (.ref 6), some (.ref 60), l2] [] σ K :=
  gw_run (cy := 48) (cuts := [2, 31, 78, 86, 94, 102, 110, 118, 126, 134, 142]) (inl := []) (pf := gpcq) gpcq_ok 400 (by decide) h
set_option maxRecDepth 20000 in
theorem c6_60_48_94 {σ : gS} {K : gK} {l2 : Option Value} (h : gE 48 102 [some (.ref 6), some (.ref 60), l2] [] (gup σ 6 6 (σ 60 6)) K) : gE 48 94 [some (.ref 6), some (.ref 60), l2] [] σ K :=
  gw_run (cy := 48) (cuts := [2, 31, 78, 86, 94, 102, 110, 118, 126, 134, 142]) (inl := []) (pf := gpcq) gpcq_ok 400 (by decide) h
set_option maxRecDepth 20000 in
theorem c6_60_48_102 {σ : gS} {K : gK} {l2 : Option Value} (h : gE 48 110 [some (.ref 6), some (.ref 60), l2] [] (gup σ 6 7 (σ 60 7)) K) : gE 48 102 [some (.ref 6), some (.ref 60), l2] [] σ K :=
  gw_run (cy := 48) (cuts := [2, 31, 78, 86, 94, 102, 110, 118, 126, 134, 142]) (inl := []) (pf := gpcq) gpcq_ok 400 (by decide) h
set_option maxRecDepth 20000 in
theorem c6_60_48_110 {σ : gS} {K : gK} {l2 : Option Value} (h : gE 48 118 [some (.ref 6), some (.ref 60), l2] [] (gup σ 6 8 (σ 60 8)) K) : gE 48 110 [some (.ref 6), some (.ref 60), l2] [] σ K :=
  gw_run (cy := 48) (cuts := [2, 31, 78, 86, 94, 102, 110, 118, 126, 134, 142]) (inl := []) (pf := gpcq) gpcq_ok 400 (by decide) h
set_option maxRecDepth 20000 in
theorem c6_60_48_118 {σ : gS} {K : gK} {l2 : Option Value} (h : gE 48 126 [some (.ref 6), some (.ref 60), l2] [] (gup σ 6 9 (σ 60 9)) K) : gE 48 118 [some (.ref 6), some (.ref 60), l2] [] σ K :=
  gw_run (cy := 48) (cuts := [2, 31, 78, 86, 94, 102, 110, 118, 126, 134, 142]) (inl := []) (pf := gpcq) gpcq_ok 400 (by decide) h
set_option maxRecDepth 20000 in
theorem c6_60_48_126 {σ : gS} {K : gK} {l2 : Option Value} (h : gE 48 134 [some (.ref 6), some (.ref 60), l2] [] (gup σ 6 10 (σ 60 10)) K) : gE 48 126 [some (.ref 6), some (.ref 60), l2] [] σ K :=
  gw_run (cy := 48) (cuts := [2, 31, 78, 86, 94, 102, 110, 118, 126, 134, 142]) (inl := []) (pf := gpcq) gpcq_ok 400 (by decide) h
set_option maxRecDepth 20000 in
theorem c6_60_48_134 {σ : gS} {K : gK} {l2 : Option Value} (h : gE 48 142 [some (.ref 6), some (.ref 60), l2] [] (gup σ 6 11 (σ 60 11)) K) : gE 48 134 [some (.ref 6), some (.ref 60), l2] [] σ K :=
  gw_run (cy := 48) (cuts := [2, 31, 78, 86, 94, 102, 110, 118, 126, 134, 142]) (inl := []) (pf := gpcq) gpcq_ok 400 (by decide) h
set_option maxRecDepth 20000 in
theorem c6_60_48_142 {σ : gS} {K : gK} {l2 : Option Value} (h : K none (gup σ 6 12 (σ 60 12))) : gE 48 142 [some (.ref 6), some (.ref 60), l2] [] σ K :=
  gw_run (cy := 48) (cuts := [2, 31, 78, 86, 94, 102, 110, 118, 126, 134, 142]) (inl := []) (pf := gpcq) gpcq_ok 400 (by decide) h
theorem s48_6_60 {σ : gS} {K : gK} (hc : 0 ≤ σ 60 7 ∧ σ 60 7 ≤ 20) (hK : K none (cCo σ 6 60)) : gE 48 0 [some (.ref 6), some (.ref 60), none] [] σ K := by
  obtain ⟨en, hn⟩ : σ 60 7 = iN (σ 60 7).toNatClampNeg ∧ (σ 60 7).toNatClampNeg ≤ 20 := by
    obtain ⟨e, l⟩ := iN_of hc.1
    refine ⟨e, ?_⟩
    have h2 := hc.2
    rw [e] at h2
    exact (iN_le (m := 20) l (by decide)).mp h2
  unfold cCo at hK
  obtain ⟨n, hnn⟩ : ∃ n, (σ 60 7).toNatClampNeg = n := ⟨_, rfl⟩
  rw [hnn] at en hn hK
  have tail : ∀ u, gE 48 78 [some (.ref 6), some (.ref 60), u] [] (cLc (cA1 (cT1 σ 6 60 n) 29 83 50) 30 84) K := by
    intro u
    obtain ⟨τ, hτ⟩ : ∃ τ, cLc (cA1 (cT1 σ 6 60 n) 29 83 50) 30 84 = τ := ⟨_, rfl⟩
    have hK : K none (cHd τ 6 60 9) := by rw [← hτ]; exact hK
    rw [hτ]
    have hs : ∀ k, gup (cHd τ 6 60 k) 6 (4 + k) (cHd τ 6 60 k 60 (4 + k)) = cHd τ 6 60 (k + 1) := fun k => cHd_s (by decide)
    have h0 : gup τ 6 4 (τ 60 4) = cHd τ 6 60 1 := by
      have := hs 0
      rw [cHd_0] at this
      exact this
    refine c6_60_48_78 ?_
    rw [h0]
    refine c6_60_48_86 ?_
    rw [hs 1]
    refine c6_60_48_94 ?_
    rw [hs 2]
    refine c6_60_48_102 ?_
    rw [hs 3]
    refine c6_60_48_110 ?_
    rw [hs 4]
    refine c6_60_48_118 ?_
    rw [hs 5]
    refine c6_60_48_126 ?_
    rw [hs 6]
    refine c6_60_48_134 ?_
    rw [hs 7]
    refine c6_60_48_142 ?_
    rw [hs 8]
    exact hK
  have main2 : gE 48 31 [some (.ref 6), some (.ref 60), some (.int 0)] [] (cT1 σ 6 60 n) K := by
    have main := g_forI (y := 48) (pc := 31) (K := K) 50 (fun k => [some (.ref 6), some (.ref 60), some (.int (iN k))]) (fun k => cA1 (cT1 σ 6 60 n) 29 83 k) (fun _ => True) (fun _ => by
      refine c6_60_48_31 ⟨fun _ => tail _, fun h => absurd h (by decide)⟩) (fun k hk _ ih => by
      have bd : 0 ≤ iN k ∧ iN k < 50 := ⟨(iN_le (k := 0) (by decide) (by omega)).mpr (by omega), (iN_lt (m := 50) (by omega) (by decide)).mpr hk⟩
      refine c6_60_48_31 ⟨fun h => absurd bd.2 h, fun _ => ⟨fun h => absurd bd.2 h, fun _ => ⟨bd, bd, ?_⟩⟩⟩
      rw [iN_nat (by omega), cA1_s (by decide), iN_one]
      exact ih trivial) 0 (Nat.zero_le _) trivial
    rw [cA1_0] at main
    exact main
  have c7 : ∀ k, k ≤ 20 → cT1 σ 6 60 k 60 7 = σ 60 7 := fun k hk => by unfold cT1; rw [if_neg (by omega)]
  have main := g_forI (y := 48) (pc := 2) (K := K) n (fun k => [some (.ref 6), some (.ref 60), some (.int (iN k))]) (fun k => cT1 σ 6 60 k) (fun _ => True) (fun _ => by
    refine c6_60_48_2 ⟨fun _ => main2, fun h => ?_⟩
    rw [c7 _ hn, en, iN_lt (by omega) (by omega)] at h; omega) (fun k hk _ ih => by
    have k20 : k < 20 := by omega
    refine c6_60_48_2 ⟨fun h => ?_, fun h => ?_⟩
    · rw [c7 _ (by omega), en, iN_lt (by omega) (by omega)] at h; omega
    · rw [iN_nat (by omega), iN_one]
      refine ⟨b20 k20, b20 k20, tv_6 k k20, ⟨tv_6 k k20, tv_60 k k20⟩, ?_⟩
      rw [cT1_s (by decide) k20]
      exact ih trivial) 0 (Nat.zero_le _) trivial
  rw [cT1_0] at main
  exact w48_6_60 main
set_option maxRecDepth 20000 in
theorem w48_6_86 {σ : gS} {K : gK} (h : gE 48 2 [some (.ref 6), some (.ref 86), some (.int 0)] [] σ K) : gE 48 0 [some (.ref 6), some (.ref 86), none] [] σ K :=
  gw_run (cy := 48) (cuts := [2, 31, 78, 86, 94, 102, 110, 118, 126, 134, 142]) (inl := []) (pf := gpcq) gpcq_ok 400 (by decide) h
set_option maxRecDepth 20000 in
theorem c6_86_48_2 {σ : gS} {K : gK} {l2 : Int32} (h : ((¬ l2 < (σ 86 7) → gE 48 31 [some (.ref 6), some (.ref 86), some (.int 0)] [] σ K) ∧ (l2 < (σ 86 7) → (0 ≤ l2 ∧ l2 < 20) ∧ (0 ≤ l2 ∧ l2 < 20) ∧ gTv (6 + 2 + l2.toNatClampNeg) ∧ (gTv (6 + 2 + l2.toNatClampNeg) ∧ gTv (86 + 2 + l2.toNatClampNeg)) ∧ gE 48 2 [some (.ref 6), some (.ref 86), some (.int (l2 + 1))] [] (cTv σ (6 + 2 + l2.toNatClampNeg) (86 + 2 + l2.toNatClampNeg)) K))) : gE 48 2 [some (.ref 6), some (.ref 86), some (.int l2)] [] σ K :=
  gw_run (cy := 48) (cuts := [2, 31, 78, 86, 94, 102, 110, 118, 126, 134, 142]) (inl := []) (pf := gpcq) gpcq_ok 400 (by decide) h
set_option maxRecDepth 20000 in
theorem c6_86_48_31 {σ : gS} {K : gK} {l2 : Int32} (h : ((¬ l2 < 50 → gE 48 78 [some (.ref 6), some (.ref 86), some (.int l2)] [] (cLc σ 30 110) K) ∧ (l2 < 50 → ((¬ l2 < 50 → gE 48 78 [some (.ref 6), some (.ref 86), some (.int l2)] [] (cLc σ 30 110) K) ∧ (l2 < 50 → (0 ≤ l2 ∧ l2 < 50) ∧ (0 ≤ l2 ∧ l2 < 50) ∧ gE 48 31 [some (.ref 6), some (.ref 86), some (.int (l2 + 1))] [] (gup σ 29 l2.toNatClampNeg (σ 109 l2.toNatClampNeg)) K))))) : gE 48 31 [some (.ref 6), some (.ref 86), some (.int l2)] [] σ K :=
  gw_run (cy := 48) (cuts := [2, 31, 78, 86, 94, 102, 110, 118, 126, 134, 142]) (inl := []) (pf := gpcq) gpcq_ok 400 (by decide) h
set_option maxRecDepth 20000 in
theorem c6_86_48_78 {σ : gS} {K : gK} {l2 : Option Value} (h : gE 48 86 [some (.ref 6), some (.ref 86), l2] [] (gup σ 6 4 (σ 86 4)) K) : gE 48 78 [some (.ref 6), some (.ref 86), l2] [] σ K :=
  gw_run (cy := 48) (cuts := [2, 31, 78, 86, 94, 102, 110, 118, 126, 134, 142]) (inl := []) (pf := gpcq) gpcq_ok 400 (by decide) h
set_option maxRecDepth 20000 in
theorem c6_86_48_86 {σ : gS} {K : gK} {l2 : Option Value} (h : gE 48 94 [some (.ref 6), some (.ref 86), l2] [] (gup σ 6 5 (σ 86 5)) K) : gE 48 86 [some (.ref 6), some (.ref 86), l2] [] σ K :=
  gw_run (cy := 48) (cuts := [2, 31, 78, 86, 94, 102, 110, 118, 126, 134, 142]) (inl := []) (pf := gpcq) gpcq_ok 400 (by decide) h
set_option maxRecDepth 20000 in
theorem c6_86_48_94 {σ : gS} {K : gK} {l2 : Option Value} (h : gE 48 102 [some (.ref 6), some (.ref 86), l2] [] (gup σ 6 6 (σ 86 6)) K) : gE 48 94 [some (.ref 6), some (.ref 86), l2] [] σ K :=
  gw_run (cy := 48) (cuts := [2, 31, 78, 86, 94, 102, 110, 118, 126, 134, 142]) (inl := []) (pf := gpcq) gpcq_ok 400 (by decide) h
set_option maxRecDepth 20000 in
theorem c6_86_48_102 {σ : gS} {K : gK} {l2 : Option Value} (h : gE 48 110 [some (.ref 6), some (.ref 86), l2] [] (gup σ 6 7 (σ 86 7)) K) : gE 48 102 [some (.ref 6), some (.ref 86), l2] [] σ K :=
  gw_run (cy := 48) (cuts := [2, 31, 78, 86, 94, 102, 110, 118, 126, 134, 142]) (inl := []) (pf := gpcq) gpcq_ok 400 (by decide) h
set_option maxRecDepth 20000 in
theorem c6_86_48_110 {σ : gS} {K : gK} {l2 : Option Value} (h : gE 48 118 [some (.ref 6), some (.ref 86), l2] [] (gup σ 6 8 (σ 86 8)) K) : gE 48 110 [some (.ref 6), some (.ref 86), l2] [] σ K :=
  gw_run (cy := 48) (cuts := [2, 31, 78, 86, 94, 102, 110, 118, 126, 134, 142]) (inl := []) (pf := gpcq) gpcq_ok 400 (by decide) h
set_option maxRecDepth 20000 in
theorem c6_86_48_118 {σ : gS} {K : gK} {l2 : Option Value} (h : gE 48 126 [some (.ref 6), some (.ref 86), l2] [] (gup σ 6 9 (σ 86 9)) K) : gE 48 118 [some (.ref 6), some (.ref 86), l2] [] σ K :=
  gw_run (cy := 48) (cuts := [2, 31, 78, 86, 94, 102, 110, 118, 126, 134, 142]) (inl := []) (pf := gpcq) gpcq_ok 400 (by decide) h
set_option maxRecDepth 20000 in
theorem c6_86_48_126 {σ : gS} {K : gK} {l2 : Option Value} (h : gE 48 134 [some (.ref 6), some (.ref 86), l2] [] (gup σ 6 10 (σ 86 10)) K) : gE 48 126 [some (.ref 6), some (.ref 86), l2] [] σ K :=
  gw_run (cy := 48) (cuts := [2, 31, 78, 86, 94, 102, 110, 118, 126, 134, 142]) (inl := []) (pf := gpcq) gpcq_ok 400 (by decide) h
set_option maxRecDepth 20000 in
theorem c6_86_48_134 {σ : gS} {K : gK} {l2 : Option Value} (h : gE 48 142 [some (.ref 6), some (.ref 86), l2] [] (gup σ 6 11 (σ 86 11)) K) : gE 48 134 [some (.ref 6), some (.ref 86), l2] [] σ K :=
  gw_run (cy := 48) (cuts := [2, 31, 78, 86, 94, 102, 110, 118, 126, 134, 142]) (inl := []) (pf := gpcq) gpcq_ok 400 (by decide) h
set_option maxRecDepth 20000 in
theorem c6_86_48_142 {σ : gS} {K : gK} {l2 : Option Value} (h : K none (gup σ 6 12 (σ 86 12))) : gE 48 142 [some (.ref 6), some (.ref 86), l2] [] σ K :=
  gw_run (cy := 48) (cuts := [2, 31, 78, 86, 94, 102, 110, 118, 126, 134, 142]) (inl := []) (pf := gpcq) gpcq_ok 400 (by decide) h
theorem s48_6_86 {σ : gS} {K : gK} (hc : 0 ≤ σ 86 7 ∧ σ 86 7 ≤ 20) (hK : K none (cCo σ 6 86)) : gE 48 0 [some (.ref 6), some (.ref 86), none] [] σ K := by
  obtain ⟨en, hn⟩ : σ 86 7 = iN (σ 86 7).toNatClampNeg ∧ (σ 86 7).toNatClampNeg ≤ 20 := by
    obtain ⟨e, l⟩ := iN_of hc.1
    refine ⟨e, ?_⟩
    have h2 := hc.2
    rw [e] at h2
    exact (iN_le (m := 20) l (by decide)).mp h2
  unfold cCo at hK
  obtain ⟨n, hnn⟩ : ∃ n, (σ 86 7).toNatClampNeg = n := ⟨_, rfl⟩
  rw [hnn] at en hn hK
  have tail : ∀ u, gE 48 78 [some (.ref 6), some (.ref 86), u] [] (cLc (cA1 (cT1 σ 6 86 n) 29 109 50) 30 110) K := by
    intro u
    obtain ⟨τ, hτ⟩ : ∃ τ, cLc (cA1 (cT1 σ 6 86 n) 29 109 50) 30 110 = τ := ⟨_, rfl⟩
    have hK : K none (cHd τ 6 86 9) := by rw [← hτ]; exact hK
    rw [hτ]
    have hs : ∀ k, gup (cHd τ 6 86 k) 6 (4 + k) (cHd τ 6 86 k 86 (4 + k)) = cHd τ 6 86 (k + 1) := fun k => cHd_s (by decide)
    have h0 : gup τ 6 4 (τ 86 4) = cHd τ 6 86 1 := by
      have := hs 0
      rw [cHd_0] at this
      exact this
    refine c6_86_48_78 ?_
    rw [h0]
    refine c6_86_48_86 ?_
    rw [hs 1]
    refine c6_86_48_94 ?_
    rw [hs 2]
    refine c6_86_48_102 ?_
    rw [hs 3]
    refine c6_86_48_110 ?_
    rw [hs 4]
    refine c6_86_48_118 ?_
    rw [hs 5]
    refine c6_86_48_126 ?_
    rw [hs 6]
    refine c6_86_48_134 ?_
    rw [hs 7]
    refine c6_86_48_142 ?_
    rw [hs 8]
    exact hK
  have main2 : gE 48 31 [some (.ref 6), some (.ref 86), some (.int 0)] [] (cT1 σ 6 86 n) K := by
    have main := g_forI (y := 48) (pc := 31) (K := K) 50 (fun k => [some (.ref 6), some (.ref 86), some (.int (iN k))]) (fun k => cA1 (cT1 σ 6 86 n) 29 109 k) (fun _ => True) (fun _ => by
      refine c6_86_48_31 ⟨fun _ => tail _, fun h => absurd h (by decide)⟩) (fun k hk _ ih => by
      have bd : 0 ≤ iN k ∧ iN k < 50 := ⟨(iN_le (k := 0) (by decide) (by omega)).mpr (by omega), (iN_lt (m := 50) (by omega) (by decide)).mpr hk⟩
      refine c6_86_48_31 ⟨fun h => absurd bd.2 h, fun _ => ⟨fun h => absurd bd.2 h, fun _ => ⟨bd, bd, ?_⟩⟩⟩
      rw [iN_nat (by omega), cA1_s (by decide), iN_one]
      exact ih trivial) 0 (Nat.zero_le _) trivial
    rw [cA1_0] at main
    exact main
  have c7 : ∀ k, k ≤ 20 → cT1 σ 6 86 k 86 7 = σ 86 7 := fun k hk => by unfold cT1; rw [if_neg (by omega)]
  have main := g_forI (y := 48) (pc := 2) (K := K) n (fun k => [some (.ref 6), some (.ref 86), some (.int (iN k))]) (fun k => cT1 σ 6 86 k) (fun _ => True) (fun _ => by
    refine c6_86_48_2 ⟨fun _ => main2, fun h => ?_⟩
    rw [c7 _ hn, en, iN_lt (by omega) (by omega)] at h; omega) (fun k hk _ ih => by
    have k20 : k < 20 := by omega
    refine c6_86_48_2 ⟨fun h => ?_, fun h => ?_⟩
    · rw [c7 _ (by omega), en, iN_lt (by omega) (by omega)] at h; omega
    · rw [iN_nat (by omega), iN_one]
      refine ⟨b20 k20, b20 k20, tv_6 k k20, ⟨tv_6 k k20, tv_86 k k20⟩, ?_⟩
      rw [cT1_s (by decide) k20]
      exact ih trivial) 0 (Nat.zero_le _) trivial
  rw [cT1_0] at main
  exact w48_6_86 main
set_option maxRecDepth 20000 in
theorem w48_115_6 {σ : gS} {K : gK} (h : gE 48 2 [some (.ref 115), some (.ref 6), some (.int 0)] [] σ K) : gE 48 0 [some (.ref 115), some (.ref 6), none] [] σ K :=
  gw_run (cy := 48) (cuts := [2, 31, 78, 86, 94, 102, 110, 118, 126, 134, 142]) (inl := []) (pf := gpcq) gpcq_ok 400 (by decide) h
set_option maxRecDepth 20000 in
theorem c115_6_48_2 {σ : gS} {K : gK} {l2 : Int32} (h : ((¬ l2 < (σ 6 7) → gE 48 31 [some (.ref 115), some (.ref 6), some (.int 0)] [] σ K) ∧ (l2 < (σ 6 7) → (0 ≤ l2 ∧ l2 < 20) ∧ (0 ≤ l2 ∧ l2 < 20) ∧ gTv (115 + 2 + l2.toNatClampNeg) ∧ (gTv (115 + 2 + l2.toNatClampNeg) ∧ gTv (6 + 2 + l2.toNatClampNeg)) ∧ gE 48 2 [some (.ref 115), some (.ref 6), some (.int (l2 + 1))] [] (cTv σ (115 + 2 + l2.toNatClampNeg) (6 + 2 + l2.toNatClampNeg)) K))) : gE 48 2 [some (.ref 115), some (.ref 6), some (.int l2)] [] σ K :=
  gw_run (cy := 48) (cuts := [2, 31, 78, 86, 94, 102, 110, 118, 126, 134, 142]) (inl := []) (pf := gpcq) gpcq_ok 400 (by decide) h
set_option maxRecDepth 20000 in
theorem c115_6_48_31 {σ : gS} {K : gK} {l2 : Int32} (h : ((¬ l2 < 50 → gE 48 78 [some (.ref 115), some (.ref 6), some (.int l2)] [] (cLc σ 139 30) K) ∧ (l2 < 50 → ((¬ l2 < 50 → gE 48 78 [some (.ref 115), some (.ref 6), some (.int l2)] [] (cLc σ 139 30) K) ∧ (l2 < 50 → (0 ≤ l2 ∧ l2 < 50) ∧ (0 ≤ l2 ∧ l2 < 50) ∧ gE 48 31 [some (.ref 115), some (.ref 6), some (.int (l2 + 1))] [] (gup σ 138 l2.toNatClampNeg (σ 29 l2.toNatClampNeg)) K))))) : gE 48 31 [some (.ref 115), some (.ref 6), some (.int l2)] [] σ K :=
  gw_run (cy := 48) (cuts := [2, 31, 78, 86, 94, 102, 110, 118, 126, 134, 142]) (inl := []) (pf := gpcq) gpcq_ok 400 (by decide) h
set_option maxRecDepth 20000 in
theorem c115_6_48_78 {σ : gS} {K : gK} {l2 : Option Value} (h : gE 48 86 [some (.ref 115), some (.ref 6), l2] [] (gup σ 115 4 (σ 6 4)) K) : gE 48 78 [some (.ref 115), some (.ref 6), l2] [] σ K :=
  gw_run (cy := 48) (cuts := [2, 31, 78, 86, 94, 102, 110, 118, 126, 134, 142]) (inl := []) (pf := gpcq) gpcq_ok 400 (by decide) h
set_option maxRecDepth 20000 in
theorem c115_6_48_86 {σ : gS} {K : gK} {l2 : Option Value} (h : gE 48 94 [some (.ref 115), some (.ref 6), l2] [] (gup σ 115 5 (σ 6 5)) K) : gE 48 86 [some (.ref 115), some (.ref 6), l2] [] σ K :=
  gw_run (cy := 48) (cuts := [2, 31, 78, 86, 94, 102, 110, 118, 126, 134, 142]) (inl := []) (pf := gpcq) gpcq_ok 400 (by decide) h
set_option maxRecDepth 20000 in
theorem c115_6_48_94 {σ : gS} {K : gK} {l2 : Option Value} (h : gE 48 102 [some (.ref 115), some (.ref 6), l2] [] (gup σ 115 6 (σ 6 6)) K) : gE 48 94 [some (.ref 115), some (.ref 6), l2] [] σ K :=
  gw_run (cy := 48) (cuts := [2, 31, 78, 86, 94, 102, 110, 118, 126, 134, 142]) (inl := []) (pf := gpcq) gpcq_ok 400 (by decide) h
set_option maxRecDepth 20000 in
theorem c115_6_48_102 {σ : gS} {K : gK} {l2 : Option Value} (h : gE 48 110 [some (.ref 115), some (.ref 6), l2] [] (gup σ 115 7 (σ 6 7)) K) : gE 48 102 [some (.ref 115), some (.ref 6), l2] [] σ K :=
  gw_run (cy := 48) (cuts := [2, 31, 78, 86, 94, 102, 110, 118, 126, 134, 142]) (inl := []) (pf := gpcq) gpcq_ok 400 (by decide) h
set_option maxRecDepth 20000 in
theorem c115_6_48_110 {σ : gS} {K : gK} {l2 : Option Value} (h : gE 48 118 [some (.ref 115), some (.ref 6), l2] [] (gup σ 115 8 (σ 6 8)) K) : gE 48 110 [some (.ref 115), some (.ref 6), l2] [] σ K :=
  gw_run (cy := 48) (cuts := [2, 31, 78, 86, 94, 102, 110, 118, 126, 134, 142]) (inl := []) (pf := gpcq) gpcq_ok 400 (by decide) h
set_option maxRecDepth 20000 in
theorem c115_6_48_118 {σ : gS} {K : gK} {l2 : Option Value} (h : gE 48 126 [some (.ref 115), some (.ref 6), l2] [] (gup σ 115 9 (σ 6 9)) K) : gE 48 118 [some (.ref 115), some (.ref 6), l2] [] σ K :=
  gw_run (cy := 48) (cuts := [2, 31, 78, 86, 94, 102, 110, 118, 126, 134, 142]) (inl := []) (pf := gpcq) gpcq_ok 400 (by decide) h
set_option maxRecDepth 20000 in
theorem c115_6_48_126 {σ : gS} {K : gK} {l2 : Option Value} (h : gE 48 134 [some (.ref 115), some (.ref 6), l2] [] (gup σ 115 10 (σ 6 10)) K) : gE 48 126 [some (.ref 115), some (.ref 6), l2] [] σ K :=
  gw_run (cy := 48) (cuts := [2, 31, 78, 86, 94, 102, 110, 118, 126, 134, 142]) (inl := []) (pf := gpcq) gpcq_ok 400 (by decide) h
set_option maxRecDepth 20000 in
theorem c115_6_48_134 {σ : gS} {K : gK} {l2 : Option Value} (h : gE 48 142 [some (.ref 115), some (.ref 6), l2] [] (gup σ 115 11 (σ 6 11)) K) : gE 48 134 [some (.ref 115), some (.ref 6), l2] [] σ K :=
  gw_run (cy := 48) (cuts := [2, 31, 78, 86, 94, 102, 110, 118, 126, 134, 142]) (inl := []) (pf := gpcq) gpcq_ok 400 (by decide) h
set_option maxRecDepth 20000 in
theorem c115_6_48_142 {σ : gS} {K : gK} {l2 : Option Value} (h : K none (gup σ 115 12 (σ 6 12))) : gE 48 142 [some (.ref 115), some (.ref 6), l2] [] σ K :=
  gw_run (cy := 48) (cuts := [2, 31, 78, 86, 94, 102, 110, 118, 126, 134, 142]) (inl := []) (pf := gpcq) gpcq_ok 400 (by decide) h
theorem s48_115_6 {σ : gS} {K : gK} (hc : 0 ≤ σ 6 7 ∧ σ 6 7 ≤ 20) (hK : K none (cCo σ 115 6)) : gE 48 0 [some (.ref 115), some (.ref 6), none] [] σ K := by
  obtain ⟨en, hn⟩ : σ 6 7 = iN (σ 6 7).toNatClampNeg ∧ (σ 6 7).toNatClampNeg ≤ 20 := by
    obtain ⟨e, l⟩ := iN_of hc.1
    refine ⟨e, ?_⟩
    have h2 := hc.2
    rw [e] at h2
    exact (iN_le (m := 20) l (by decide)).mp h2
  unfold cCo at hK
  obtain ⟨n, hnn⟩ : ∃ n, (σ 6 7).toNatClampNeg = n := ⟨_, rfl⟩
  rw [hnn] at en hn hK
  have tail : ∀ u, gE 48 78 [some (.ref 115), some (.ref 6), u] [] (cLc (cA1 (cT1 σ 115 6 n) 138 29 50) 139 30) K := by
    intro u
    obtain ⟨τ, hτ⟩ : ∃ τ, cLc (cA1 (cT1 σ 115 6 n) 138 29 50) 139 30 = τ := ⟨_, rfl⟩
    have hK : K none (cHd τ 115 6 9) := by rw [← hτ]; exact hK
    rw [hτ]
    have hs : ∀ k, gup (cHd τ 115 6 k) 115 (4 + k) (cHd τ 115 6 k 6 (4 + k)) = cHd τ 115 6 (k + 1) := fun k => cHd_s (by decide)
    have h0 : gup τ 115 4 (τ 6 4) = cHd τ 115 6 1 := by
      have := hs 0
      rw [cHd_0] at this
      exact this
    refine c115_6_48_78 ?_
    rw [h0]
    refine c115_6_48_86 ?_
    rw [hs 1]
    refine c115_6_48_94 ?_
    rw [hs 2]
    refine c115_6_48_102 ?_
    rw [hs 3]
    refine c115_6_48_110 ?_
    rw [hs 4]
    refine c115_6_48_118 ?_
    rw [hs 5]
    refine c115_6_48_126 ?_
    rw [hs 6]
    refine c115_6_48_134 ?_
    rw [hs 7]
    refine c115_6_48_142 ?_
    rw [hs 8]
    exact hK
  have main2 : gE 48 31 [some (.ref 115), some (.ref 6), some (.int 0)] [] (cT1 σ 115 6 n) K := by
    have main := g_forI (y := 48) (pc := 31) (K := K) 50 (fun k => [some (.ref 115), some (.ref 6), some (.int (iN k))]) (fun k => cA1 (cT1 σ 115 6 n) 138 29 k) (fun _ => True) (fun _ => by
      refine c115_6_48_31 ⟨fun _ => tail _, fun h => absurd h (by decide)⟩) (fun k hk _ ih => by
      have bd : 0 ≤ iN k ∧ iN k < 50 := ⟨(iN_le (k := 0) (by decide) (by omega)).mpr (by omega), (iN_lt (m := 50) (by omega) (by decide)).mpr hk⟩
      refine c115_6_48_31 ⟨fun h => absurd bd.2 h, fun _ => ⟨fun h => absurd bd.2 h, fun _ => ⟨bd, bd, ?_⟩⟩⟩
      rw [iN_nat (by omega), cA1_s (by decide), iN_one]
      exact ih trivial) 0 (Nat.zero_le _) trivial
    rw [cA1_0] at main
    exact main
  have c7 : ∀ k, k ≤ 20 → cT1 σ 115 6 k 6 7 = σ 6 7 := fun k hk => by unfold cT1; rw [if_neg (by omega)]
  have main := g_forI (y := 48) (pc := 2) (K := K) n (fun k => [some (.ref 115), some (.ref 6), some (.int (iN k))]) (fun k => cT1 σ 115 6 k) (fun _ => True) (fun _ => by
    refine c115_6_48_2 ⟨fun _ => main2, fun h => ?_⟩
    rw [c7 _ hn, en, iN_lt (by omega) (by omega)] at h; omega) (fun k hk _ ih => by
    have k20 : k < 20 := by omega
    refine c115_6_48_2 ⟨fun h => ?_, fun h => ?_⟩
    · rw [c7 _ (by omega), en, iN_lt (by omega) (by omega)] at h; omega
    · rw [iN_nat (by omega), iN_one]
      refine ⟨b20 k20, b20 k20, tv_115 k k20, ⟨tv_115 k k20, tv_6 k k20⟩, ?_⟩
      rw [cT1_s (by decide) k20]
      exact ih trivial) 0 (Nat.zero_le _) trivial
  rw [cT1_0] at main
  exact w48_115_6 main
set_option maxRecDepth 20000 in
theorem w48_141_6 {σ : gS} {K : gK} (h : gE 48 2 [some (.ref 141), some (.ref 6), some (.int 0)] [] σ K) : gE 48 0 [some (.ref 141), some (.ref 6), none] [] σ K :=
  gw_run (cy := 48) (cuts := [2, 31, 78, 86, 94, 102, 110, 118, 126, 134, 142]) (inl := []) (pf := gpcq) gpcq_ok 400 (by decide) h
set_option maxRecDepth 20000 in
theorem c141_6_48_2 {σ : gS} {K : gK} {l2 : Int32} (h : ((¬ l2 < (σ 6 7) → gE 48 31 [some (.ref 141), some (.ref 6), some (.int 0)] [] σ K) ∧ (l2 < (σ 6 7) → (0 ≤ l2 ∧ l2 < 20) ∧ (0 ≤ l2 ∧ l2 < 20) ∧ gTv (141 + 2 + l2.toNatClampNeg) ∧ (gTv (141 + 2 + l2.toNatClampNeg) ∧ gTv (6 + 2 + l2.toNatClampNeg)) ∧ gE 48 2 [some (.ref 141), some (.ref 6), some (.int (l2 + 1))] [] (cTv σ (141 + 2 + l2.toNatClampNeg) (6 + 2 + l2.toNatClampNeg)) K))) : gE 48 2 [some (.ref 141), some (.ref 6), some (.int l2)] [] σ K :=
  gw_run (cy := 48) (cuts := [2, 31, 78, 86, 94, 102, 110, 118, 126, 134, 142]) (inl := []) (pf := gpcq) gpcq_ok 400 (by decide) h
set_option maxRecDepth 20000 in
theorem c141_6_48_31 {σ : gS} {K : gK} {l2 : Int32} (h : ((¬ l2 < 50 → gE 48 78 [some (.ref 141), some (.ref 6), some (.int l2)] [] (cLc σ 165 30) K) ∧ (l2 < 50 → ((¬ l2 < 50 → gE 48 78 [some (.ref 141), some (.ref 6), some (.int l2)] [] (cLc σ 165 30) K) ∧ (l2 < 50 → (0 ≤ l2 ∧ l2 < 50) ∧ (0 ≤ l2 ∧ l2 < 50) ∧ gE 48 31 [some (.ref 141), some (.ref 6), some (.int (l2 + 1))] [] (gup σ 164 l2.toNatClampNeg (σ 29 l2.toNatClampNeg)) K))))) : gE 48 31 [some (.ref 141), some (.ref 6), some (.int l2)] [] σ K :=
  gw_run (cy := 48) (cuts := [2, 31, 78, 86, 94, 102, 110, 118, 126, 134, 142]) (inl := []) (pf := gpcq) gpcq_ok 400 (by decide) h
set_option maxRecDepth 20000 in
theorem c141_6_48_78 {σ : gS} {K : gK} {l2 : Option Value} (h : gE 48 86 [some (.ref 141), some (.ref 6), l2] [] (gup σ 141 4 (σ 6 4)) K) : gE 48 78 [some (.ref 141), some (.ref 6), l2] [] σ K :=
  gw_run (cy := 48) (cuts := [2, 31, 78, 86, 94, 102, 110, 118, 126, 134, 142]) (inl := []) (pf := gpcq) gpcq_ok 400 (by decide) h
set_option maxRecDepth 20000 in
theorem c141_6_48_86 {σ : gS} {K : gK} {l2 : Option Value} (h : gE 48 94 [some (.ref 141), some (.ref 6), l2] [] (gup σ 141 5 (σ 6 5)) K) : gE 48 86 [some (.ref 141), some (.ref 6), l2] [] σ K :=
  gw_run (cy := 48) (cuts := [2, 31, 78, 86, 94, 102, 110, 118, 126, 134, 142]) (inl := []) (pf := gpcq) gpcq_ok 400 (by decide) h
set_option maxRecDepth 20000 in
theorem c141_6_48_94 {σ : gS} {K : gK} {l2 : Option Value} (h : gE 48 102 [some (.ref 141), some (.ref 6), l2] [] (gup σ 141 6 (σ 6 6)) K) : gE 48 94 [some (.ref 141), some (.ref 6), l2] [] σ K :=
  gw_run (cy := 48) (cuts := [2, 31, 78, 86, 94, 102, 110, 118, 126, 134, 142]) (inl := []) (pf := gpcq) gpcq_ok 400 (by decide) h
set_option maxRecDepth 20000 in
theorem c141_6_48_102 {σ : gS} {K : gK} {l2 : Option Value} (h : gE 48 110 [some (.ref 141), some (.ref 6), l2] [] (gup σ 141 7 (σ 6 7)) K) : gE 48 102 [some (.ref 141), some (.ref 6), l2] [] σ K :=
  gw_run (cy := 48) (cuts := [2, 31, 78, 86, 94, 102, 110, 118, 126, 134, 142]) (inl := []) (pf := gpcq) gpcq_ok 400 (by decide) h
set_option maxRecDepth 20000 in
theorem c141_6_48_110 {σ : gS} {K : gK} {l2 : Option Value} (h : gE 48 118 [some (.ref 141), some (.ref 6), l2] [] (gup σ 141 8 (σ 6 8)) K) : gE 48 110 [some (.ref 141), some (.ref 6), l2] [] σ K :=
  gw_run (cy := 48) (cuts := [2, 31, 78, 86, 94, 102, 110, 118, 126, 134, 142]) (inl := []) (pf := gpcq) gpcq_ok 400 (by decide) h
set_option maxRecDepth 20000 in
theorem c141_6_48_118 {σ : gS} {K : gK} {l2 : Option Value} (h : gE 48 126 [some (.ref 141), some (.ref 6), l2] [] (gup σ 141 9 (σ 6 9)) K) : gE 48 118 [some (.ref 141), some (.ref 6), l2] [] σ K :=
  gw_run (cy := 48) (cuts := [2, 31, 78, 86, 94, 102, 110, 118, 126, 134, 142]) (inl := []) (pf := gpcq) gpcq_ok 400 (by decide) h
set_option maxRecDepth 20000 in
theorem c141_6_48_126 {σ : gS} {K : gK} {l2 : Option Value} (h : gE 48 134 [some (.ref 141), some (.ref 6), l2] [] (gup σ 141 10 (σ 6 10)) K) : gE 48 126 [some (.ref 141), some (.ref 6), l2] [] σ K :=
  gw_run (cy := 48) (cuts := [2, 31, 78, 86, 94, 102, 110, 118, 126, 134, 142]) (inl := []) (pf := gpcq) gpcq_ok 400 (by decide) h
set_option maxRecDepth 20000 in
theorem c141_6_48_134 {σ : gS} {K : gK} {l2 : Option Value} (h : gE 48 142 [some (.ref 141), some (.ref 6), l2] [] (gup σ 141 11 (σ 6 11)) K) : gE 48 134 [some (.ref 141), some (.ref 6), l2] [] σ K :=
  gw_run (cy := 48) (cuts := [2, 31, 78, 86, 94, 102, 110, 118, 126, 134, 142]) (inl := []) (pf := gpcq) gpcq_ok 400 (by decide) h
set_option maxRecDepth 20000 in
theorem c141_6_48_142 {σ : gS} {K : gK} {l2 : Option Value} (h : K none (gup σ 141 12 (σ 6 12))) : gE 48 142 [some (.ref 141), some (.ref 6), l2] [] σ K :=
  gw_run (cy := 48) (cuts := [2, 31, 78, 86, 94, 102, 110, 118, 126, 134, 142]) (inl := []) (pf := gpcq) gpcq_ok 400 (by decide) h
theorem s48_141_6 {σ : gS} {K : gK} (hc : 0 ≤ σ 6 7 ∧ σ 6 7 ≤ 20) (hK : K none (cCo σ 141 6)) : gE 48 0 [some (.ref 141), some (.ref 6), none] [] σ K := by
  obtain ⟨en, hn⟩ : σ 6 7 = iN (σ 6 7).toNatClampNeg ∧ (σ 6 7).toNatClampNeg ≤ 20 := by
    obtain ⟨e, l⟩ := iN_of hc.1
    refine ⟨e, ?_⟩
    have h2 := hc.2
    rw [e] at h2
    exact (iN_le (m := 20) l (by decide)).mp h2
  unfold cCo at hK
  obtain ⟨n, hnn⟩ : ∃ n, (σ 6 7).toNatClampNeg = n := ⟨_, rfl⟩
  rw [hnn] at en hn hK
  have tail : ∀ u, gE 48 78 [some (.ref 141), some (.ref 6), u] [] (cLc (cA1 (cT1 σ 141 6 n) 164 29 50) 165 30) K := by
    intro u
    obtain ⟨τ, hτ⟩ : ∃ τ, cLc (cA1 (cT1 σ 141 6 n) 164 29 50) 165 30 = τ := ⟨_, rfl⟩
    have hK : K none (cHd τ 141 6 9) := by rw [← hτ]; exact hK
    rw [hτ]
    have hs : ∀ k, gup (cHd τ 141 6 k) 141 (4 + k) (cHd τ 141 6 k 6 (4 + k)) = cHd τ 141 6 (k + 1) := fun k => cHd_s (by decide)
    have h0 : gup τ 141 4 (τ 6 4) = cHd τ 141 6 1 := by
      have := hs 0
      rw [cHd_0] at this
      exact this
    refine c141_6_48_78 ?_
    rw [h0]
    refine c141_6_48_86 ?_
    rw [hs 1]
    refine c141_6_48_94 ?_
    rw [hs 2]
    refine c141_6_48_102 ?_
    rw [hs 3]
    refine c141_6_48_110 ?_
    rw [hs 4]
    refine c141_6_48_118 ?_
    rw [hs 5]
    refine c141_6_48_126 ?_
    rw [hs 6]
    refine c141_6_48_134 ?_
    rw [hs 7]
    refine c141_6_48_142 ?_
    rw [hs 8]
    exact hK
  have main2 : gE 48 31 [some (.ref 141), some (.ref 6), some (.int 0)] [] (cT1 σ 141 6 n) K := by
    have main := g_forI (y := 48) (pc := 31) (K := K) 50 (fun k => [some (.ref 141), some (.ref 6), some (.int (iN k))]) (fun k => cA1 (cT1 σ 141 6 n) 164 29 k) (fun _ => True) (fun _ => by
      refine c141_6_48_31 ⟨fun _ => tail _, fun h => absurd h (by decide)⟩) (fun k hk _ ih => by
      have bd : 0 ≤ iN k ∧ iN k < 50 := ⟨(iN_le (k := 0) (by decide) (by omega)).mpr (by omega), (iN_lt (m := 50) (by omega) (by decide)).mpr hk⟩
      refine c141_6_48_31 ⟨fun h => absurd bd.2 h, fun _ => ⟨fun h => absurd bd.2 h, fun _ => ⟨bd, bd, ?_⟩⟩⟩
      rw [iN_nat (by omega), cA1_s (by decide), iN_one]
      exact ih trivial) 0 (Nat.zero_le _) trivial
    rw [cA1_0] at main
    exact main
  have c7 : ∀ k, k ≤ 20 → cT1 σ 141 6 k 6 7 = σ 6 7 := fun k hk => by unfold cT1; rw [if_neg (by omega)]
  have main := g_forI (y := 48) (pc := 2) (K := K) n (fun k => [some (.ref 141), some (.ref 6), some (.int (iN k))]) (fun k => cT1 σ 141 6 k) (fun _ => True) (fun _ => by
    refine c141_6_48_2 ⟨fun _ => main2, fun h => ?_⟩
    rw [c7 _ hn, en, iN_lt (by omega) (by omega)] at h; omega) (fun k hk _ ih => by
    have k20 : k < 20 := by omega
    refine c141_6_48_2 ⟨fun h => ?_, fun h => ?_⟩
    · rw [c7 _ (by omega), en, iN_lt (by omega) (by omega)] at h; omega
    · rw [iN_nat (by omega), iN_one]
      refine ⟨b20 k20, b20 k20, tv_141 k k20, ⟨tv_141 k k20, tv_6 k k20⟩, ?_⟩
      rw [cT1_s (by decide) k20]
      exact ih trivial) 0 (Nat.zero_le _) trivial
  rw [cT1_0] at main
  exact w48_141_6 main
set_option maxRecDepth 20000 in
theorem w48_167_6 {σ : gS} {K : gK} (h : gE 48 2 [some (.ref 167), some (.ref 6), some (.int 0)] [] σ K) : gE 48 0 [some (.ref 167), some (.ref 6), none] [] σ K :=
  gw_run (cy := 48) (cuts := [2, 31, 78, 86, 94, 102, 110, 118, 126, 134, 142]) (inl := []) (pf := gpcq) gpcq_ok 400 (by decide) h
set_option maxRecDepth 20000 in
theorem c167_6_48_2 {σ : gS} {K : gK} {l2 : Int32} (h : ((¬ l2 < (σ 6 7) → gE 48 31 [some (.ref 167), some (.ref 6), some (.int 0)] [] σ K) ∧ (l2 < (σ 6 7) → (0 ≤ l2 ∧ l2 < 20) ∧ (0 ≤ l2 ∧ l2 < 20) ∧ gTv (167 + 2 + l2.toNatClampNeg) ∧ (gTv (167 + 2 + l2.toNatClampNeg) ∧ gTv (6 + 2 + l2.toNatClampNeg)) ∧ gE 48 2 [some (.ref 167), some (.ref 6), some (.int (l2 + 1))] [] (cTv σ (167 + 2 + l2.toNatClampNeg) (6 + 2 + l2.toNatClampNeg)) K))) : gE 48 2 [some (.ref 167), some (.ref 6), some (.int l2)] [] σ K :=
  gw_run (cy := 48) (cuts := [2, 31, 78, 86, 94, 102, 110, 118, 126, 134, 142]) (inl := []) (pf := gpcq) gpcq_ok 400 (by decide) h
set_option maxRecDepth 20000 in
theorem c167_6_48_31 {σ : gS} {K : gK} {l2 : Int32} (h : ((¬ l2 < 50 → gE 48 78 [some (.ref 167), some (.ref 6), some (.int l2)] [] (cLc σ 191 30) K) ∧ (l2 < 50 → ((¬ l2 < 50 → gE 48 78 [some (.ref 167), some (.ref 6), some (.int l2)] [] (cLc σ 191 30) K) ∧ (l2 < 50 → (0 ≤ l2 ∧ l2 < 50) ∧ (0 ≤ l2 ∧ l2 < 50) ∧ gE 48 31 [some (.ref 167), some (.ref 6), some (.int (l2 + 1))] [] (gup σ 190 l2.toNatClampNeg (σ 29 l2.toNatClampNeg)) K))))) : gE 48 31 [some (.ref 167), some (.ref 6), some (.int l2)] [] σ K :=
  gw_run (cy := 48) (cuts := [2, 31, 78, 86, 94, 102, 110, 118, 126, 134, 142]) (inl := []) (pf := gpcq) gpcq_ok 400 (by decide) h
set_option maxRecDepth 20000 in
theorem c167_6_48_78 {σ : gS} {K : gK} {l2 : Option Value} (h : gE 48 86 [some (.ref 167), some (.ref 6), l2] [] (gup σ 167 4 (σ 6 4)) K) : gE 48 78 [some (.ref 167), some (.ref 6), l2] [] σ K :=
  gw_run (cy := 48) (cuts := [2, 31, 78, 86, 94, 102, 110, 118, 126, 134, 142]) (inl := []) (pf := gpcq) gpcq_ok 400 (by decide) h
set_option maxRecDepth 20000 in
theorem c167_6_48_86 {σ : gS} {K : gK} {l2 : Option Value} (h : gE 48 94 [some (.ref 167), some (.ref 6), l2] [] (gup σ 167 5 (σ 6 5)) K) : gE 48 86 [some (.ref 167), some (.ref 6), l2] [] σ K :=
  gw_run (cy := 48) (cuts := [2, 31, 78, 86, 94, 102, 110, 118, 126, 134, 142]) (inl := []) (pf := gpcq) gpcq_ok 400 (by decide) h
set_option maxRecDepth 20000 in
theorem c167_6_48_94 {σ : gS} {K : gK} {l2 : Option Value} (h : gE 48 102 [some (.ref 167), some (.ref 6), l2] [] (gup σ 167 6 (σ 6 6)) K) : gE 48 94 [some (.ref 167), some (.ref 6), l2] [] σ K :=
  gw_run (cy := 48) (cuts := [2, 31, 78, 86, 94, 102, 110, 118, 126, 134, 142]) (inl := []) (pf := gpcq) gpcq_ok 400 (by decide) h
set_option maxRecDepth 20000 in
theorem c167_6_48_102 {σ : gS} {K : gK} {l2 : Option Value} (h : gE 48 110 [some (.ref 167), some (.ref 6), l2] [] (gup σ 167 7 (σ 6 7)) K) : gE 48 102 [some (.ref 167), some (.ref 6), l2] [] σ K :=
  gw_run (cy := 48) (cuts := [2, 31, 78, 86, 94, 102, 110, 118, 126, 134, 142]) (inl := []) (pf := gpcq) gpcq_ok 400 (by decide) h
set_option maxRecDepth 20000 in
theorem c167_6_48_110 {σ : gS} {K : gK} {l2 : Option Value} (h : gE 48 118 [some (.ref 167), some (.ref 6), l2] [] (gup σ 167 8 (σ 6 8)) K) : gE 48 110 [some (.ref 167), some (.ref 6), l2] [] σ K :=
  gw_run (cy := 48) (cuts := [2, 31, 78, 86, 94, 102, 110, 118, 126, 134, 142]) (inl := []) (pf := gpcq) gpcq_ok 400 (by decide) h
set_option maxRecDepth 20000 in
theorem c167_6_48_118 {σ : gS} {K : gK} {l2 : Option Value} (h : gE 48 126 [some (.ref 167), some (.ref 6), l2] [] (gup σ 167 9 (σ 6 9)) K) : gE 48 118 [some (.ref 167), some (.ref 6), l2] [] σ K :=
  gw_run (cy := 48) (cuts := [2, 31, 78, 86, 94, 102, 110, 118, 126, 134, 142]) (inl := []) (pf := gpcq) gpcq_ok 400 (by decide) h
set_option maxRecDepth 20000 in
theorem c167_6_48_126 {σ : gS} {K : gK} {l2 : Option Value} (h : gE 48 134 [some (.ref 167), some (.ref 6), l2] [] (gup σ 167 10 (σ 6 10)) K) : gE 48 126 [some (.ref 167), some (.ref 6), l2] [] σ K :=
  gw_run (cy := 48) (cuts := [2, 31, 78, 86, 94, 102, 110, 118, 126, 134, 142]) (inl := []) (pf := gpcq) gpcq_ok 400 (by decide) h
set_option maxRecDepth 20000 in
theorem c167_6_48_134 {σ : gS} {K : gK} {l2 : Option Value} (h : gE 48 142 [some (.ref 167), some (.ref 6), l2] [] (gup σ 167 11 (σ 6 11)) K) : gE 48 134 [some (.ref 167), some (.ref 6), l2] [] σ K :=
  gw_run (cy := 48) (cuts := [2, 31, 78, 86, 94, 102, 110, 118, 126, 134, 142]) (inl := []) (pf := gpcq) gpcq_ok 400 (by decide) h
set_option maxRecDepth 20000 in
theorem c167_6_48_142 {σ : gS} {K : gK} {l2 : Option Value} (h : K none (gup σ 167 12 (σ 6 12))) : gE 48 142 [some (.ref 167), some (.ref 6), l2] [] σ K :=
  gw_run (cy := 48) (cuts := [2, 31, 78, 86, 94, 102, 110, 118, 126, 134, 142]) (inl := []) (pf := gpcq) gpcq_ok 400 (by decide) h
theorem s48_167_6 {σ : gS} {K : gK} (hc : 0 ≤ σ 6 7 ∧ σ 6 7 ≤ 20) (hK : K none (cCo σ 167 6)) : gE 48 0 [some (.ref 167), some (.ref 6), none] [] σ K := by
  obtain ⟨en, hn⟩ : σ 6 7 = iN (σ 6 7).toNatClampNeg ∧ (σ 6 7).toNatClampNeg ≤ 20 := by
    obtain ⟨e, l⟩ := iN_of hc.1
    refine ⟨e, ?_⟩
    have h2 := hc.2
    rw [e] at h2
    exact (iN_le (m := 20) l (by decide)).mp h2
  unfold cCo at hK
  obtain ⟨n, hnn⟩ : ∃ n, (σ 6 7).toNatClampNeg = n := ⟨_, rfl⟩
  rw [hnn] at en hn hK
  have tail : ∀ u, gE 48 78 [some (.ref 167), some (.ref 6), u] [] (cLc (cA1 (cT1 σ 167 6 n) 190 29 50) 191 30) K := by
    intro u
    obtain ⟨τ, hτ⟩ : ∃ τ, cLc (cA1 (cT1 σ 167 6 n) 190 29 50) 191 30 = τ := ⟨_, rfl⟩
    have hK : K none (cHd τ 167 6 9) := by rw [← hτ]; exact hK
    rw [hτ]
    have hs : ∀ k, gup (cHd τ 167 6 k) 167 (4 + k) (cHd τ 167 6 k 6 (4 + k)) = cHd τ 167 6 (k + 1) := fun k => cHd_s (by decide)
    have h0 : gup τ 167 4 (τ 6 4) = cHd τ 167 6 1 := by
      have := hs 0
      rw [cHd_0] at this
      exact this
    refine c167_6_48_78 ?_
    rw [h0]
    refine c167_6_48_86 ?_
    rw [hs 1]
    refine c167_6_48_94 ?_
    rw [hs 2]
    refine c167_6_48_102 ?_
    rw [hs 3]
    refine c167_6_48_110 ?_
    rw [hs 4]
    refine c167_6_48_118 ?_
    rw [hs 5]
    refine c167_6_48_126 ?_
    rw [hs 6]
    refine c167_6_48_134 ?_
    rw [hs 7]
    refine c167_6_48_142 ?_
    rw [hs 8]
    exact hK
  have main2 : gE 48 31 [some (.ref 167), some (.ref 6), some (.int 0)] [] (cT1 σ 167 6 n) K := by
    have main := g_forI (y := 48) (pc := 31) (K := K) 50 (fun k => [some (.ref 167), some (.ref 6), some (.int (iN k))]) (fun k => cA1 (cT1 σ 167 6 n) 190 29 k) (fun _ => True) (fun _ => by
      refine c167_6_48_31 ⟨fun _ => tail _, fun h => absurd h (by decide)⟩) (fun k hk _ ih => by
      have bd : 0 ≤ iN k ∧ iN k < 50 := ⟨(iN_le (k := 0) (by decide) (by omega)).mpr (by omega), (iN_lt (m := 50) (by omega) (by decide)).mpr hk⟩
      refine c167_6_48_31 ⟨fun h => absurd bd.2 h, fun _ => ⟨fun h => absurd bd.2 h, fun _ => ⟨bd, bd, ?_⟩⟩⟩
      rw [iN_nat (by omega), cA1_s (by decide), iN_one]
      exact ih trivial) 0 (Nat.zero_le _) trivial
    rw [cA1_0] at main
    exact main
  have c7 : ∀ k, k ≤ 20 → cT1 σ 167 6 k 6 7 = σ 6 7 := fun k hk => by unfold cT1; rw [if_neg (by omega)]
  have main := g_forI (y := 48) (pc := 2) (K := K) n (fun k => [some (.ref 167), some (.ref 6), some (.int (iN k))]) (fun k => cT1 σ 167 6 k) (fun _ => True) (fun _ => by
    refine c167_6_48_2 ⟨fun _ => main2, fun h => ?_⟩
    rw [c7 _ hn, en, iN_lt (by omega) (by omega)] at h; omega) (fun k hk _ ih => by
    have k20 : k < 20 := by omega
    refine c167_6_48_2 ⟨fun h => ?_, fun h => ?_⟩
    · rw [c7 _ (by omega), en, iN_lt (by omega) (by omega)] at h; omega
    · rw [iN_nat (by omega), iN_one]
      refine ⟨b20 k20, b20 k20, tv_167 k k20, ⟨tv_167 k k20, tv_6 k k20⟩, ?_⟩
      rw [cT1_s (by decide) k20]
      exact ih trivial) 0 (Nat.zero_le _) trivial
  rw [cT1_0] at main
  exact w48_167_6 main
set_option maxRecDepth 20000 in
theorem w48_193_6 {σ : gS} {K : gK} (h : gE 48 2 [some (.ref 193), some (.ref 6), some (.int 0)] [] σ K) : gE 48 0 [some (.ref 193), some (.ref 6), none] [] σ K :=
  gw_run (cy := 48) (cuts := [2, 31, 78, 86, 94, 102, 110, 118, 126, 134, 142]) (inl := []) (pf := gpcq) gpcq_ok 400 (by decide) h
set_option maxRecDepth 20000 in
theorem c193_6_48_2 {σ : gS} {K : gK} {l2 : Int32} (h : ((¬ l2 < (σ 6 7) → gE 48 31 [some (.ref 193), some (.ref 6), some (.int 0)] [] σ K) ∧ (l2 < (σ 6 7) → (0 ≤ l2 ∧ l2 < 20) ∧ (0 ≤ l2 ∧ l2 < 20) ∧ gTv (193 + 2 + l2.toNatClampNeg) ∧ (gTv (193 + 2 + l2.toNatClampNeg) ∧ gTv (6 + 2 + l2.toNatClampNeg)) ∧ gE 48 2 [some (.ref 193), some (.ref 6), some (.int (l2 + 1))] [] (cTv σ (193 + 2 + l2.toNatClampNeg) (6 + 2 + l2.toNatClampNeg)) K))) : gE 48 2 [some (.ref 193), some (.ref 6), some (.int l2)] [] σ K :=
  gw_run (cy := 48) (cuts := [2, 31, 78, 86, 94, 102, 110, 118, 126, 134, 142]) (inl := []) (pf := gpcq) gpcq_ok 400 (by decide) h
set_option maxRecDepth 20000 in
theorem c193_6_48_31 {σ : gS} {K : gK} {l2 : Int32} (h : ((¬ l2 < 50 → gE 48 78 [some (.ref 193), some (.ref 6), some (.int l2)] [] (cLc σ 217 30) K) ∧ (l2 < 50 → ((¬ l2 < 50 → gE 48 78 [some (.ref 193), some (.ref 6), some (.int l2)] [] (cLc σ 217 30) K) ∧ (l2 < 50 → (0 ≤ l2 ∧ l2 < 50) ∧ (0 ≤ l2 ∧ l2 < 50) ∧ gE 48 31 [some (.ref 193), some (.ref 6), some (.int (l2 + 1))] [] (gup σ 216 l2.toNatClampNeg (σ 29 l2.toNatClampNeg)) K))))) : gE 48 31 [some (.ref 193), some (.ref 6), some (.int l2)] [] σ K :=
  gw_run (cy := 48) (cuts := [2, 31, 78, 86, 94, 102, 110, 118, 126, 134, 142]) (inl := []) (pf := gpcq) gpcq_ok 400 (by decide) h
set_option maxRecDepth 20000 in
theorem c193_6_48_78 {σ : gS} {K : gK} {l2 : Option Value} (h : gE 48 86 [some (.ref 193), some (.ref 6), l2] [] (gup σ 193 4 (σ 6 4)) K) : gE 48 78 [some (.ref 193), some (.ref 6), l2] [] σ K :=
  gw_run (cy := 48) (cuts := [2, 31, 78, 86, 94, 102, 110, 118, 126, 134, 142]) (inl := []) (pf := gpcq) gpcq_ok 400 (by decide) h
set_option maxRecDepth 20000 in
theorem c193_6_48_86 {σ : gS} {K : gK} {l2 : Option Value} (h : gE 48 94 [some (.ref 193), some (.ref 6), l2] [] (gup σ 193 5 (σ 6 5)) K) : gE 48 86 [some (.ref 193), some (.ref 6), l2] [] σ K :=
  gw_run (cy := 48) (cuts := [2, 31, 78, 86, 94, 102, 110, 118, 126, 134, 142]) (inl := []) (pf := gpcq) gpcq_ok 400 (by decide) h
set_option maxRecDepth 20000 in
theorem c193_6_48_94 {σ : gS} {K : gK} {l2 : Option Value} (h : gE 48 102 [some (.ref 193), some (.ref 6), l2] [] (gup σ 193 6 (σ 6 6)) K) : gE 48 94 [some (.ref 193), some (.ref 6), l2] [] σ K :=
  gw_run (cy := 48) (cuts := [2, 31, 78, 86, 94, 102, 110, 118, 126, 134, 142]) (inl := []) (pf := gpcq) gpcq_ok 400 (by decide) h
set_option maxRecDepth 20000 in
theorem c193_6_48_102 {σ : gS} {K : gK} {l2 : Option Value} (h : gE 48 110 [some (.ref 193), some (.ref 6), l2] [] (gup σ 193 7 (σ 6 7)) K) : gE 48 102 [some (.ref 193), some (.ref 6), l2] [] σ K :=
  gw_run (cy := 48) (cuts := [2, 31, 78, 86, 94, 102, 110, 118, 126, 134, 142]) (inl := []) (pf := gpcq) gpcq_ok 400 (by decide) h
set_option maxRecDepth 20000 in
theorem c193_6_48_110 {σ : gS} {K : gK} {l2 : Option Value} (h : gE 48 118 [some (.ref 193), some (.ref 6), l2] [] (gup σ 193 8 (σ 6 8)) K) : gE 48 110 [some (.ref 193), some (.ref 6), l2] [] σ K :=
  gw_run (cy := 48) (cuts := [2, 31, 78, 86, 94, 102, 110, 118, 126, 134, 142]) (inl := []) (pf := gpcq) gpcq_ok 400 (by decide) h
set_option maxRecDepth 20000 in
theorem c193_6_48_118 {σ : gS} {K : gK} {l2 : Option Value} (h : gE 48 126 [some (.ref 193), some (.ref 6), l2] [] (gup σ 193 9 (σ 6 9)) K) : gE 48 118 [some (.ref 193), some (.ref 6), l2] [] σ K :=
  gw_run (cy := 48) (cuts := [2, 31, 78, 86, 94, 102, 110, 118, 126, 134, 142]) (inl := []) (pf := gpcq) gpcq_ok 400 (by decide) h
set_option maxRecDepth 20000 in
theorem c193_6_48_126 {σ : gS} {K : gK} {l2 : Option Value} (h : gE 48 134 [some (.ref 193), some (.ref 6), l2] [] (gup σ 193 10 (σ 6 10)) K) : gE 48 126 [some (.ref 193), some (.ref 6), l2] [] σ K :=
  gw_run (cy := 48) (cuts := [2, 31, 78, 86, 94, 102, 110, 118, 126, 134, 142]) (inl := []) (pf := gpcq) gpcq_ok 400 (by decide) h
set_option maxRecDepth 20000 in
theorem c193_6_48_134 {σ : gS} {K : gK} {l2 : Option Value} (h : gE 48 142 [some (.ref 193), some (.ref 6), l2] [] (gup σ 193 11 (σ 6 11)) K) : gE 48 134 [some (.ref 193), some (.ref 6), l2] [] σ K :=
  gw_run (cy := 48) (cuts := [2, 31, 78, 86, 94, 102, 110, 118, 126, 134, 142]) (inl := []) (pf := gpcq) gpcq_ok 400 (by decide) h
set_option maxRecDepth 20000 in
theorem c193_6_48_142 {σ : gS} {K : gK} {l2 : Option Value} (h : K none (gup σ 193 12 (σ 6 12))) : gE 48 142 [some (.ref 193), some (.ref 6), l2] [] σ K :=
  gw_run (cy := 48) (cuts := [2, 31, 78, 86, 94, 102, 110, 118, 126, 134, 142]) (inl := []) (pf := gpcq) gpcq_ok 400 (by decide) h
theorem s48_193_6 {σ : gS} {K : gK} (hc : 0 ≤ σ 6 7 ∧ σ 6 7 ≤ 20) (hK : K none (cCo σ 193 6)) : gE 48 0 [some (.ref 193), some (.ref 6), none] [] σ K := by
  obtain ⟨en, hn⟩ : σ 6 7 = iN (σ 6 7).toNatClampNeg ∧ (σ 6 7).toNatClampNeg ≤ 20 := by
    obtain ⟨e, l⟩ := iN_of hc.1
    refine ⟨e, ?_⟩
    have h2 := hc.2
    rw [e] at h2
    exact (iN_le (m := 20) l (by decide)).mp h2
  unfold cCo at hK
  obtain ⟨n, hnn⟩ : ∃ n, (σ 6 7).toNatClampNeg = n := ⟨_, rfl⟩
  rw [hnn] at en hn hK
  have tail : ∀ u, gE 48 78 [some (.ref 193), some (.ref 6), u] [] (cLc (cA1 (cT1 σ 193 6 n) 216 29 50) 217 30) K := by
    intro u
    obtain ⟨τ, hτ⟩ : ∃ τ, cLc (cA1 (cT1 σ 193 6 n) 216 29 50) 217 30 = τ := ⟨_, rfl⟩
    have hK : K none (cHd τ 193 6 9) := by rw [← hτ]; exact hK
    rw [hτ]
    have hs : ∀ k, gup (cHd τ 193 6 k) 193 (4 + k) (cHd τ 193 6 k 6 (4 + k)) = cHd τ 193 6 (k + 1) := fun k => cHd_s (by decide)
    have h0 : gup τ 193 4 (τ 6 4) = cHd τ 193 6 1 := by
      have := hs 0
      rw [cHd_0] at this
      exact this
    refine c193_6_48_78 ?_
    rw [h0]
    refine c193_6_48_86 ?_
    rw [hs 1]
    refine c193_6_48_94 ?_
    rw [hs 2]
    refine c193_6_48_102 ?_
    rw [hs 3]
    refine c193_6_48_110 ?_
    rw [hs 4]
    refine c193_6_48_118 ?_
    rw [hs 5]
    refine c193_6_48_126 ?_
    rw [hs 6]
    refine c193_6_48_134 ?_
    rw [hs 7]
    refine c193_6_48_142 ?_
    rw [hs 8]
    exact hK
  have main2 : gE 48 31 [some (.ref 193), some (.ref 6), some (.int 0)] [] (cT1 σ 193 6 n) K := by
    have main := g_forI (y := 48) (pc := 31) (K := K) 50 (fun k => [some (.ref 193), some (.ref 6), some (.int (iN k))]) (fun k => cA1 (cT1 σ 193 6 n) 216 29 k) (fun _ => True) (fun _ => by
      refine c193_6_48_31 ⟨fun _ => tail _, fun h => absurd h (by decide)⟩) (fun k hk _ ih => by
      have bd : 0 ≤ iN k ∧ iN k < 50 := ⟨(iN_le (k := 0) (by decide) (by omega)).mpr (by omega), (iN_lt (m := 50) (by omega) (by decide)).mpr hk⟩
      refine c193_6_48_31 ⟨fun h => absurd bd.2 h, fun _ => ⟨fun h => absurd bd.2 h, fun _ => ⟨bd, bd, ?_⟩⟩⟩
      rw [iN_nat (by omega), cA1_s (by decide), iN_one]
      exact ih trivial) 0 (Nat.zero_le _) trivial
    rw [cA1_0] at main
    exact main
  have c7 : ∀ k, k ≤ 20 → cT1 σ 193 6 k 6 7 = σ 6 7 := fun k hk => by unfold cT1; rw [if_neg (by omega)]
  have main := g_forI (y := 48) (pc := 2) (K := K) n (fun k => [some (.ref 193), some (.ref 6), some (.int (iN k))]) (fun k => cT1 σ 193 6 k) (fun _ => True) (fun _ => by
    refine c193_6_48_2 ⟨fun _ => main2, fun h => ?_⟩
    rw [c7 _ hn, en, iN_lt (by omega) (by omega)] at h; omega) (fun k hk _ ih => by
    have k20 : k < 20 := by omega
    refine c193_6_48_2 ⟨fun h => ?_, fun h => ?_⟩
    · rw [c7 _ (by omega), en, iN_lt (by omega) (by omega)] at h; omega
    · rw [iN_nat (by omega), iN_one]
      refine ⟨b20 k20, b20 k20, tv_193 k k20, ⟨tv_193 k k20, tv_6 k k20⟩, ?_⟩
      rw [cT1_s (by decide) k20]
      exact ih trivial) 0 (Nat.zero_le _) trivial
  rw [cT1_0] at main
  exact w48_193_6 main
set_option maxRecDepth 20000 in
theorem w48_219_6 {σ : gS} {K : gK} (h : gE 48 2 [some (.ref 219), some (.ref 6), some (.int 0)] [] σ K) : gE 48 0 [some (.ref 219), some (.ref 6), none] [] σ K :=
  gw_run (cy := 48) (cuts := [2, 31, 78, 86, 94, 102, 110, 118, 126, 134, 142]) (inl := []) (pf := gpcq) gpcq_ok 400 (by decide) h
set_option maxRecDepth 20000 in
theorem c219_6_48_2 {σ : gS} {K : gK} {l2 : Int32} (h : ((¬ l2 < (σ 6 7) → gE 48 31 [some (.ref 219), some (.ref 6), some (.int 0)] [] σ K) ∧ (l2 < (σ 6 7) → (0 ≤ l2 ∧ l2 < 20) ∧ (0 ≤ l2 ∧ l2 < 20) ∧ gTv (219 + 2 + l2.toNatClampNeg) ∧ (gTv (219 + 2 + l2.toNatClampNeg) ∧ gTv (6 + 2 + l2.toNatClampNeg)) ∧ gE 48 2 [some (.ref 219), some (.ref 6), some (.int (l2 + 1))] [] (cTv σ (219 + 2 + l2.toNatClampNeg) (6 + 2 + l2.toNatClampNeg)) K))) : gE 48 2 [some (.ref 219), some (.ref 6), some (.int l2)] [] σ K :=
  gw_run (cy := 48) (cuts := [2, 31, 78, 86, 94, 102, 110, 118, 126, 134, 142]) (inl := []) (pf := gpcq) gpcq_ok 400 (by decide) h
set_option maxRecDepth 20000 in
theorem c219_6_48_31 {σ : gS} {K : gK} {l2 : Int32} (h : ((¬ l2 < 50 → gE 48 78 [some (.ref 219), some (.ref 6), some (.int l2)] [] (cLc σ 243 30) K) ∧ (l2 < 50 → ((¬ l2 < 50 → gE 48 78 [some (.ref 219), some (.ref 6), some (.int l2)] [] (cLc σ 243 30) K) ∧ (l2 < 50 → (0 ≤ l2 ∧ l2 < 50) ∧ (0 ≤ l2 ∧ l2 < 50) ∧ gE 48 31 [some (.ref 219), some (.ref 6), some (.int (l2 + 1))] [] (gup σ 242 l2.toNatClampNeg (σ 29 l2.toNatClampNeg)) K))))) : gE 48 31 [some (.ref 219), some (.ref 6), some (.int l2)] [] σ K :=
  gw_run (cy := 48) (cuts := [2, 31, 78, 86, 94, 102, 110, 118, 126, 134, 142]) (inl := []) (pf := gpcq) gpcq_ok 400 (by decide) h
set_option maxRecDepth 20000 in
theorem c219_6_48_78 {σ : gS} {K : gK} {l2 : Option Value} (h : gE 48 86 [some (.ref 219), some (.ref 6), l2] [] (gup σ 219 4 (σ 6 4)) K) : gE 48 78 [some (.ref 219), some (.ref 6), l2] [] σ K :=
  gw_run (cy := 48) (cuts := [2, 31, 78, 86, 94, 102, 110, 118, 126, 134, 142]) (inl := []) (pf := gpcq) gpcq_ok 400 (by decide) h
set_option maxRecDepth 20000 in
theorem c219_6_48_86 {σ : gS} {K : gK} {l2 : Option Value} (h : gE 48 94 [some (.ref 219), some (.ref 6), l2] [] (gup σ 219 5 (σ 6 5)) K) : gE 48 86 [some (.ref 219), some (.ref 6), l2] [] σ K :=
  gw_run (cy := 48) (cuts := [2, 31, 78, 86, 94, 102, 110, 118, 126, 134, 142]) (inl := []) (pf := gpcq) gpcq_ok 400 (by decide) h
set_option maxRecDepth 20000 in
theorem c219_6_48_94 {σ : gS} {K : gK} {l2 : Option Value} (h : gE 48 102 [some (.ref 219), some (.ref 6), l2] [] (gup σ 219 6 (σ 6 6)) K) : gE 48 94 [some (.ref 219), some (.ref 6), l2] [] σ K :=
  gw_run (cy := 48) (cuts := [2, 31, 78, 86, 94, 102, 110, 118, 126, 134, 142]) (inl := []) (pf := gpcq) gpcq_ok 400 (by decide) h
set_option maxRecDepth 20000 in
theorem c219_6_48_102 {σ : gS} {K : gK} {l2 : Option Value} (h : gE 48 110 [some (.ref 219), some (.ref 6), l2] [] (gup σ 219 7 (σ 6 7)) K) : gE 48 102 [some (.ref 219), some (.ref 6), l2] [] σ K :=
  gw_run (cy := 48) (cuts := [2, 31, 78, 86, 94, 102, 110, 118, 126, 134, 142]) (inl := []) (pf := gpcq) gpcq_ok 400 (by decide) h
set_option maxRecDepth 20000 in
theorem c219_6_48_110 {σ : gS} {K : gK} {l2 : Option Value} (h : gE 48 118 [some (.ref 219), some (.ref 6), l2] [] (gup σ 219 8 (σ 6 8)) K) : gE 48 110 [some (.ref 219), some (.ref 6), l2] [] σ K :=
  gw_run (cy := 48) (cuts := [2, 31, 78, 86, 94, 102, 110, 118, 126, 134, 142]) (inl := []) (pf := gpcq) gpcq_ok 400 (by decide) h
set_option maxRecDepth 20000 in
theorem c219_6_48_118 {σ : gS} {K : gK} {l2 : Option Value} (h : gE 48 126 [some (.ref 219), some (.ref 6), l2] [] (gup σ 219 9 (σ 6 9)) K) : gE 48 118 [some (.ref 219), some (.ref 6), l2] [] σ K :=
  gw_run (cy := 48) (cuts := [2, 31, 78, 86, 94, 102, 110, 118, 126, 134, 142]) (inl := []) (pf := gpcq) gpcq_ok 400 (by decide) h
set_option maxRecDepth 20000 in
theorem c219_6_48_126 {σ : gS} {K : gK} {l2 : Option Value} (h : gE 48 134 [some (.ref 219), some (.ref 6), l2] [] (gup σ 219 10 (σ 6 10)) K) : gE 48 126 [some (.ref 219), some (.ref 6), l2] [] σ K :=
  gw_run (cy := 48) (cuts := [2, 31, 78, 86, 94, 102, 110, 118, 126, 134, 142]) (inl := []) (pf := gpcq) gpcq_ok 400 (by decide) h
set_option maxRecDepth 20000 in
theorem c219_6_48_134 {σ : gS} {K : gK} {l2 : Option Value} (h : gE 48 142 [some (.ref 219), some (.ref 6), l2] [] (gup σ 219 11 (σ 6 11)) K) : gE 48 134 [some (.ref 219), some (.ref 6), l2] [] σ K :=
  gw_run (cy := 48) (cuts := [2, 31, 78, 86, 94, 102, 110, 118, 126, 134, 142]) (inl := []) (pf := gpcq) gpcq_ok 400 (by decide) h
set_option maxRecDepth 20000 in
theorem c219_6_48_142 {σ : gS} {K : gK} {l2 : Option Value} (h : K none (gup σ 219 12 (σ 6 12))) : gE 48 142 [some (.ref 219), some (.ref 6), l2] [] σ K :=
  gw_run (cy := 48) (cuts := [2, 31, 78, 86, 94, 102, 110, 118, 126, 134, 142]) (inl := []) (pf := gpcq) gpcq_ok 400 (by decide) h
theorem s48_219_6 {σ : gS} {K : gK} (hc : 0 ≤ σ 6 7 ∧ σ 6 7 ≤ 20) (hK : K none (cCo σ 219 6)) : gE 48 0 [some (.ref 219), some (.ref 6), none] [] σ K := by
  obtain ⟨en, hn⟩ : σ 6 7 = iN (σ 6 7).toNatClampNeg ∧ (σ 6 7).toNatClampNeg ≤ 20 := by
    obtain ⟨e, l⟩ := iN_of hc.1
    refine ⟨e, ?_⟩
    have h2 := hc.2
    rw [e] at h2
    exact (iN_le (m := 20) l (by decide)).mp h2
  unfold cCo at hK
  obtain ⟨n, hnn⟩ : ∃ n, (σ 6 7).toNatClampNeg = n := ⟨_, rfl⟩
  rw [hnn] at en hn hK
  have tail : ∀ u, gE 48 78 [some (.ref 219), some (.ref 6), u] [] (cLc (cA1 (cT1 σ 219 6 n) 242 29 50) 243 30) K := by
    intro u
    obtain ⟨τ, hτ⟩ : ∃ τ, cLc (cA1 (cT1 σ 219 6 n) 242 29 50) 243 30 = τ := ⟨_, rfl⟩
    have hK : K none (cHd τ 219 6 9) := by rw [← hτ]; exact hK
    rw [hτ]
    have hs : ∀ k, gup (cHd τ 219 6 k) 219 (4 + k) (cHd τ 219 6 k 6 (4 + k)) = cHd τ 219 6 (k + 1) := fun k => cHd_s (by decide)
    have h0 : gup τ 219 4 (τ 6 4) = cHd τ 219 6 1 := by
      have := hs 0
      rw [cHd_0] at this
      exact this
    refine c219_6_48_78 ?_
    rw [h0]
    refine c219_6_48_86 ?_
    rw [hs 1]
    refine c219_6_48_94 ?_
    rw [hs 2]
    refine c219_6_48_102 ?_
    rw [hs 3]
    refine c219_6_48_110 ?_
    rw [hs 4]
    refine c219_6_48_118 ?_
    rw [hs 5]
    refine c219_6_48_126 ?_
    rw [hs 6]
    refine c219_6_48_134 ?_
    rw [hs 7]
    refine c219_6_48_142 ?_
    rw [hs 8]
    exact hK
  have main2 : gE 48 31 [some (.ref 219), some (.ref 6), some (.int 0)] [] (cT1 σ 219 6 n) K := by
    have main := g_forI (y := 48) (pc := 31) (K := K) 50 (fun k => [some (.ref 219), some (.ref 6), some (.int (iN k))]) (fun k => cA1 (cT1 σ 219 6 n) 242 29 k) (fun _ => True) (fun _ => by
      refine c219_6_48_31 ⟨fun _ => tail _, fun h => absurd h (by decide)⟩) (fun k hk _ ih => by
      have bd : 0 ≤ iN k ∧ iN k < 50 := ⟨(iN_le (k := 0) (by decide) (by omega)).mpr (by omega), (iN_lt (m := 50) (by omega) (by decide)).mpr hk⟩
      refine c219_6_48_31 ⟨fun h => absurd bd.2 h, fun _ => ⟨fun h => absurd bd.2 h, fun _ => ⟨bd, bd, ?_⟩⟩⟩
      rw [iN_nat (by omega), cA1_s (by decide), iN_one]
      exact ih trivial) 0 (Nat.zero_le _) trivial
    rw [cA1_0] at main
    exact main
  have c7 : ∀ k, k ≤ 20 → cT1 σ 219 6 k 6 7 = σ 6 7 := fun k hk => by unfold cT1; rw [if_neg (by omega)]
  have main := g_forI (y := 48) (pc := 2) (K := K) n (fun k => [some (.ref 219), some (.ref 6), some (.int (iN k))]) (fun k => cT1 σ 219 6 k) (fun _ => True) (fun _ => by
    refine c219_6_48_2 ⟨fun _ => main2, fun h => ?_⟩
    rw [c7 _ hn, en, iN_lt (by omega) (by omega)] at h; omega) (fun k hk _ ih => by
    have k20 : k < 20 := by omega
    refine c219_6_48_2 ⟨fun h => ?_, fun h => ?_⟩
    · rw [c7 _ (by omega), en, iN_lt (by omega) (by omega)] at h; omega
    · rw [iN_nat (by omega), iN_one]
      refine ⟨b20 k20, b20 k20, tv_219 k k20, ⟨tv_219 k k20, tv_6 k k20⟩, ?_⟩
      rw [cT1_s (by decide) k20]
      exact ih trivial) 0 (Nat.zero_le _) trivial
  rw [cT1_0] at main
  exact w48_219_6 main
set_option maxRecDepth 20000 in
theorem w48_245_6 {σ : gS} {K : gK} (h : gE 48 2 [some (.ref 245), some (.ref 6), some (.int 0)] [] σ K) : gE 48 0 [some (.ref 245), some (.ref 6), none] [] σ K :=
  gw_run (cy := 48) (cuts := [2, 31, 78, 86, 94, 102, 110, 118, 126, 134, 142]) (inl := []) (pf := gpcq) gpcq_ok 400 (by decide) h
set_option maxRecDepth 20000 in
theorem c245_6_48_2 {σ : gS} {K : gK} {l2 : Int32} (h : ((¬ l2 < (σ 6 7) → gE 48 31 [some (.ref 245), some (.ref 6), some (.int 0)] [] σ K) ∧ (l2 < (σ 6 7) → (0 ≤ l2 ∧ l2 < 20) ∧ (0 ≤ l2 ∧ l2 < 20) ∧ gTv (245 + 2 + l2.toNatClampNeg) ∧ (gTv (245 + 2 + l2.toNatClampNeg) ∧ gTv (6 + 2 + l2.toNatClampNeg)) ∧ gE 48 2 [some (.ref 245), some (.ref 6), some (.int (l2 + 1))] [] (cTv σ (245 + 2 + l2.toNatClampNeg) (6 + 2 + l2.toNatClampNeg)) K))) : gE 48 2 [some (.ref 245), some (.ref 6), some (.int l2)] [] σ K :=
  gw_run (cy := 48) (cuts := [2, 31, 78, 86, 94, 102, 110, 118, 126, 134, 142]) (inl := []) (pf := gpcq) gpcq_ok 400 (by decide) h
set_option maxRecDepth 20000 in
theorem c245_6_48_31 {σ : gS} {K : gK} {l2 : Int32} (h : ((¬ l2 < 50 → gE 48 78 [some (.ref 245), some (.ref 6), some (.int l2)] [] (cLc σ 269 30) K) ∧ (l2 < 50 → ((¬ l2 < 50 → gE 48 78 [some (.ref 245), some (.ref 6), some (.int l2)] [] (cLc σ 269 30) K) ∧ (l2 < 50 → (0 ≤ l2 ∧ l2 < 50) ∧ (0 ≤ l2 ∧ l2 < 50) ∧ gE 48 31 [some (.ref 245), some (.ref 6), some (.int (l2 + 1))] [] (gup σ 268 l2.toNatClampNeg (σ 29 l2.toNatClampNeg)) K))))) : gE 48 31 [some (.ref 245), some (.ref 6), some (.int l2)] [] σ K :=
  gw_run (cy := 48) (cuts := [2, 31, 78, 86, 94, 102, 110, 118, 126, 134, 142]) (inl := []) (pf := gpcq) gpcq_ok 400 (by decide) h
set_option maxRecDepth 20000 in
theorem c245_6_48_78 {σ : gS} {K : gK} {l2 : Option Value} (h : gE 48 86 [some (.ref 245), some (.ref 6), l2] [] (gup σ 245 4 (σ 6 4)) K) : gE 48 78 [some (.ref 245), some (.ref 6), l2] [] σ K :=
  gw_run (cy := 48) (cuts := [2, 31, 78, 86, 94, 102, 110, 118, 126, 134, 142]) (inl := []) (pf := gpcq) gpcq_ok 400 (by decide) h
set_option maxRecDepth 20000 in
theorem c245_6_48_86 {σ : gS} {K : gK} {l2 : Option Value} (h : gE 48 94 [some (.ref 245), some (.ref 6), l2] [] (gup σ 245 5 (σ 6 5)) K) : gE 48 86 [some (.ref 245), some (.ref 6), l2] [] σ K :=
  gw_run (cy := 48) (cuts := [2, 31, 78, 86, 94, 102, 110, 118, 126, 134, 142]) (inl := []) (pf := gpcq) gpcq_ok 400 (by decide) h
set_option maxRecDepth 20000 in
theorem c245_6_48_94 {σ : gS} {K : gK} {l2 : Option Value} (h : gE 48 102 [some (.ref 245), some (.ref 6), l2] [] (gup σ 245 6 (σ 6 6)) K) : gE 48 94 [some (.ref 245), some (.ref 6), l2] [] σ K :=
  gw_run (cy := 48) (cuts := [2, 31, 78, 86, 94, 102, 110, 118, 126, 134, 142]) (inl := []) (pf := gpcq) gpcq_ok 400 (by decide) h
set_option maxRecDepth 20000 in
theorem c245_6_48_102 {σ : gS} {K : gK} {l2 : Option Value} (h : gE 48 110 [some (.ref 245), some (.ref 6), l2] [] (gup σ 245 7 (σ 6 7)) K) : gE 48 102 [some (.ref 245), some (.ref 6), l2] [] σ K :=
  gw_run (cy := 48) (cuts := [2, 31, 78, 86, 94, 102, 110, 118, 126, 134, 142]) (inl := []) (pf := gpcq) gpcq_ok 400 (by decide) h
set_option maxRecDepth 20000 in
theorem c245_6_48_110 {σ : gS} {K : gK} {l2 : Option Value} (h : gE 48 118 [some (.ref 245), some (.ref 6), l2] [] (gup σ 245 8 (σ 6 8)) K) : gE 48 110 [some (.ref 245), some (.ref 6), l2] [] σ K :=
  gw_run (cy := 48) (cuts := [2, 31, 78, 86, 94, 102, 110, 118, 126, 134, 142]) (inl := []) (pf := gpcq) gpcq_ok 400 (by decide) h
set_option maxRecDepth 20000 in
theorem c245_6_48_118 {σ : gS} {K : gK} {l2 : Option Value} (h : gE 48 126 [some (.ref 245), some (.ref 6), l2] [] (gup σ 245 9 (σ 6 9)) K) : gE 48 118 [some (.ref 245), some (.ref 6), l2] [] σ K :=
  gw_run (cy := 48) (cuts := [2, 31, 78, 86, 94, 102, 110, 118, 126, 134, 142]) (inl := []) (pf := gpcq) gpcq_ok 400 (by decide) h
set_option maxRecDepth 20000 in
theorem c245_6_48_126 {σ : gS} {K : gK} {l2 : Option Value} (h : gE 48 134 [some (.ref 245), some (.ref 6), l2] [] (gup σ 245 10 (σ 6 10)) K) : gE 48 126 [some (.ref 245), some (.ref 6), l2] [] σ K :=
  gw_run (cy := 48) (cuts := [2, 31, 78, 86, 94, 102, 110, 118, 126, 134, 142]) (inl := []) (pf := gpcq) gpcq_ok 400 (by decide) h
set_option maxRecDepth 20000 in
theorem c245_6_48_134 {σ : gS} {K : gK} {l2 : Option Value} (h : gE 48 142 [some (.ref 245), some (.ref 6), l2] [] (gup σ 245 11 (σ 6 11)) K) : gE 48 134 [some (.ref 245), some (.ref 6), l2] [] σ K :=
  gw_run (cy := 48) (cuts := [2, 31, 78, 86, 94, 102, 110, 118, 126, 134, 142]) (inl := []) (pf := gpcq) gpcq_ok 400 (by decide) h
set_option maxRecDepth 20000 in
theorem c245_6_48_142 {σ : gS} {K : gK} {l2 : Option Value} (h : K none (gup σ 245 12 (σ 6 12))) : gE 48 142 [some (.ref 245), some (.ref 6), l2] [] σ K :=
  gw_run (cy := 48) (cuts := [2, 31, 78, 86, 94, 102, 110, 118, 126, 134, 142]) (inl := []) (pf := gpcq) gpcq_ok 400 (by decide) h
theorem s48_245_6 {σ : gS} {K : gK} (hc : 0 ≤ σ 6 7 ∧ σ 6 7 ≤ 20) (hK : K none (cCo σ 245 6)) : gE 48 0 [some (.ref 245), some (.ref 6), none] [] σ K := by
  obtain ⟨en, hn⟩ : σ 6 7 = iN (σ 6 7).toNatClampNeg ∧ (σ 6 7).toNatClampNeg ≤ 20 := by
    obtain ⟨e, l⟩ := iN_of hc.1
    refine ⟨e, ?_⟩
    have h2 := hc.2
    rw [e] at h2
    exact (iN_le (m := 20) l (by decide)).mp h2
  unfold cCo at hK
  obtain ⟨n, hnn⟩ : ∃ n, (σ 6 7).toNatClampNeg = n := ⟨_, rfl⟩
  rw [hnn] at en hn hK
  have tail : ∀ u, gE 48 78 [some (.ref 245), some (.ref 6), u] [] (cLc (cA1 (cT1 σ 245 6 n) 268 29 50) 269 30) K := by
    intro u
    obtain ⟨τ, hτ⟩ : ∃ τ, cLc (cA1 (cT1 σ 245 6 n) 268 29 50) 269 30 = τ := ⟨_, rfl⟩
    have hK : K none (cHd τ 245 6 9) := by rw [← hτ]; exact hK
    rw [hτ]
    have hs : ∀ k, gup (cHd τ 245 6 k) 245 (4 + k) (cHd τ 245 6 k 6 (4 + k)) = cHd τ 245 6 (k + 1) := fun k => cHd_s (by decide)
    have h0 : gup τ 245 4 (τ 6 4) = cHd τ 245 6 1 := by
      have := hs 0
      rw [cHd_0] at this
      exact this
    refine c245_6_48_78 ?_
    rw [h0]
    refine c245_6_48_86 ?_
    rw [hs 1]
    refine c245_6_48_94 ?_
    rw [hs 2]
    refine c245_6_48_102 ?_
    rw [hs 3]
    refine c245_6_48_110 ?_
    rw [hs 4]
    refine c245_6_48_118 ?_
    rw [hs 5]
    refine c245_6_48_126 ?_
    rw [hs 6]
    refine c245_6_48_134 ?_
    rw [hs 7]
    refine c245_6_48_142 ?_
    rw [hs 8]
    exact hK
  have main2 : gE 48 31 [some (.ref 245), some (.ref 6), some (.int 0)] [] (cT1 σ 245 6 n) K := by
    have main := g_forI (y := 48) (pc := 31) (K := K) 50 (fun k => [some (.ref 245), some (.ref 6), some (.int (iN k))]) (fun k => cA1 (cT1 σ 245 6 n) 268 29 k) (fun _ => True) (fun _ => by
      refine c245_6_48_31 ⟨fun _ => tail _, fun h => absurd h (by decide)⟩) (fun k hk _ ih => by
      have bd : 0 ≤ iN k ∧ iN k < 50 := ⟨(iN_le (k := 0) (by decide) (by omega)).mpr (by omega), (iN_lt (m := 50) (by omega) (by decide)).mpr hk⟩
      refine c245_6_48_31 ⟨fun h => absurd bd.2 h, fun _ => ⟨fun h => absurd bd.2 h, fun _ => ⟨bd, bd, ?_⟩⟩⟩
      rw [iN_nat (by omega), cA1_s (by decide), iN_one]
      exact ih trivial) 0 (Nat.zero_le _) trivial
    rw [cA1_0] at main
    exact main
  have c7 : ∀ k, k ≤ 20 → cT1 σ 245 6 k 6 7 = σ 6 7 := fun k hk => by unfold cT1; rw [if_neg (by omega)]
  have main := g_forI (y := 48) (pc := 2) (K := K) n (fun k => [some (.ref 245), some (.ref 6), some (.int (iN k))]) (fun k => cT1 σ 245 6 k) (fun _ => True) (fun _ => by
    refine c245_6_48_2 ⟨fun _ => main2, fun h => ?_⟩
    rw [c7 _ hn, en, iN_lt (by omega) (by omega)] at h; omega) (fun k hk _ ih => by
    have k20 : k < 20 := by omega
    refine c245_6_48_2 ⟨fun h => ?_, fun h => ?_⟩
    · rw [c7 _ (by omega), en, iN_lt (by omega) (by omega)] at h; omega
    · rw [iN_nat (by omega), iN_one]
      refine ⟨b20 k20, b20 k20, tv_245 k k20, ⟨tv_245 k k20, tv_6 k k20⟩, ?_⟩
      rw [cT1_s (by decide) k20]
      exact ih trivial) 0 (Nat.zero_le _) trivial
  rw [cT1_0] at main
  exact w48_245_6 main
set_option maxRecDepth 20000 in
theorem w48_271_6 {σ : gS} {K : gK} (h : gE 48 2 [some (.ref 271), some (.ref 6), some (.int 0)] [] σ K) : gE 48 0 [some (.ref 271), some (.ref 6), none] [] σ K :=
  gw_run (cy := 48) (cuts := [2, 31, 78, 86, 94, 102, 110, 118, 126, 134, 142]) (inl := []) (pf := gpcq) gpcq_ok 400 (by decide) h
set_option maxRecDepth 20000 in
theorem c271_6_48_2 {σ : gS} {K : gK} {l2 : Int32} (h : ((¬ l2 < (σ 6 7) → gE 48 31 [some (.ref 271), some (.ref 6), some (.int 0)] [] σ K) ∧ (l2 < (σ 6 7) → (0 ≤ l2 ∧ l2 < 20) ∧ (0 ≤ l2 ∧ l2 < 20) ∧ gTv (271 + 2 + l2.toNatClampNeg) ∧ (gTv (271 + 2 + l2.toNatClampNeg) ∧ gTv (6 + 2 + l2.toNatClampNeg)) ∧ gE 48 2 [some (.ref 271), some (.ref 6), some (.int (l2 + 1))] [] (cTv σ (271 + 2 + l2.toNatClampNeg) (6 + 2 + l2.toNatClampNeg)) K))) : gE 48 2 [some (.ref 271), some (.ref 6), some (.int l2)] [] σ K :=
  gw_run (cy := 48) (cuts := [2, 31, 78, 86, 94, 102, 110, 118, 126, 134, 142]) (inl := []) (pf := gpcq) gpcq_ok 400 (by decide) h
set_option maxRecDepth 20000 in
theorem c271_6_48_31 {σ : gS} {K : gK} {l2 : Int32} (h : ((¬ l2 < 50 → gE 48 78 [some (.ref 271), some (.ref 6), some (.int l2)] [] (cLc σ 295 30) K) ∧ (l2 < 50 → ((¬ l2 < 50 → gE 48 78 [some (.ref 271), some (.ref 6), some (.int l2)] [] (cLc σ 295 30) K) ∧ (l2 < 50 → (0 ≤ l2 ∧ l2 < 50) ∧ (0 ≤ l2 ∧ l2 < 50) ∧ gE 48 31 [some (.ref 271), some (.ref 6), some (.int (l2 + 1))] [] (gup σ 294 l2.toNatClampNeg (σ 29 l2.toNatClampNeg)) K))))) : gE 48 31 [some (.ref 271), some (.ref 6), some (.int l2)] [] σ K :=
  gw_run (cy := 48) (cuts := [2, 31, 78, 86, 94, 102, 110, 118, 126, 134, 142]) (inl := []) (pf := gpcq) gpcq_ok 400 (by decide) h
set_option maxRecDepth 20000 in
theorem c271_6_48_78 {σ : gS} {K : gK} {l2 : Option Value} (h : gE 48 86 [some (.ref 271), some (.ref 6), l2] [] (gup σ 271 4 (σ 6 4)) K) : gE 48 78 [some (.ref 271), some (.ref 6), l2] [] σ K :=
  gw_run (cy := 48) (cuts := [2, 31, 78, 86, 94, 102, 110, 118, 126, 134, 142]) (inl := []) (pf := gpcq) gpcq_ok 400 (by decide) h
set_option maxRecDepth 20000 in
theorem c271_6_48_86 {σ : gS} {K : gK} {l2 : Option Value} (h : gE 48 94 [some (.ref 271), some (.ref 6), l2] [] (gup σ 271 5 (σ 6 5)) K) : gE 48 86 [some (.ref 271), some (.ref 6), l2] [] σ K :=
  gw_run (cy := 48) (cuts := [2, 31, 78, 86, 94, 102, 110, 118, 126, 134, 142]) (inl := []) (pf := gpcq) gpcq_ok 400 (by decide) h
set_option maxRecDepth 20000 in
theorem c271_6_48_94 {σ : gS} {K : gK} {l2 : Option Value} (h : gE 48 102 [some (.ref 271), some (.ref 6), l2] [] (gup σ 271 6 (σ 6 6)) K) : gE 48 94 [some (.ref 271), some (.ref 6), l2] [] σ K :=
  gw_run (cy := 48) (cuts := [2, 31, 78, 86, 94, 102, 110, 118, 126, 134, 142]) (inl := []) (pf := gpcq) gpcq_ok 400 (by decide) h
set_option maxRecDepth 20000 in
theorem c271_6_48_102 {σ : gS} {K : gK} {l2 : Option Value} (h : gE 48 110 [some (.ref 271), some (.ref 6), l2] [] (gup σ 271 7 (σ 6 7)) K) : gE 48 102 [some (.ref 271), some (.ref 6), l2] [] σ K :=
  gw_run (cy := 48) (cuts := [2, 31, 78, 86, 94, 102, 110, 118, 126, 134, 142]) (inl := []) (pf := gpcq) gpcq_ok 400 (by decide) h
set_option maxRecDepth 20000 in
theorem c271_6_48_110 {σ : gS} {K : gK} {l2 : Option Value} (h : gE 48 118 [some (.ref 271), some (.ref 6), l2] [] (gup σ 271 8 (σ 6 8)) K) : gE 48 110 [some (.ref 271), some (.ref 6), l2] [] σ K :=
  gw_run (cy := 48) (cuts := [2, 31, 78, 86, 94, 102, 110, 118, 126, 134, 142]) (inl := []) (pf := gpcq) gpcq_ok 400 (by decide) h
set_option maxRecDepth 20000 in
theorem c271_6_48_118 {σ : gS} {K : gK} {l2 : Option Value} (h : gE 48 126 [some (.ref 271), some (.ref 6), l2] [] (gup σ 271 9 (σ 6 9)) K) : gE 48 118 [some (.ref 271), some (.ref 6), l2] [] σ K :=
  gw_run (cy := 48) (cuts := [2, 31, 78, 86, 94, 102, 110, 118, 126, 134, 142]) (inl := []) (pf := gpcq) gpcq_ok 400 (by decide) h
set_option maxRecDepth 20000 in
theorem c271_6_48_126 {σ : gS} {K : gK} {l2 : Option Value} (h : gE 48 134 [some (.ref 271), some (.ref 6), l2] [] (gup σ 271 10 (σ 6 10)) K) : gE 48 126 [some (.ref 271), some (.ref 6), l2] [] σ K :=
  gw_run (cy := 48) (cuts := [2, 31, 78, 86, 94, 102, 110, 118, 126, 134, 142]) (inl := []) (pf := gpcq) gpcq_ok 400 (by decide) h
set_option maxRecDepth 20000 in
theorem c271_6_48_134 {σ : gS} {K : gK} {l2 : Option Value} (h : gE 48 142 [some (.ref 271), some (.ref 6), l2] [] (gup σ 271 11 (σ 6 11)) K) : gE 48 134 [some (.ref 271), some (.ref 6), l2] [] σ K :=
  gw_run (cy := 48) (cuts := [2, 31, 78, 86, 94, 102, 110, 118, 126, 134, 142]) (inl := []) (pf := gpcq) gpcq_ok 400 (by decide) h
set_option maxRecDepth 20000 in
theorem c271_6_48_142 {σ : gS} {K : gK} {l2 : Option Value} (h : K none (gup σ 271 12 (σ 6 12))) : gE 48 142 [some (.ref 271), some (.ref 6), l2] [] σ K :=
  gw_run (cy := 48) (cuts := [2, 31, 78, 86, 94, 102, 110, 118, 126, 134, 142]) (inl := []) (pf := gpcq) gpcq_ok 400 (by decide) h
theorem s48_271_6 {σ : gS} {K : gK} (hc : 0 ≤ σ 6 7 ∧ σ 6 7 ≤ 20) (hK : K none (cCo σ 271 6)) : gE 48 0 [some (.ref 271), some (.ref 6), none] [] σ K := by
  obtain ⟨en, hn⟩ : σ 6 7 = iN (σ 6 7).toNatClampNeg ∧ (σ 6 7).toNatClampNeg ≤ 20 := by
    obtain ⟨e, l⟩ := iN_of hc.1
    refine ⟨e, ?_⟩
    have h2 := hc.2
    rw [e] at h2
    exact (iN_le (m := 20) l (by decide)).mp h2
  unfold cCo at hK
  obtain ⟨n, hnn⟩ : ∃ n, (σ 6 7).toNatClampNeg = n := ⟨_, rfl⟩
  rw [hnn] at en hn hK
  have tail : ∀ u, gE 48 78 [some (.ref 271), some (.ref 6), u] [] (cLc (cA1 (cT1 σ 271 6 n) 294 29 50) 295 30) K := by
    intro u
    obtain ⟨τ, hτ⟩ : ∃ τ, cLc (cA1 (cT1 σ 271 6 n) 294 29 50) 295 30 = τ := ⟨_, rfl⟩
    have hK : K none (cHd τ 271 6 9) := by rw [← hτ]; exact hK
    rw [hτ]
    have hs : ∀ k, gup (cHd τ 271 6 k) 271 (4 + k) (cHd τ 271 6 k 6 (4 + k)) = cHd τ 271 6 (k + 1) := fun k => cHd_s (by decide)
    have h0 : gup τ 271 4 (τ 6 4) = cHd τ 271 6 1 := by
      have := hs 0
      rw [cHd_0] at this
      exact this
    refine c271_6_48_78 ?_
    rw [h0]
    refine c271_6_48_86 ?_
    rw [hs 1]
    refine c271_6_48_94 ?_
    rw [hs 2]
    refine c271_6_48_102 ?_
    rw [hs 3]
    refine c271_6_48_110 ?_
    rw [hs 4]
    refine c271_6_48_118 ?_
    rw [hs 5]
    refine c271_6_48_126 ?_
    rw [hs 6]
    refine c271_6_48_134 ?_
    rw [hs 7]
    refine c271_6_48_142 ?_
    rw [hs 8]
    exact hK
  have main2 : gE 48 31 [some (.ref 271), some (.ref 6), some (.int 0)] [] (cT1 σ 271 6 n) K := by
    have main := g_forI (y := 48) (pc := 31) (K := K) 50 (fun k => [some (.ref 271), some (.ref 6), some (.int (iN k))]) (fun k => cA1 (cT1 σ 271 6 n) 294 29 k) (fun _ => True) (fun _ => by
      refine c271_6_48_31 ⟨fun _ => tail _, fun h => absurd h (by decide)⟩) (fun k hk _ ih => by
      have bd : 0 ≤ iN k ∧ iN k < 50 := ⟨(iN_le (k := 0) (by decide) (by omega)).mpr (by omega), (iN_lt (m := 50) (by omega) (by decide)).mpr hk⟩
      refine c271_6_48_31 ⟨fun h => absurd bd.2 h, fun _ => ⟨fun h => absurd bd.2 h, fun _ => ⟨bd, bd, ?_⟩⟩⟩
      rw [iN_nat (by omega), cA1_s (by decide), iN_one]
      exact ih trivial) 0 (Nat.zero_le _) trivial
    rw [cA1_0] at main
    exact main
  have c7 : ∀ k, k ≤ 20 → cT1 σ 271 6 k 6 7 = σ 6 7 := fun k hk => by unfold cT1; rw [if_neg (by omega)]
  have main := g_forI (y := 48) (pc := 2) (K := K) n (fun k => [some (.ref 271), some (.ref 6), some (.int (iN k))]) (fun k => cT1 σ 271 6 k) (fun _ => True) (fun _ => by
    refine c271_6_48_2 ⟨fun _ => main2, fun h => ?_⟩
    rw [c7 _ hn, en, iN_lt (by omega) (by omega)] at h; omega) (fun k hk _ ih => by
    have k20 : k < 20 := by omega
    refine c271_6_48_2 ⟨fun h => ?_, fun h => ?_⟩
    · rw [c7 _ (by omega), en, iN_lt (by omega) (by omega)] at h; omega
    · rw [iN_nat (by omega), iN_one]
      refine ⟨b20 k20, b20 k20, tv_271 k k20, ⟨tv_271 k k20, tv_6 k k20⟩, ?_⟩
      rw [cT1_s (by decide) k20]
      exact ih trivial) 0 (Nat.zero_le _) trivial
  rw [cT1_0] at main
  exact w48_271_6 main
set_option maxRecDepth 20000 in
theorem w48_297_6 {σ : gS} {K : gK} (h : gE 48 2 [some (.ref 297), some (.ref 6), some (.int 0)] [] σ K) : gE 48 0 [some (.ref 297), some (.ref 6), none] [] σ K :=
  gw_run (cy := 48) (cuts := [2, 31, 78, 86, 94, 102, 110, 118, 126, 134, 142]) (inl := []) (pf := gpcq) gpcq_ok 400 (by decide) h
set_option maxRecDepth 20000 in
theorem c297_6_48_2 {σ : gS} {K : gK} {l2 : Int32} (h : ((¬ l2 < (σ 6 7) → gE 48 31 [some (.ref 297), some (.ref 6), some (.int 0)] [] σ K) ∧ (l2 < (σ 6 7) → (0 ≤ l2 ∧ l2 < 20) ∧ (0 ≤ l2 ∧ l2 < 20) ∧ gTv (297 + 2 + l2.toNatClampNeg) ∧ (gTv (297 + 2 + l2.toNatClampNeg) ∧ gTv (6 + 2 + l2.toNatClampNeg)) ∧ gE 48 2 [some (.ref 297), some (.ref 6), some (.int (l2 + 1))] [] (cTv σ (297 + 2 + l2.toNatClampNeg) (6 + 2 + l2.toNatClampNeg)) K))) : gE 48 2 [some (.ref 297), some (.ref 6), some (.int l2)] [] σ K :=
  gw_run (cy := 48) (cuts := [2, 31, 78, 86, 94, 102, 110, 118, 126, 134, 142]) (inl := []) (pf := gpcq) gpcq_ok 400 (by decide) h
set_option maxRecDepth 20000 in
theorem c297_6_48_31 {σ : gS} {K : gK} {l2 : Int32} (h : ((¬ l2 < 50 → gE 48 78 [some (.ref 297), some (.ref 6), some (.int l2)] [] (cLc σ 321 30) K) ∧ (l2 < 50 → ((¬ l2 < 50 → gE 48 78 [some (.ref 297), some (.ref 6), some (.int l2)] [] (cLc σ 321 30) K) ∧ (l2 < 50 → (0 ≤ l2 ∧ l2 < 50) ∧ (0 ≤ l2 ∧ l2 < 50) ∧ gE 48 31 [some (.ref 297), some (.ref 6), some (.int (l2 + 1))] [] (gup σ 320 l2.toNatClampNeg (σ 29 l2.toNatClampNeg)) K))))) : gE 48 31 [some (.ref 297), some (.ref 6), some (.int l2)] [] σ K :=
  gw_run (cy := 48) (cuts := [2, 31, 78, 86, 94, 102, 110, 118, 126, 134, 142]) (inl := []) (pf := gpcq) gpcq_ok 400 (by decide) h
set_option maxRecDepth 20000 in
theorem c297_6_48_78 {σ : gS} {K : gK} {l2 : Option Value} (h : gE 48 86 [some (.ref 297), some (.ref 6), l2] [] (gup σ 297 4 (σ 6 4)) K) : gE 48 78 [some (.ref 297), some (.ref 6), l2] [] σ K :=
  gw_run (cy := 48) (cuts := [2, 31, 78, 86, 94, 102, 110, 118, 126, 134, 142]) (inl := []) (pf := gpcq) gpcq_ok 400 (by decide) h
set_option maxRecDepth 20000 in
theorem c297_6_48_86 {σ : gS} {K : gK} {l2 : Option Value} (h : gE 48 94 [some (.ref 297), some (.ref 6), l2] [] (gup σ 297 5 (σ 6 5)) K) : gE 48 86 [some (.ref 297), some (.ref 6), l2] [] σ K :=
  gw_run (cy := 48) (cuts := [2, 31, 78, 86, 94, 102, 110, 118, 126, 134, 142]) (inl := []) (pf := gpcq) gpcq_ok 400 (by decide) h
set_option maxRecDepth 20000 in
theorem c297_6_48_94 {σ : gS} {K : gK} {l2 : Option Value} (h : gE 48 102 [some (.ref 297), some (.ref 6), l2] [] (gup σ 297 6 (σ 6 6)) K) : gE 48 94 [some (.ref 297), some (.ref 6), l2] [] σ K :=
  gw_run (cy := 48) (cuts := [2, 31, 78, 86, 94, 102, 110, 118, 126, 134, 142]) (inl := []) (pf := gpcq) gpcq_ok 400 (by decide) h
set_option maxRecDepth 20000 in
theorem c297_6_48_102 {σ : gS} {K : gK} {l2 : Option Value} (h : gE 48 110 [some (.ref 297), some (.ref 6), l2] [] (gup σ 297 7 (σ 6 7)) K) : gE 48 102 [some (.ref 297), some (.ref 6), l2] [] σ K :=
  gw_run (cy := 48) (cuts := [2, 31, 78, 86, 94, 102, 110, 118, 126, 134, 142]) (inl := []) (pf := gpcq) gpcq_ok 400 (by decide) h
set_option maxRecDepth 20000 in
theorem c297_6_48_110 {σ : gS} {K : gK} {l2 : Option Value} (h : gE 48 118 [some (.ref 297), some (.ref 6), l2] [] (gup σ 297 8 (σ 6 8)) K) : gE 48 110 [some (.ref 297), some (.ref 6), l2] [] σ K :=
  gw_run (cy := 48) (cuts := [2, 31, 78, 86, 94, 102, 110, 118, 126, 134, 142]) (inl := []) (pf := gpcq) gpcq_ok 400 (by decide) h
set_option maxRecDepth 20000 in
theorem c297_6_48_118 {σ : gS} {K : gK} {l2 : Option Value} (h : gE 48 126 [some (.ref 297), some (.ref 6), l2] [] (gup σ 297 9 (σ 6 9)) K) : gE 48 118 [some (.ref 297), some (.ref 6), l2] [] σ K :=
  gw_run (cy := 48) (cuts := [2, 31, 78, 86, 94, 102, 110, 118, 126, 134, 142]) (inl := []) (pf := gpcq) gpcq_ok 400 (by decide) h
set_option maxRecDepth 20000 in
theorem c297_6_48_126 {σ : gS} {K : gK} {l2 : Option Value} (h : gE 48 134 [some (.ref 297), some (.ref 6), l2] [] (gup σ 297 10 (σ 6 10)) K) : gE 48 126 [some (.ref 297), some (.ref 6), l2] [] σ K :=
  gw_run (cy := 48) (cuts := [2, 31, 78, 86, 94, 102, 110, 118, 126, 134, 142]) (inl := []) (pf := gpcq) gpcq_ok 400 (by decide) h
set_option maxRecDepth 20000 in
theorem c297_6_48_134 {σ : gS} {K : gK} {l2 : Option Value} (h : gE 48 142 [some (.ref 297), some (.ref 6), l2] [] (gup σ 297 11 (σ 6 11)) K) : gE 48 134 [some (.ref 297), some (.ref 6), l2] [] σ K :=
  gw_run (cy := 48) (cuts := [2, 31, 78, 86, 94, 102, 110, 118, 126, 134, 142]) (inl := []) (pf := gpcq) gpcq_ok 400 (by decide) h
set_option maxRecDepth 20000 in
theorem c297_6_48_142 {σ : gS} {K : gK} {l2 : Option Value} (h : K none (gup σ 297 12 (σ 6 12))) : gE 48 142 [some (.ref 297), some (.ref 6), l2] [] σ K :=
  gw_run (cy := 48) (cuts := [2, 31, 78, 86, 94, 102, 110, 118, 126, 134, 142]) (inl := []) (pf := gpcq) gpcq_ok 400 (by decide) h
theorem s48_297_6 {σ : gS} {K : gK} (hc : 0 ≤ σ 6 7 ∧ σ 6 7 ≤ 20) (hK : K none (cCo σ 297 6)) : gE 48 0 [some (.ref 297), some (.ref 6), none] [] σ K := by
  obtain ⟨en, hn⟩ : σ 6 7 = iN (σ 6 7).toNatClampNeg ∧ (σ 6 7).toNatClampNeg ≤ 20 := by
    obtain ⟨e, l⟩ := iN_of hc.1
    refine ⟨e, ?_⟩
    have h2 := hc.2
    rw [e] at h2
    exact (iN_le (m := 20) l (by decide)).mp h2
  unfold cCo at hK
  obtain ⟨n, hnn⟩ : ∃ n, (σ 6 7).toNatClampNeg = n := ⟨_, rfl⟩
  rw [hnn] at en hn hK
  have tail : ∀ u, gE 48 78 [some (.ref 297), some (.ref 6), u] [] (cLc (cA1 (cT1 σ 297 6 n) 320 29 50) 321 30) K := by
    intro u
    obtain ⟨τ, hτ⟩ : ∃ τ, cLc (cA1 (cT1 σ 297 6 n) 320 29 50) 321 30 = τ := ⟨_, rfl⟩
    have hK : K none (cHd τ 297 6 9) := by rw [← hτ]; exact hK
    rw [hτ]
    have hs : ∀ k, gup (cHd τ 297 6 k) 297 (4 + k) (cHd τ 297 6 k 6 (4 + k)) = cHd τ 297 6 (k + 1) := fun k => cHd_s (by decide)
    have h0 : gup τ 297 4 (τ 6 4) = cHd τ 297 6 1 := by
      have := hs 0
      rw [cHd_0] at this
      exact this
    refine c297_6_48_78 ?_
    rw [h0]
    refine c297_6_48_86 ?_
    rw [hs 1]
    refine c297_6_48_94 ?_
    rw [hs 2]
    refine c297_6_48_102 ?_
    rw [hs 3]
    refine c297_6_48_110 ?_
    rw [hs 4]
    refine c297_6_48_118 ?_
    rw [hs 5]
    refine c297_6_48_126 ?_
    rw [hs 6]
    refine c297_6_48_134 ?_
    rw [hs 7]
    refine c297_6_48_142 ?_
    rw [hs 8]
    exact hK
  have main2 : gE 48 31 [some (.ref 297), some (.ref 6), some (.int 0)] [] (cT1 σ 297 6 n) K := by
    have main := g_forI (y := 48) (pc := 31) (K := K) 50 (fun k => [some (.ref 297), some (.ref 6), some (.int (iN k))]) (fun k => cA1 (cT1 σ 297 6 n) 320 29 k) (fun _ => True) (fun _ => by
      refine c297_6_48_31 ⟨fun _ => tail _, fun h => absurd h (by decide)⟩) (fun k hk _ ih => by
      have bd : 0 ≤ iN k ∧ iN k < 50 := ⟨(iN_le (k := 0) (by decide) (by omega)).mpr (by omega), (iN_lt (m := 50) (by omega) (by decide)).mpr hk⟩
      refine c297_6_48_31 ⟨fun h => absurd bd.2 h, fun _ => ⟨fun h => absurd bd.2 h, fun _ => ⟨bd, bd, ?_⟩⟩⟩
      rw [iN_nat (by omega), cA1_s (by decide), iN_one]
      exact ih trivial) 0 (Nat.zero_le _) trivial
    rw [cA1_0] at main
    exact main
  have c7 : ∀ k, k ≤ 20 → cT1 σ 297 6 k 6 7 = σ 6 7 := fun k hk => by unfold cT1; rw [if_neg (by omega)]
  have main := g_forI (y := 48) (pc := 2) (K := K) n (fun k => [some (.ref 297), some (.ref 6), some (.int (iN k))]) (fun k => cT1 σ 297 6 k) (fun _ => True) (fun _ => by
    refine c297_6_48_2 ⟨fun _ => main2, fun h => ?_⟩
    rw [c7 _ hn, en, iN_lt (by omega) (by omega)] at h; omega) (fun k hk _ ih => by
    have k20 : k < 20 := by omega
    refine c297_6_48_2 ⟨fun h => ?_, fun h => ?_⟩
    · rw [c7 _ (by omega), en, iN_lt (by omega) (by omega)] at h; omega
    · rw [iN_nat (by omega), iN_one]
      refine ⟨b20 k20, b20 k20, tv_297 k k20, ⟨tv_297 k k20, tv_6 k k20⟩, ?_⟩
      rw [cT1_s (by decide) k20]
      exact ih trivial) 0 (Nat.zero_le _) trivial
  rw [cT1_0] at main
  exact w48_297_6 main
set_option maxRecDepth 20000 in
theorem w48_6_115 {σ : gS} {K : gK} (h : gE 48 2 [some (.ref 6), some (.ref 115), some (.int 0)] [] σ K) : gE 48 0 [some (.ref 6), some (.ref 115), none] [] σ K :=
  gw_run (cy := 48) (cuts := [2, 31, 78, 86, 94, 102, 110, 118, 126, 134, 142]) (inl := []) (pf := gpcq) gpcq_ok 400 (by decide) h
set_option maxRecDepth 20000 in
theorem c6_115_48_2 {σ : gS} {K : gK} {l2 : Int32} (h : ((¬ l2 < (σ 115 7) → gE 48 31 [some (.ref 6), some (.ref 115), some (.int 0)] [] σ K) ∧ (l2 < (σ 115 7) → (0 ≤ l2 ∧ l2 < 20) ∧ (0 ≤ l2 ∧ l2 < 20) ∧ gTv (6 + 2 + l2.toNatClampNeg) ∧ (gTv (6 + 2 + l2.toNatClampNeg) ∧ gTv (115 + 2 + l2.toNatClampNeg)) ∧ gE 48 2 [some (.ref 6), some (.ref 115), some (.int (l2 + 1))] [] (cTv σ (6 + 2 + l2.toNatClampNeg) (115 + 2 + l2.toNatClampNeg)) K))) : gE 48 2 [some (.ref 6), some (.ref 115), some (.int l2)] [] σ K :=
  gw_run (cy := 48) (cuts := [2, 31, 78, 86, 94, 102, 110, 118, 126, 134, 142]) (inl := []) (pf := gpcq) gpcq_ok 400 (by decide) h
set_option maxRecDepth 20000 in
theorem c6_115_48_31 {σ : gS} {K : gK} {l2 : Int32} (h : ((¬ l2 < 50 → gE 48 78 [some (.ref 6), some (.ref 115), some (.int l2)] [] (cLc σ 30 139) K) ∧ (l2 < 50 → ((¬ l2 < 50 → gE 48 78 [some (.ref 6), some (.ref 115), some (.int l2)] [] (cLc σ 30 139) K) ∧ (l2 < 50 → (0 ≤ l2 ∧ l2 < 50) ∧ (0 ≤ l2 ∧ l2 < 50) ∧ gE 48 31 [some (.ref 6), some (.ref 115), some (.int (l2 + 1))] [] (gup σ 29 l2.toNatClampNeg (σ 138 l2.toNatClampNeg)) K))))) : gE 48 31 [some (.ref 6), some (.ref 115), some (.int l2)] [] σ K :=
  gw_run (cy := 48) (cuts := [2, 31, 78, 86, 94, 102, 110, 118, 126, 134, 142]) (inl := []) (pf := gpcq) gpcq_ok 400 (by decide) h
set_option maxRecDepth 20000 in
theorem c6_115_48_78 {σ : gS} {K : gK} {l2 : Option Value} (h : gE 48 86 [some (.ref 6), some (.ref 115), l2] [] (gup σ 6 4 (σ 115 4)) K) : gE 48 78 [some (.ref 6), some (.ref 115), l2] [] σ K :=
  gw_run (cy := 48) (cuts := [2, 31, 78, 86, 94, 102, 110, 118, 126, 134, 142]) (inl := []) (pf := gpcq) gpcq_ok 400 (by decide) h
set_option maxRecDepth 20000 in
theorem c6_115_48_86 {σ : gS} {K : gK} {l2 : Option Value} (h : gE 48 94 [some (.ref 6), some (.ref 115), l2] [] (gup σ 6 5 (σ 115 5)) K) : gE 48 86 [some (.ref 6), some (.ref 115), l2] [] σ K :=
  gw_run (cy := 48) (cuts := [2, 31, 78, 86, 94, 102, 110, 118, 126, 134, 142]) (inl := []) (pf := gpcq) gpcq_ok 400 (by decide) h
set_option maxRecDepth 20000 in
theorem c6_115_48_94 {σ : gS} {K : gK} {l2 : Option Value} (h : gE 48 102 [some (.ref 6), some (.ref 115), l2] [] (gup σ 6 6 (σ 115 6)) K) : gE 48 94 [some (.ref 6), some (.ref 115), l2] [] σ K :=
  gw_run (cy := 48) (cuts := [2, 31, 78, 86, 94, 102, 110, 118, 126, 134, 142]) (inl := []) (pf := gpcq) gpcq_ok 400 (by decide) h
set_option maxRecDepth 20000 in
theorem c6_115_48_102 {σ : gS} {K : gK} {l2 : Option Value} (h : gE 48 110 [some (.ref 6), some (.ref 115), l2] [] (gup σ 6 7 (σ 115 7)) K) : gE 48 102 [some (.ref 6), some (.ref 115), l2] [] σ K :=
  gw_run (cy := 48) (cuts := [2, 31, 78, 86, 94, 102, 110, 118, 126, 134, 142]) (inl := []) (pf := gpcq) gpcq_ok 400 (by decide) h
set_option maxRecDepth 20000 in
theorem c6_115_48_110 {σ : gS} {K : gK} {l2 : Option Value} (h : gE 48 118 [some (.ref 6), some (.ref 115), l2] [] (gup σ 6 8 (σ 115 8)) K) : gE 48 110 [some (.ref 6), some (.ref 115), l2] [] σ K :=
  gw_run (cy := 48) (cuts := [2, 31, 78, 86, 94, 102, 110, 118, 126, 134, 142]) (inl := []) (pf := gpcq) gpcq_ok 400 (by decide) h
set_option maxRecDepth 20000 in
theorem c6_115_48_118 {σ : gS} {K : gK} {l2 : Option Value} (h : gE 48 126 [some (.ref 6), some (.ref 115), l2] [] (gup σ 6 9 (σ 115 9)) K) : gE 48 118 [some (.ref 6), some (.ref 115), l2] [] σ K :=
  gw_run (cy := 48) (cuts := [2, 31, 78, 86, 94, 102, 110, 118, 126, 134, 142]) (inl := []) (pf := gpcq) gpcq_ok 400 (by decide) h
set_option maxRecDepth 20000 in
theorem c6_115_48_126 {σ : gS} {K : gK} {l2 : Option Value} (h : gE 48 134 [some (.ref 6), some (.ref 115), l2] [] (gup σ 6 10 (σ 115 10)) K) : gE 48 126 [some (.ref 6), some (.ref 115), l2] [] σ K :=
  gw_run (cy := 48) (cuts := [2, 31, 78, 86, 94, 102, 110, 118, 126, 134, 142]) (inl := []) (pf := gpcq) gpcq_ok 400 (by decide) h
set_option maxRecDepth 20000 in
theorem c6_115_48_134 {σ : gS} {K : gK} {l2 : Option Value} (h : gE 48 142 [some (.ref 6), some (.ref 115), l2] [] (gup σ 6 11 (σ 115 11)) K) : gE 48 134 [some (.ref 6), some (.ref 115), l2] [] σ K :=
  gw_run (cy := 48) (cuts := [2, 31, 78, 86, 94, 102, 110, 118, 126, 134, 142]) (inl := []) (pf := gpcq) gpcq_ok 400 (by decide) h
set_option maxRecDepth 20000 in
theorem c6_115_48_142 {σ : gS} {K : gK} {l2 : Option Value} (h : K none (gup σ 6 12 (σ 115 12))) : gE 48 142 [some (.ref 6), some (.ref 115), l2] [] σ K :=
  gw_run (cy := 48) (cuts := [2, 31, 78, 86, 94, 102, 110, 118, 126, 134, 142]) (inl := []) (pf := gpcq) gpcq_ok 400 (by decide) h
theorem s48_6_115 {σ : gS} {K : gK} (hc : 0 ≤ σ 115 7 ∧ σ 115 7 ≤ 20) (hK : K none (cCo σ 6 115)) : gE 48 0 [some (.ref 6), some (.ref 115), none] [] σ K := by
  obtain ⟨en, hn⟩ : σ 115 7 = iN (σ 115 7).toNatClampNeg ∧ (σ 115 7).toNatClampNeg ≤ 20 := by
    obtain ⟨e, l⟩ := iN_of hc.1
    refine ⟨e, ?_⟩
    have h2 := hc.2
    rw [e] at h2
    exact (iN_le (m := 20) l (by decide)).mp h2
  unfold cCo at hK
  obtain ⟨n, hnn⟩ : ∃ n, (σ 115 7).toNatClampNeg = n := ⟨_, rfl⟩
  rw [hnn] at en hn hK
  have tail : ∀ u, gE 48 78 [some (.ref 6), some (.ref 115), u] [] (cLc (cA1 (cT1 σ 6 115 n) 29 138 50) 30 139) K := by
    intro u
    obtain ⟨τ, hτ⟩ : ∃ τ, cLc (cA1 (cT1 σ 6 115 n) 29 138 50) 30 139 = τ := ⟨_, rfl⟩
    have hK : K none (cHd τ 6 115 9) := by rw [← hτ]; exact hK
    rw [hτ]
    have hs : ∀ k, gup (cHd τ 6 115 k) 6 (4 + k) (cHd τ 6 115 k 115 (4 + k)) = cHd τ 6 115 (k + 1) := fun k => cHd_s (by decide)
    have h0 : gup τ 6 4 (τ 115 4) = cHd τ 6 115 1 := by
      have := hs 0
      rw [cHd_0] at this
      exact this
    refine c6_115_48_78 ?_
    rw [h0]
    refine c6_115_48_86 ?_
    rw [hs 1]
    refine c6_115_48_94 ?_
    rw [hs 2]
    refine c6_115_48_102 ?_
    rw [hs 3]
    refine c6_115_48_110 ?_
    rw [hs 4]
    refine c6_115_48_118 ?_
    rw [hs 5]
    refine c6_115_48_126 ?_
    rw [hs 6]
    refine c6_115_48_134 ?_
    rw [hs 7]
    refine c6_115_48_142 ?_
    rw [hs 8]
    exact hK
  have main2 : gE 48 31 [some (.ref 6), some (.ref 115), some (.int 0)] [] (cT1 σ 6 115 n) K := by
    have main := g_forI (y := 48) (pc := 31) (K := K) 50 (fun k => [some (.ref 6), some (.ref 115), some (.int (iN k))]) (fun k => cA1 (cT1 σ 6 115 n) 29 138 k) (fun _ => True) (fun _ => by
      refine c6_115_48_31 ⟨fun _ => tail _, fun h => absurd h (by decide)⟩) (fun k hk _ ih => by
      have bd : 0 ≤ iN k ∧ iN k < 50 := ⟨(iN_le (k := 0) (by decide) (by omega)).mpr (by omega), (iN_lt (m := 50) (by omega) (by decide)).mpr hk⟩
      refine c6_115_48_31 ⟨fun h => absurd bd.2 h, fun _ => ⟨fun h => absurd bd.2 h, fun _ => ⟨bd, bd, ?_⟩⟩⟩
      rw [iN_nat (by omega), cA1_s (by decide), iN_one]
      exact ih trivial) 0 (Nat.zero_le _) trivial
    rw [cA1_0] at main
    exact main
  have c7 : ∀ k, k ≤ 20 → cT1 σ 6 115 k 115 7 = σ 115 7 := fun k hk => by unfold cT1; rw [if_neg (by omega)]
  have main := g_forI (y := 48) (pc := 2) (K := K) n (fun k => [some (.ref 6), some (.ref 115), some (.int (iN k))]) (fun k => cT1 σ 6 115 k) (fun _ => True) (fun _ => by
    refine c6_115_48_2 ⟨fun _ => main2, fun h => ?_⟩
    rw [c7 _ hn, en, iN_lt (by omega) (by omega)] at h; omega) (fun k hk _ ih => by
    have k20 : k < 20 := by omega
    refine c6_115_48_2 ⟨fun h => ?_, fun h => ?_⟩
    · rw [c7 _ (by omega), en, iN_lt (by omega) (by omega)] at h; omega
    · rw [iN_nat (by omega), iN_one]
      refine ⟨b20 k20, b20 k20, tv_6 k k20, ⟨tv_6 k k20, tv_115 k k20⟩, ?_⟩
      rw [cT1_s (by decide) k20]
      exact ih trivial) 0 (Nat.zero_le _) trivial
  rw [cT1_0] at main
  exact w48_6_115 main
set_option maxRecDepth 20000 in
theorem w48_6_141 {σ : gS} {K : gK} (h : gE 48 2 [some (.ref 6), some (.ref 141), some (.int 0)] [] σ K) : gE 48 0 [some (.ref 6), some (.ref 141), none] [] σ K :=
  gw_run (cy := 48) (cuts := [2, 31, 78, 86, 94, 102, 110, 118, 126, 134, 142]) (inl := []) (pf := gpcq) gpcq_ok 400 (by decide) h
set_option maxRecDepth 20000 in
theorem c6_141_48_2 {σ : gS} {K : gK} {l2 : Int32} (h : ((¬ l2 < (σ 141 7) → gE 48 31 [some (.ref 6), some (.ref 141), some (.int 0)] [] σ K) ∧ (l2 < (σ 141 7) → (0 ≤ l2 ∧ l2 < 20) ∧ (0 ≤ l2 ∧ l2 < 20) ∧ gTv (6 + 2 + l2.toNatClampNeg) ∧ (gTv (6 + 2 + l2.toNatClampNeg) ∧ gTv (141 + 2 + l2.toNatClampNeg)) ∧ gE 48 2 [some (.ref 6), some (.ref 141), some (.int (l2 + 1))] [] (cTv σ (6 + 2 + l2.toNatClampNeg) (141 + 2 + l2.toNatClampNeg)) K))) : gE 48 2 [some (.ref 6), some (.ref 141), some (.int l2)] [] σ K :=
  gw_run (cy := 48) (cuts := [2, 31, 78, 86, 94, 102, 110, 118, 126, 134, 142]) (inl := []) (pf := gpcq) gpcq_ok 400 (by decide) h
set_option maxRecDepth 20000 in
theorem c6_141_48_31 {σ : gS} {K : gK} {l2 : Int32} (h : ((¬ l2 < 50 → gE 48 78 [some (.ref 6), some (.ref 141), some (.int l2)] [] (cLc σ 30 165) K) ∧ (l2 < 50 → ((¬ l2 < 50 → gE 48 78 [some (.ref 6), some (.ref 141), some (.int l2)] [] (cLc σ 30 165) K) ∧ (l2 < 50 → (0 ≤ l2 ∧ l2 < 50) ∧ (0 ≤ l2 ∧ l2 < 50) ∧ gE 48 31 [some (.ref 6), some (.ref 141), some (.int (l2 + 1))] [] (gup σ 29 l2.toNatClampNeg (σ 164 l2.toNatClampNeg)) K))))) : gE 48 31 [some (.ref 6), some (.ref 141), some (.int l2)] [] σ K :=
  gw_run (cy := 48) (cuts := [2, 31, 78, 86, 94, 102, 110, 118, 126, 134, 142]) (inl := []) (pf := gpcq) gpcq_ok 400 (by decide) h
set_option maxRecDepth 20000 in
theorem c6_141_48_78 {σ : gS} {K : gK} {l2 : Option Value} (h : gE 48 86 [some (.ref 6), some (.ref 141), l2] [] (gup σ 6 4 (σ 141 4)) K) : gE 48 78 [some (.ref 6), some (.ref 141), l2] [] σ K :=
  gw_run (cy := 48) (cuts := [2, 31, 78, 86, 94, 102, 110, 118, 126, 134, 142]) (inl := []) (pf := gpcq) gpcq_ok 400 (by decide) h
set_option maxRecDepth 20000 in
theorem c6_141_48_86 {σ : gS} {K : gK} {l2 : Option Value} (h : gE 48 94 [some (.ref 6), some (.ref 141), l2] [] (gup σ 6 5 (σ 141 5)) K) : gE 48 86 [some (.ref 6), some (.ref 141), l2] [] σ K :=
  gw_run (cy := 48) (cuts := [2, 31, 78, 86, 94, 102, 110, 118, 126, 134, 142]) (inl := []) (pf := gpcq) gpcq_ok 400 (by decide) h
set_option maxRecDepth 20000 in
theorem c6_141_48_94 {σ : gS} {K : gK} {l2 : Option Value} (h : gE 48 102 [some (.ref 6), some (.ref 141), l2] [] (gup σ 6 6 (σ 141 6)) K) : gE 48 94 [some (.ref 6), some (.ref 141), l2] [] σ K :=
  gw_run (cy := 48) (cuts := [2, 31, 78, 86, 94, 102, 110, 118, 126, 134, 142]) (inl := []) (pf := gpcq) gpcq_ok 400 (by decide) h
set_option maxRecDepth 20000 in
theorem c6_141_48_102 {σ : gS} {K : gK} {l2 : Option Value} (h : gE 48 110 [some (.ref 6), some (.ref 141), l2] [] (gup σ 6 7 (σ 141 7)) K) : gE 48 102 [some (.ref 6), some (.ref 141), l2] [] σ K :=
  gw_run (cy := 48) (cuts := [2, 31, 78, 86, 94, 102, 110, 118, 126, 134, 142]) (inl := []) (pf := gpcq) gpcq_ok 400 (by decide) h
set_option maxRecDepth 20000 in
theorem c6_141_48_110 {σ : gS} {K : gK} {l2 : Option Value} (h : gE 48 118 [some (.ref 6), some (.ref 141), l2] [] (gup σ 6 8 (σ 141 8)) K) : gE 48 110 [some (.ref 6), some (.ref 141), l2] [] σ K :=
  gw_run (cy := 48) (cuts := [2, 31, 78, 86, 94, 102, 110, 118, 126, 134, 142]) (inl := []) (pf := gpcq) gpcq_ok 400 (by decide) h
set_option maxRecDepth 20000 in
theorem c6_141_48_118 {σ : gS} {K : gK} {l2 : Option Value} (h : gE 48 126 [some (.ref 6), some (.ref 141), l2] [] (gup σ 6 9 (σ 141 9)) K) : gE 48 118 [some (.ref 6), some (.ref 141), l2] [] σ K :=
  gw_run (cy := 48) (cuts := [2, 31, 78, 86, 94, 102, 110, 118, 126, 134, 142]) (inl := []) (pf := gpcq) gpcq_ok 400 (by decide) h
set_option maxRecDepth 20000 in
theorem c6_141_48_126 {σ : gS} {K : gK} {l2 : Option Value} (h : gE 48 134 [some (.ref 6), some (.ref 141), l2] [] (gup σ 6 10 (σ 141 10)) K) : gE 48 126 [some (.ref 6), some (.ref 141), l2] [] σ K :=
  gw_run (cy := 48) (cuts := [2, 31, 78, 86, 94, 102, 110, 118, 126, 134, 142]) (inl := []) (pf := gpcq) gpcq_ok 400 (by decide) h
set_option maxRecDepth 20000 in
theorem c6_141_48_134 {σ : gS} {K : gK} {l2 : Option Value} (h : gE 48 142 [some (.ref 6), some (.ref 141), l2] [] (gup σ 6 11 (σ 141 11)) K) : gE 48 134 [some (.ref 6), some (.ref 141), l2] [] σ K :=
  gw_run (cy := 48) (cuts := [2, 31, 78, 86, 94, 102, 110, 118, 126, 134, 142]) (inl := []) (pf := gpcq) gpcq_ok 400 (by decide) h
set_option maxRecDepth 20000 in
theorem c6_141_48_142 {σ : gS} {K : gK} {l2 : Option Value} (h : K none (gup σ 6 12 (σ 141 12))) : gE 48 142 [some (.ref 6), some (.ref 141), l2] [] σ K :=
  gw_run (cy := 48) (cuts := [2, 31, 78, 86, 94, 102, 110, 118, 126, 134, 142]) (inl := []) (pf := gpcq) gpcq_ok 400 (by decide) h
theorem s48_6_141 {σ : gS} {K : gK} (hc : 0 ≤ σ 141 7 ∧ σ 141 7 ≤ 20) (hK : K none (cCo σ 6 141)) : gE 48 0 [some (.ref 6), some (.ref 141), none] [] σ K := by
  obtain ⟨en, hn⟩ : σ 141 7 = iN (σ 141 7).toNatClampNeg ∧ (σ 141 7).toNatClampNeg ≤ 20 := by
    obtain ⟨e, l⟩ := iN_of hc.1
    refine ⟨e, ?_⟩
    have h2 := hc.2
    rw [e] at h2
    exact (iN_le (m := 20) l (by decide)).mp h2
  unfold cCo at hK
  obtain ⟨n, hnn⟩ : ∃ n, (σ 141 7).toNatClampNeg = n := ⟨_, rfl⟩
  rw [hnn] at en hn hK
  have tail : ∀ u, gE 48 78 [some (.ref 6), some (.ref 141), u] [] (cLc (cA1 (cT1 σ 6 141 n) 29 164 50) 30 165) K := by
    intro u
    obtain ⟨τ, hτ⟩ : ∃ τ, cLc (cA1 (cT1 σ 6 141 n) 29 164 50) 30 165 = τ := ⟨_, rfl⟩
    have hK : K none (cHd τ 6 141 9) := by rw [← hτ]; exact hK
    rw [hτ]
    have hs : ∀ k, gup (cHd τ 6 141 k) 6 (4 + k) (cHd τ 6 141 k 141 (4 + k)) = cHd τ 6 141 (k + 1) := fun k => cHd_s (by decide)
    have h0 : gup τ 6 4 (τ 141 4) = cHd τ 6 141 1 := by
      have := hs 0
      rw [cHd_0] at this
      exact this
    refine c6_141_48_78 ?_
    rw [h0]
    refine c6_141_48_86 ?_
    rw [hs 1]
    refine c6_141_48_94 ?_
    rw [hs 2]
    refine c6_141_48_102 ?_
    rw [hs 3]
    refine c6_141_48_110 ?_
    rw [hs 4]
    refine c6_141_48_118 ?_
    rw [hs 5]
    refine c6_141_48_126 ?_
    rw [hs 6]
    refine c6_141_48_134 ?_
    rw [hs 7]
    refine c6_141_48_142 ?_
    rw [hs 8]
    exact hK
  have main2 : gE 48 31 [some (.ref 6), some (.ref 141), some (.int 0)] [] (cT1 σ 6 141 n) K := by
    have main := g_forI (y := 48) (pc := 31) (K := K) 50 (fun k => [some (.ref 6), some (.ref 141), some (.int (iN k))]) (fun k => cA1 (cT1 σ 6 141 n) 29 164 k) (fun _ => True) (fun _ => by
      refine c6_141_48_31 ⟨fun _ => tail _, fun h => absurd h (by decide)⟩) (fun k hk _ ih => by
      have bd : 0 ≤ iN k ∧ iN k < 50 := ⟨(iN_le (k := 0) (by decide) (by omega)).mpr (by omega), (iN_lt (m := 50) (by omega) (by decide)).mpr hk⟩
      refine c6_141_48_31 ⟨fun h => absurd bd.2 h, fun _ => ⟨fun h => absurd bd.2 h, fun _ => ⟨bd, bd, ?_⟩⟩⟩
      rw [iN_nat (by omega), cA1_s (by decide), iN_one]
      exact ih trivial) 0 (Nat.zero_le _) trivial
    rw [cA1_0] at main
    exact main
  have c7 : ∀ k, k ≤ 20 → cT1 σ 6 141 k 141 7 = σ 141 7 := fun k hk => by unfold cT1; rw [if_neg (by omega)]
  have main := g_forI (y := 48) (pc := 2) (K := K) n (fun k => [some (.ref 6), some (.ref 141), some (.int (iN k))]) (fun k => cT1 σ 6 141 k) (fun _ => True) (fun _ => by
    refine c6_141_48_2 ⟨fun _ => main2, fun h => ?_⟩
    rw [c7 _ hn, en, iN_lt (by omega) (by omega)] at h; omega) (fun k hk _ ih => by
    have k20 : k < 20 := by omega
    refine c6_141_48_2 ⟨fun h => ?_, fun h => ?_⟩
    · rw [c7 _ (by omega), en, iN_lt (by omega) (by omega)] at h; omega
    · rw [iN_nat (by omega), iN_one]
      refine ⟨b20 k20, b20 k20, tv_6 k k20, ⟨tv_6 k k20, tv_141 k k20⟩, ?_⟩
      rw [cT1_s (by decide) k20]
      exact ih trivial) 0 (Nat.zero_le _) trivial
  rw [cT1_0] at main
  exact w48_6_141 main
set_option maxRecDepth 20000 in
theorem w48_6_167 {σ : gS} {K : gK} (h : gE 48 2 [some (.ref 6), some (.ref 167), some (.int 0)] [] σ K) : gE 48 0 [some (.ref 6), some (.ref 167), none] [] σ K :=
  gw_run (cy := 48) (cuts := [2, 31, 78, 86, 94, 102, 110, 118, 126, 134, 142]) (inl := []) (pf := gpcq) gpcq_ok 400 (by decide) h
set_option maxRecDepth 20000 in
theorem c6_167_48_2 {σ : gS} {K : gK} {l2 : Int32} (h : ((¬ l2 < (σ 167 7) → gE 48 31 [some (.ref 6), some (.ref 167), some (.int 0)] [] σ K) ∧ (l2 < (σ 167 7) → (0 ≤ l2 ∧ l2 < 20) ∧ (0 ≤ l2 ∧ l2 < 20) ∧ gTv (6 + 2 + l2.toNatClampNeg) ∧ (gTv (6 + 2 + l2.toNatClampNeg) ∧ gTv (167 + 2 + l2.toNatClampNeg)) ∧ gE 48 2 [some (.ref 6), some (.ref 167), some (.int (l2 + 1))] [] (cTv σ (6 + 2 + l2.toNatClampNeg) (167 + 2 + l2.toNatClampNeg)) K))) : gE 48 2 [some (.ref 6), some (.ref 167), some (.int l2)] [] σ K :=
  gw_run (cy := 48) (cuts := [2, 31, 78, 86, 94, 102, 110, 118, 126, 134, 142]) (inl := []) (pf := gpcq) gpcq_ok 400 (by decide) h
set_option maxRecDepth 20000 in
theorem c6_167_48_31 {σ : gS} {K : gK} {l2 : Int32} (h : ((¬ l2 < 50 → gE 48 78 [some (.ref 6), some (.ref 167), some (.int l2)] [] (cLc σ 30 191) K) ∧ (l2 < 50 → ((¬ l2 < 50 → gE 48 78 [some (.ref 6), some (.ref 167), some (.int l2)] [] (cLc σ 30 191) K) ∧ (l2 < 50 → (0 ≤ l2 ∧ l2 < 50) ∧ (0 ≤ l2 ∧ l2 < 50) ∧ gE 48 31 [some (.ref 6), some (.ref 167), some (.int (l2 + 1))] [] (gup σ 29 l2.toNatClampNeg (σ 190 l2.toNatClampNeg)) K))))) : gE 48 31 [some (.ref 6), some (.ref 167), some (.int l2)] [] σ K :=
  gw_run (cy := 48) (cuts := [2, 31, 78, 86, 94, 102, 110, 118, 126, 134, 142]) (inl := []) (pf := gpcq) gpcq_ok 400 (by decide) h
set_option maxRecDepth 20000 in
theorem c6_167_48_78 {σ : gS} {K : gK} {l2 : Option Value} (h : gE 48 86 [some (.ref 6), some (.ref 167), l2] [] (gup σ 6 4 (σ 167 4)) K) : gE 48 78 [some (.ref 6), some (.ref 167), l2] [] σ K :=
  gw_run (cy := 48) (cuts := [2, 31, 78, 86, 94, 102, 110, 118, 126, 134, 142]) (inl := []) (pf := gpcq) gpcq_ok 400 (by decide) h
set_option maxRecDepth 20000 in
theorem c6_167_48_86 {σ : gS} {K : gK} {l2 : Option Value} (h : gE 48 94 [some (.ref 6), some (.ref 167), l2] [] (gup σ 6 5 (σ 167 5)) K) : gE 48 86 [some (.ref 6), some (.ref 167), l2] [] σ K :=
  gw_run (cy := 48) (cuts := [2, 31, 78, 86, 94, 102, 110, 118, 126, 134, 142]) (inl := []) (pf := gpcq) gpcq_ok 400 (by decide) h
set_option maxRecDepth 20000 in
theorem c6_167_48_94 {σ : gS} {K : gK} {l2 : Option Value} (h : gE 48 102 [some (.ref 6), some (.ref 167), l2] [] (gup σ 6 6 (σ 167 6)) K) : gE 48 94 [some (.ref 6), some (.ref 167), l2] [] σ K :=
  gw_run (cy := 48) (cuts := [2, 31, 78, 86, 94, 102, 110, 118, 126, 134, 142]) (inl := []) (pf := gpcq) gpcq_ok 400 (by decide) h
set_option maxRecDepth 20000 in
theorem c6_167_48_102 {σ : gS} {K : gK} {l2 : Option Value} (h : gE 48 110 [some (.ref 6), some (.ref 167), l2] [] (gup σ 6 7 (σ 167 7)) K) : gE 48 102 [some (.ref 6), some (.ref 167), l2] [] σ K :=
  gw_run (cy := 48) (cuts := [2, 31, 78, 86, 94, 102, 110, 118, 126, 134, 142]) (inl := []) (pf := gpcq) gpcq_ok 400 (by decide) h
set_option maxRecDepth 20000 in
theorem c6_167_48_110 {σ : gS} {K : gK} {l2 : Option Value} (h : gE 48 118 [some (.ref 6), some (.ref 167), l2] [] (gup σ 6 8 (σ 167 8)) K) : gE 48 110 [some (.ref 6), some (.ref 167), l2] [] σ K :=
  gw_run (cy := 48) (cuts := [2, 31, 78, 86, 94, 102, 110, 118, 126, 134, 142]) (inl := []) (pf := gpcq) gpcq_ok 400 (by decide) h
set_option maxRecDepth 20000 in
theorem c6_167_48_118 {σ : gS} {K : gK} {l2 : Option Value} (h : gE 48 126 [some (.ref 6), some (.ref 167), l2] [] (gup σ 6 9 (σ 167 9)) K) : gE 48 118 [some (.ref 6), some (.ref 167), l2] [] σ K :=
  gw_run (cy := 48) (cuts := [2, 31, 78, 86, 94, 102, 110, 118, 126, 134, 142]) (inl := []) (pf := gpcq) gpcq_ok 400 (by decide) h
set_option maxRecDepth 20000 in
theorem c6_167_48_126 {σ : gS} {K : gK} {l2 : Option Value} (h : gE 48 134 [some (.ref 6), some (.ref 167), l2] [] (gup σ 6 10 (σ 167 10)) K) : gE 48 126 [some (.ref 6), some (.ref 167), l2] [] σ K :=
  gw_run (cy := 48) (cuts := [2, 31, 78, 86, 94, 102, 110, 118, 126, 134, 142]) (inl := []) (pf := gpcq) gpcq_ok 400 (by decide) h
set_option maxRecDepth 20000 in
theorem c6_167_48_134 {σ : gS} {K : gK} {l2 : Option Value} (h : gE 48 142 [some (.ref 6), some (.ref 167), l2] [] (gup σ 6 11 (σ 167 11)) K) : gE 48 134 [some (.ref 6), some (.ref 167), l2] [] σ K :=
  gw_run (cy := 48) (cuts := [2, 31, 78, 86, 94, 102, 110, 118, 126, 134, 142]) (inl := []) (pf := gpcq) gpcq_ok 400 (by decide) h
set_option maxRecDepth 20000 in
theorem c6_167_48_142 {σ : gS} {K : gK} {l2 : Option Value} (h : K none (gup σ 6 12 (σ 167 12))) : gE 48 142 [some (.ref 6), some (.ref 167), l2] [] σ K :=
  gw_run (cy := 48) (cuts := [2, 31, 78, 86, 94, 102, 110, 118, 126, 134, 142]) (inl := []) (pf := gpcq) gpcq_ok 400 (by decide) h
theorem s48_6_167 {σ : gS} {K : gK} (hc : 0 ≤ σ 167 7 ∧ σ 167 7 ≤ 20) (hK : K none (cCo σ 6 167)) : gE 48 0 [some (.ref 6), some (.ref 167), none] [] σ K := by
  obtain ⟨en, hn⟩ : σ 167 7 = iN (σ 167 7).toNatClampNeg ∧ (σ 167 7).toNatClampNeg ≤ 20 := by
    obtain ⟨e, l⟩ := iN_of hc.1
    refine ⟨e, ?_⟩
    have h2 := hc.2
    rw [e] at h2
    exact (iN_le (m := 20) l (by decide)).mp h2
  unfold cCo at hK
  obtain ⟨n, hnn⟩ : ∃ n, (σ 167 7).toNatClampNeg = n := ⟨_, rfl⟩
  rw [hnn] at en hn hK
  have tail : ∀ u, gE 48 78 [some (.ref 6), some (.ref 167), u] [] (cLc (cA1 (cT1 σ 6 167 n) 29 190 50) 30 191) K := by
    intro u
    obtain ⟨τ, hτ⟩ : ∃ τ, cLc (cA1 (cT1 σ 6 167 n) 29 190 50) 30 191 = τ := ⟨_, rfl⟩
    have hK : K none (cHd τ 6 167 9) := by rw [← hτ]; exact hK
    rw [hτ]
    have hs : ∀ k, gup (cHd τ 6 167 k) 6 (4 + k) (cHd τ 6 167 k 167 (4 + k)) = cHd τ 6 167 (k + 1) := fun k => cHd_s (by decide)
    have h0 : gup τ 6 4 (τ 167 4) = cHd τ 6 167 1 := by
      have := hs 0
      rw [cHd_0] at this
      exact this
    refine c6_167_48_78 ?_
    rw [h0]
    refine c6_167_48_86 ?_
    rw [hs 1]
    refine c6_167_48_94 ?_
    rw [hs 2]
    refine c6_167_48_102 ?_
    rw [hs 3]
    refine c6_167_48_110 ?_
    rw [hs 4]
    refine c6_167_48_118 ?_
    rw [hs 5]
    refine c6_167_48_126 ?_
    rw [hs 6]
    refine c6_167_48_134 ?_
    rw [hs 7]
    refine c6_167_48_142 ?_
    rw [hs 8]
    exact hK
  have main2 : gE 48 31 [some (.ref 6), some (.ref 167), some (.int 0)] [] (cT1 σ 6 167 n) K := by
    have main := g_forI (y := 48) (pc := 31) (K := K) 50 (fun k => [some (.ref 6), some (.ref 167), some (.int (iN k))]) (fun k => cA1 (cT1 σ 6 167 n) 29 190 k) (fun _ => True) (fun _ => by
      refine c6_167_48_31 ⟨fun _ => tail _, fun h => absurd h (by decide)⟩) (fun k hk _ ih => by
      have bd : 0 ≤ iN k ∧ iN k < 50 := ⟨(iN_le (k := 0) (by decide) (by omega)).mpr (by omega), (iN_lt (m := 50) (by omega) (by decide)).mpr hk⟩
      refine c6_167_48_31 ⟨fun h => absurd bd.2 h, fun _ => ⟨fun h => absurd bd.2 h, fun _ => ⟨bd, bd, ?_⟩⟩⟩
      rw [iN_nat (by omega), cA1_s (by decide), iN_one]
      exact ih trivial) 0 (Nat.zero_le _) trivial
    rw [cA1_0] at main
    exact main
  have c7 : ∀ k, k ≤ 20 → cT1 σ 6 167 k 167 7 = σ 167 7 := fun k hk => by unfold cT1; rw [if_neg (by omega)]
  have main := g_forI (y := 48) (pc := 2) (K := K) n (fun k => [some (.ref 6), some (.ref 167), some (.int (iN k))]) (fun k => cT1 σ 6 167 k) (fun _ => True) (fun _ => by
    refine c6_167_48_2 ⟨fun _ => main2, fun h => ?_⟩
    rw [c7 _ hn, en, iN_lt (by omega) (by omega)] at h; omega) (fun k hk _ ih => by
    have k20 : k < 20 := by omega
    refine c6_167_48_2 ⟨fun h => ?_, fun h => ?_⟩
    · rw [c7 _ (by omega), en, iN_lt (by omega) (by omega)] at h; omega
    · rw [iN_nat (by omega), iN_one]
      refine ⟨b20 k20, b20 k20, tv_6 k k20, ⟨tv_6 k k20, tv_167 k k20⟩, ?_⟩
      rw [cT1_s (by decide) k20]
      exact ih trivial) 0 (Nat.zero_le _) trivial
  rw [cT1_0] at main
  exact w48_6_167 main
set_option maxRecDepth 20000 in
theorem w48_6_193 {σ : gS} {K : gK} (h : gE 48 2 [some (.ref 6), some (.ref 193), some (.int 0)] [] σ K) : gE 48 0 [some (.ref 6), some (.ref 193), none] [] σ K :=
  gw_run (cy := 48) (cuts := [2, 31, 78, 86, 94, 102, 110, 118, 126, 134, 142]) (inl := []) (pf := gpcq) gpcq_ok 400 (by decide) h
set_option maxRecDepth 20000 in
theorem c6_193_48_2 {σ : gS} {K : gK} {l2 : Int32} (h : ((¬ l2 < (σ 193 7) → gE 48 31 [some (.ref 6), some (.ref 193), some (.int 0)] [] σ K) ∧ (l2 < (σ 193 7) → (0 ≤ l2 ∧ l2 < 20) ∧ (0 ≤ l2 ∧ l2 < 20) ∧ gTv (6 + 2 + l2.toNatClampNeg) ∧ (gTv (6 + 2 + l2.toNatClampNeg) ∧ gTv (193 + 2 + l2.toNatClampNeg)) ∧ gE 48 2 [some (.ref 6), some (.ref 193), some (.int (l2 + 1))] [] (cTv σ (6 + 2 + l2.toNatClampNeg) (193 + 2 + l2.toNatClampNeg)) K))) : gE 48 2 [some (.ref 6), some (.ref 193), some (.int l2)] [] σ K :=
  gw_run (cy := 48) (cuts := [2, 31, 78, 86, 94, 102, 110, 118, 126, 134, 142]) (inl := []) (pf := gpcq) gpcq_ok 400 (by decide) h
set_option maxRecDepth 20000 in
theorem c6_193_48_31 {σ : gS} {K : gK} {l2 : Int32} (h : ((¬ l2 < 50 → gE 48 78 [some (.ref 6), some (.ref 193), some (.int l2)] [] (cLc σ 30 217) K) ∧ (l2 < 50 → ((¬ l2 < 50 → gE 48 78 [some (.ref 6), some (.ref 193), some (.int l2)] [] (cLc σ 30 217) K) ∧ (l2 < 50 → (0 ≤ l2 ∧ l2 < 50) ∧ (0 ≤ l2 ∧ l2 < 50) ∧ gE 48 31 [some (.ref 6), some (.ref 193), some (.int (l2 + 1))] [] (gup σ 29 l2.toNatClampNeg (σ 216 l2.toNatClampNeg)) K))))) : gE 48 31 [some (.ref 6), some (.ref 193), some (.int l2)] [] σ K :=
  gw_run (cy := 48) (cuts := [2, 31, 78, 86, 94, 102, 110, 118, 126, 134, 142]) (inl := []) (pf := gpcq) gpcq_ok 400 (by decide) h
set_option maxRecDepth 20000 in
theorem c6_193_48_78 {σ : gS} {K : gK} {l2 : Option Value} (h : gE 48 86 [some (.ref 6), some (.ref 193), l2] [] (gup σ 6 4 (σ 193 4)) K) : gE 48 78 [some (.ref 6), some (.ref 193), l2] [] σ K :=
  gw_run (cy := 48) (cuts := [2, 31, 78, 86, 94, 102, 110, 118, 126, 134, 142]) (inl := []) (pf := gpcq) gpcq_ok 400 (by decide) h
set_option maxRecDepth 20000 in
theorem c6_193_48_86 {σ : gS} {K : gK} {l2 : Option Value} (h : gE 48 94 [some (.ref 6), some (.ref 193), l2] [] (gup σ 6 5 (σ 193 5)) K) : gE 48 86 [some (.ref 6), some (.ref 193), l2] [] σ K :=
  gw_run (cy := 48) (cuts := [2, 31, 78, 86, 94, 102, 110, 118, 126, 134, 142]) (inl := []) (pf := gpcq) gpcq_ok 400 (by decide) h
set_option maxRecDepth 20000 in
theorem c6_193_48_94 {σ : gS} {K : gK} {l2 : Option Value} (h : gE 48 102 [some (.ref 6), some (.ref 193), l2] [] (gup σ 6 6 (σ 193 6)) K) : gE 48 94 [some (.ref 6), some (.ref 193), l2] [] σ K :=
  gw_run (cy := 48) (cuts := [2, 31, 78, 86, 94, 102, 110, 118, 126, 134, 142]) (inl := []) (pf := gpcq) gpcq_ok 400 (by decide) h
set_option maxRecDepth 20000 in
theorem c6_193_48_102 {σ : gS} {K : gK} {l2 : Option Value} (h : gE 48 110 [some (.ref 6), some (.ref 193), l2] [] (gup σ 6 7 (σ 193 7)) K) : gE 48 102 [some (.ref 6), some (.ref 193), l2] [] σ K :=
  gw_run (cy := 48) (cuts := [2, 31, 78, 86, 94, 102, 110, 118, 126, 134, 142]) (inl := []) (pf := gpcq) gpcq_ok 400 (by decide) h
set_option maxRecDepth 20000 in
theorem c6_193_48_110 {σ : gS} {K : gK} {l2 : Option Value} (h : gE 48 118 [some (.ref 6), some (.ref 193), l2] [] (gup σ 6 8 (σ 193 8)) K) : gE 48 110 [some (.ref 6), some (.ref 193), l2] [] σ K :=
  gw_run (cy := 48) (cuts := [2, 31, 78, 86, 94, 102, 110, 118, 126, 134, 142]) (inl := []) (pf := gpcq) gpcq_ok 400 (by decide) h
set_option maxRecDepth 20000 in
theorem c6_193_48_118 {σ : gS} {K : gK} {l2 : Option Value} (h : gE 48 126 [some (.ref 6), some (.ref 193), l2] [] (gup σ 6 9 (σ 193 9)) K) : gE 48 118 [some (.ref 6), some (.ref 193), l2] [] σ K :=
  gw_run (cy := 48) (cuts := [2, 31, 78, 86, 94, 102, 110, 118, 126, 134, 142]) (inl := []) (pf := gpcq) gpcq_ok 400 (by decide) h
set_option maxRecDepth 20000 in
theorem c6_193_48_126 {σ : gS} {K : gK} {l2 : Option Value} (h : gE 48 134 [some (.ref 6), some (.ref 193), l2] [] (gup σ 6 10 (σ 193 10)) K) : gE 48 126 [some (.ref 6), some (.ref 193), l2] [] σ K :=
  gw_run (cy := 48) (cuts := [2, 31, 78, 86, 94, 102, 110, 118, 126, 134, 142]) (inl := []) (pf := gpcq) gpcq_ok 400 (by decide) h
set_option maxRecDepth 20000 in
theorem c6_193_48_134 {σ : gS} {K : gK} {l2 : Option Value} (h : gE 48 142 [some (.ref 6), some (.ref 193), l2] [] (gup σ 6 11 (σ 193 11)) K) : gE 48 134 [some (.ref 6), some (.ref 193), l2] [] σ K :=
  gw_run (cy := 48) (cuts := [2, 31, 78, 86, 94, 102, 110, 118, 126, 134, 142]) (inl := []) (pf := gpcq) gpcq_ok 400 (by decide) h
set_option maxRecDepth 20000 in
theorem c6_193_48_142 {σ : gS} {K : gK} {l2 : Option Value} (h : K none (gup σ 6 12 (σ 193 12))) : gE 48 142 [some (.ref 6), some (.ref 193), l2] [] σ K :=
  gw_run (cy := 48) (cuts := [2, 31, 78, 86, 94, 102, 110, 118, 126, 134, 142]) (inl := []) (pf := gpcq) gpcq_ok 400 (by decide) h
theorem s48_6_193 {σ : gS} {K : gK} (hc : 0 ≤ σ 193 7 ∧ σ 193 7 ≤ 20) (hK : K none (cCo σ 6 193)) : gE 48 0 [some (.ref 6), some (.ref 193), none] [] σ K := by
  obtain ⟨en, hn⟩ : σ 193 7 = iN (σ 193 7).toNatClampNeg ∧ (σ 193 7).toNatClampNeg ≤ 20 := by
    obtain ⟨e, l⟩ := iN_of hc.1
    refine ⟨e, ?_⟩
    have h2 := hc.2
    rw [e] at h2
    exact (iN_le (m := 20) l (by decide)).mp h2
  unfold cCo at hK
  obtain ⟨n, hnn⟩ : ∃ n, (σ 193 7).toNatClampNeg = n := ⟨_, rfl⟩
  rw [hnn] at en hn hK
  have tail : ∀ u, gE 48 78 [some (.ref 6), some (.ref 193), u] [] (cLc (cA1 (cT1 σ 6 193 n) 29 216 50) 30 217) K := by
    intro u
    obtain ⟨τ, hτ⟩ : ∃ τ, cLc (cA1 (cT1 σ 6 193 n) 29 216 50) 30 217 = τ := ⟨_, rfl⟩
    have hK : K none (cHd τ 6 193 9) := by rw [← hτ]; exact hK
    rw [hτ]
    have hs : ∀ k, gup (cHd τ 6 193 k) 6 (4 + k) (cHd τ 6 193 k 193 (4 + k)) = cHd τ 6 193 (k + 1) := fun k => cHd_s (by decide)
    have h0 : gup τ 6 4 (τ 193 4) = cHd τ 6 193 1 := by
      have := hs 0
      rw [cHd_0] at this
      exact this
    refine c6_193_48_78 ?_
    rw [h0]
    refine c6_193_48_86 ?_
    rw [hs 1]
    refine c6_193_48_94 ?_
    rw [hs 2]
    refine c6_193_48_102 ?_
    rw [hs 3]
    refine c6_193_48_110 ?_
    rw [hs 4]
    refine c6_193_48_118 ?_
    rw [hs 5]
    refine c6_193_48_126 ?_
    rw [hs 6]
    refine c6_193_48_134 ?_
    rw [hs 7]
    refine c6_193_48_142 ?_
    rw [hs 8]
    exact hK
  have main2 : gE 48 31 [some (.ref 6), some (.ref 193), some (.int 0)] [] (cT1 σ 6 193 n) K := by
    have main := g_forI (y := 48) (pc := 31) (K := K) 50 (fun k => [some (.ref 6), some (.ref 193), some (.int (iN k))]) (fun k => cA1 (cT1 σ 6 193 n) 29 216 k) (fun _ => True) (fun _ => by
      refine c6_193_48_31 ⟨fun _ => tail _, fun h => absurd h (by decide)⟩) (fun k hk _ ih => by
      have bd : 0 ≤ iN k ∧ iN k < 50 := ⟨(iN_le (k := 0) (by decide) (by omega)).mpr (by omega), (iN_lt (m := 50) (by omega) (by decide)).mpr hk⟩
      refine c6_193_48_31 ⟨fun h => absurd bd.2 h, fun _ => ⟨fun h => absurd bd.2 h, fun _ => ⟨bd, bd, ?_⟩⟩⟩
      rw [iN_nat (by omega), cA1_s (by decide), iN_one]
      exact ih trivial) 0 (Nat.zero_le _) trivial
    rw [cA1_0] at main
    exact main
  have c7 : ∀ k, k ≤ 20 → cT1 σ 6 193 k 193 7 = σ 193 7 := fun k hk => by unfold cT1; rw [if_neg (by omega)]
  have main := g_forI (y := 48) (pc := 2) (K := K) n (fun k => [some (.ref 6), some (.ref 193), some (.int (iN k))]) (fun k => cT1 σ 6 193 k) (fun _ => True) (fun _ => by
    refine c6_193_48_2 ⟨fun _ => main2, fun h => ?_⟩
    rw [c7 _ hn, en, iN_lt (by omega) (by omega)] at h; omega) (fun k hk _ ih => by
    have k20 : k < 20 := by omega
    refine c6_193_48_2 ⟨fun h => ?_, fun h => ?_⟩
    · rw [c7 _ (by omega), en, iN_lt (by omega) (by omega)] at h; omega
    · rw [iN_nat (by omega), iN_one]
      refine ⟨b20 k20, b20 k20, tv_6 k k20, ⟨tv_6 k k20, tv_193 k k20⟩, ?_⟩
      rw [cT1_s (by decide) k20]
      exact ih trivial) 0 (Nat.zero_le _) trivial
  rw [cT1_0] at main
  exact w48_6_193 main
set_option maxRecDepth 20000 in
theorem w48_6_219 {σ : gS} {K : gK} (h : gE 48 2 [some (.ref 6), some (.ref 219), some (.int 0)] [] σ K) : gE 48 0 [some (.ref 6), some (.ref 219), none] [] σ K :=
  gw_run (cy := 48) (cuts := [2, 31, 78, 86, 94, 102, 110, 118, 126, 134, 142]) (inl := []) (pf := gpcq) gpcq_ok 400 (by decide) h
set_option maxRecDepth 20000 in
theorem c6_219_48_2 {σ : gS} {K : gK} {l2 : Int32} (h : ((¬ l2 < (σ 219 7) → gE 48 31 [some (.ref 6), some (.ref 219), some (.int 0)] [] σ K) ∧ (l2 < (σ 219 7) → (0 ≤ l2 ∧ l2 < 20) ∧ (0 ≤ l2 ∧ l2 < 20) ∧ gTv (6 + 2 + l2.toNatClampNeg) ∧ (gTv (6 + 2 + l2.toNatClampNeg) ∧ gTv (219 + 2 + l2.toNatClampNeg)) ∧ gE 48 2 [some (.ref 6), some (.ref 219), some (.int (l2 + 1))] [] (cTv σ (6 + 2 + l2.toNatClampNeg) (219 + 2 + l2.toNatClampNeg)) K))) : gE 48 2 [some (.ref 6), some (.ref 219), some (.int l2)] [] σ K :=
  gw_run (cy := 48) (cuts := [2, 31, 78, 86, 94, 102, 110, 118, 126, 134, 142]) (inl := []) (pf := gpcq) gpcq_ok 400 (by decide) h
set_option maxRecDepth 20000 in
theorem c6_219_48_31 {σ : gS} {K : gK} {l2 : Int32} (h : ((¬ l2 < 50 → gE 48 78 [some (.ref 6), some (.ref 219), some (.int l2)] [] (cLc σ 30 243) K) ∧ (l2 < 50 → ((¬ l2 < 50 → gE 48 78 [some (.ref 6), some (.ref 219), some (.int l2)] [] (cLc σ 30 243) K) ∧ (l2 < 50 → (0 ≤ l2 ∧ l2 < 50) ∧ (0 ≤ l2 ∧ l2 < 50) ∧ gE 48 31 [some (.ref 6), some (.ref 219), some (.int (l2 + 1))] [] (gup σ 29 l2.toNatClampNeg (σ 242 l2.toNatClampNeg)) K))))) : gE 48 31 [some (.ref 6), some (.ref 219), some (.int l2)] [] σ K :=
  gw_run (cy := 48) (cuts := [2, 31, 78, 86, 94, 102, 110, 118, 126, 134, 142]) (inl := []) (pf := gpcq) gpcq_ok 400 (by decide) h
set_option maxRecDepth 20000 in
theorem c6_219_48_78 {σ : gS} {K : gK} {l2 : Option Value} (h : gE 48 86 [some (.ref 6), some (.ref 219), l2] [] (gup σ 6 4 (σ 219 4)) K) : gE 48 78 [some (.ref 6), some (.ref 219), l2] [] σ K :=
  gw_run (cy := 48) (cuts := [2, 31, 78, 86, 94, 102, 110, 118, 126, 134, 142]) (inl := []) (pf := gpcq) gpcq_ok 400 (by decide) h
set_option maxRecDepth 20000 in
theorem c6_219_48_86 {σ : gS} {K : gK} {l2 : Option Value} (h : gE 48 94 [some (.ref 6), some (.ref 219), l2] [] (gup σ 6 5 (σ 219 5)) K) : gE 48 86 [some (.ref 6), some (.ref 219), l2] [] σ K :=
  gw_run (cy := 48) (cuts := [2, 31, 78, 86, 94, 102, 110, 118, 126, 134, 142]) (inl := []) (pf := gpcq) gpcq_ok 400 (by decide) h
set_option maxRecDepth 20000 in
theorem c6_219_48_94 {σ : gS} {K : gK} {l2 : Option Value} (h : gE 48 102 [some (.ref 6), some (.ref 219), l2] [] (gup σ 6 6 (σ 219 6)) K) : gE 48 94 [some (.ref 6), some (.ref 219), l2] [] σ K :=
  gw_run (cy := 48) (cuts := [2, 31, 78, 86, 94, 102, 110, 118, 126, 134, 142]) (inl := []) (pf := gpcq) gpcq_ok 400 (by decide) h
set_option maxRecDepth 20000 in
theorem c6_219_48_102 {σ : gS} {K : gK} {l2 : Option Value} (h : gE 48 110 [some (.ref 6), some (.ref 219), l2] [] (gup σ 6 7 (σ 219 7)) K) : gE 48 102 [some (.ref 6), some (.ref 219), l2] [] σ K :=
  gw_run (cy := 48) (cuts := [2, 31, 78, 86, 94, 102, 110, 118, 126, 134, 142]) (inl := []) (pf := gpcq) gpcq_ok 400 (by decide) h
set_option maxRecDepth 20000 in
theorem c6_219_48_110 {σ : gS} {K : gK} {l2 : Option Value} (h : gE 48 118 [some (.ref 6), some (.ref 219), l2] [] (gup σ 6 8 (σ 219 8)) K) : gE 48 110 [some (.ref 6), some (.ref 219), l2] [] σ K :=
  gw_run (cy := 48) (cuts := [2, 31, 78, 86, 94, 102, 110, 118, 126, 134, 142]) (inl := []) (pf := gpcq) gpcq_ok 400 (by decide) h
set_option maxRecDepth 20000 in
theorem c6_219_48_118 {σ : gS} {K : gK} {l2 : Option Value} (h : gE 48 126 [some (.ref 6), some (.ref 219), l2] [] (gup σ 6 9 (σ 219 9)) K) : gE 48 118 [some (.ref 6), some (.ref 219), l2] [] σ K :=
  gw_run (cy := 48) (cuts := [2, 31, 78, 86, 94, 102, 110, 118, 126, 134, 142]) (inl := []) (pf := gpcq) gpcq_ok 400 (by decide) h
set_option maxRecDepth 20000 in
theorem c6_219_48_126 {σ : gS} {K : gK} {l2 : Option Value} (h : gE 48 134 [some (.ref 6), some (.ref 219), l2] [] (gup σ 6 10 (σ 219 10)) K) : gE 48 126 [some (.ref 6), some (.ref 219), l2] [] σ K :=
  gw_run (cy := 48) (cuts := [2, 31, 78, 86, 94, 102, 110, 118, 126, 134, 142]) (inl := []) (pf := gpcq) gpcq_ok 400 (by decide) h
set_option maxRecDepth 20000 in
theorem c6_219_48_134 {σ : gS} {K : gK} {l2 : Option Value} (h : gE 48 142 [some (.ref 6), some (.ref 219), l2] [] (gup σ 6 11 (σ 219 11)) K) : gE 48 134 [some (.ref 6), some (.ref 219), l2] [] σ K :=
  gw_run (cy := 48) (cuts := [2, 31, 78, 86, 94, 102, 110, 118, 126, 134, 142]) (inl := []) (pf := gpcq) gpcq_ok 400 (by decide) h
set_option maxRecDepth 20000 in
theorem c6_219_48_142 {σ : gS} {K : gK} {l2 : Option Value} (h : K none (gup σ 6 12 (σ 219 12))) : gE 48 142 [some (.ref 6), some (.ref 219), l2] [] σ K :=
  gw_run (cy := 48) (cuts := [2, 31, 78, 86, 94, 102, 110, 118, 126, 134, 142]) (inl := []) (pf := gpcq) gpcq_ok 400 (by decide) h
theorem s48_6_219 {σ : gS} {K : gK} (hc : 0 ≤ σ 219 7 ∧ σ 219 7 ≤ 20) (hK : K none (cCo σ 6 219)) : gE 48 0 [some (.ref 6), some (.ref 219), none] [] σ K := by
  obtain ⟨en, hn⟩ : σ 219 7 = iN (σ 219 7).toNatClampNeg ∧ (σ 219 7).toNatClampNeg ≤ 20 := by
    obtain ⟨e, l⟩ := iN_of hc.1
    refine ⟨e, ?_⟩
    have h2 := hc.2
    rw [e] at h2
    exact (iN_le (m := 20) l (by decide)).mp h2
  unfold cCo at hK
  obtain ⟨n, hnn⟩ : ∃ n, (σ 219 7).toNatClampNeg = n := ⟨_, rfl⟩
  rw [hnn] at en hn hK
  have tail : ∀ u, gE 48 78 [some (.ref 6), some (.ref 219), u] [] (cLc (cA1 (cT1 σ 6 219 n) 29 242 50) 30 243) K := by
    intro u
    obtain ⟨τ, hτ⟩ : ∃ τ, cLc (cA1 (cT1 σ 6 219 n) 29 242 50) 30 243 = τ := ⟨_, rfl⟩
    have hK : K none (cHd τ 6 219 9) := by rw [← hτ]; exact hK
    rw [hτ]
    have hs : ∀ k, gup (cHd τ 6 219 k) 6 (4 + k) (cHd τ 6 219 k 219 (4 + k)) = cHd τ 6 219 (k + 1) := fun k => cHd_s (by decide)
    have h0 : gup τ 6 4 (τ 219 4) = cHd τ 6 219 1 := by
      have := hs 0
      rw [cHd_0] at this
      exact this
    refine c6_219_48_78 ?_
    rw [h0]
    refine c6_219_48_86 ?_
    rw [hs 1]
    refine c6_219_48_94 ?_
    rw [hs 2]
    refine c6_219_48_102 ?_
    rw [hs 3]
    refine c6_219_48_110 ?_
    rw [hs 4]
    refine c6_219_48_118 ?_
    rw [hs 5]
    refine c6_219_48_126 ?_
    rw [hs 6]
    refine c6_219_48_134 ?_
    rw [hs 7]
    refine c6_219_48_142 ?_
    rw [hs 8]
    exact hK
  have main2 : gE 48 31 [some (.ref 6), some (.ref 219), some (.int 0)] [] (cT1 σ 6 219 n) K := by
    have main := g_forI (y := 48) (pc := 31) (K := K) 50 (fun k => [some (.ref 6), some (.ref 219), some (.int (iN k))]) (fun k => cA1 (cT1 σ 6 219 n) 29 242 k) (fun _ => True) (fun _ => by
      refine c6_219_48_31 ⟨fun _ => tail _, fun h => absurd h (by decide)⟩) (fun k hk _ ih => by
      have bd : 0 ≤ iN k ∧ iN k < 50 := ⟨(iN_le (k := 0) (by decide) (by omega)).mpr (by omega), (iN_lt (m := 50) (by omega) (by decide)).mpr hk⟩
      refine c6_219_48_31 ⟨fun h => absurd bd.2 h, fun _ => ⟨fun h => absurd bd.2 h, fun _ => ⟨bd, bd, ?_⟩⟩⟩
      rw [iN_nat (by omega), cA1_s (by decide), iN_one]
      exact ih trivial) 0 (Nat.zero_le _) trivial
    rw [cA1_0] at main
    exact main
  have c7 : ∀ k, k ≤ 20 → cT1 σ 6 219 k 219 7 = σ 219 7 := fun k hk => by unfold cT1; rw [if_neg (by omega)]
  have main := g_forI (y := 48) (pc := 2) (K := K) n (fun k => [some (.ref 6), some (.ref 219), some (.int (iN k))]) (fun k => cT1 σ 6 219 k) (fun _ => True) (fun _ => by
    refine c6_219_48_2 ⟨fun _ => main2, fun h => ?_⟩
    rw [c7 _ hn, en, iN_lt (by omega) (by omega)] at h; omega) (fun k hk _ ih => by
    have k20 : k < 20 := by omega
    refine c6_219_48_2 ⟨fun h => ?_, fun h => ?_⟩
    · rw [c7 _ (by omega), en, iN_lt (by omega) (by omega)] at h; omega
    · rw [iN_nat (by omega), iN_one]
      refine ⟨b20 k20, b20 k20, tv_6 k k20, ⟨tv_6 k k20, tv_219 k k20⟩, ?_⟩
      rw [cT1_s (by decide) k20]
      exact ih trivial) 0 (Nat.zero_le _) trivial
  rw [cT1_0] at main
  exact w48_6_219 main
set_option maxRecDepth 20000 in
theorem w48_6_245 {σ : gS} {K : gK} (h : gE 48 2 [some (.ref 6), some (.ref 245), some (.int 0)] [] σ K) : gE 48 0 [some (.ref 6), some (.ref 245), none] [] σ K :=
  gw_run (cy := 48) (cuts := [2, 31, 78, 86, 94, 102, 110, 118, 126, 134, 142]) (inl := []) (pf := gpcq) gpcq_ok 400 (by decide) h
set_option maxRecDepth 20000 in
theorem c6_245_48_2 {σ : gS} {K : gK} {l2 : Int32} (h : ((¬ l2 < (σ 245 7) → gE 48 31 [some (.ref 6), some (.ref 245), some (.int 0)] [] σ K) ∧ (l2 < (σ 245 7) → (0 ≤ l2 ∧ l2 < 20) ∧ (0 ≤ l2 ∧ l2 < 20) ∧ gTv (6 + 2 + l2.toNatClampNeg) ∧ (gTv (6 + 2 + l2.toNatClampNeg) ∧ gTv (245 + 2 + l2.toNatClampNeg)) ∧ gE 48 2 [some (.ref 6), some (.ref 245), some (.int (l2 + 1))] [] (cTv σ (6 + 2 + l2.toNatClampNeg) (245 + 2 + l2.toNatClampNeg)) K))) : gE 48 2 [some (.ref 6), some (.ref 245), some (.int l2)] [] σ K :=
  gw_run (cy := 48) (cuts := [2, 31, 78, 86, 94, 102, 110, 118, 126, 134, 142]) (inl := []) (pf := gpcq) gpcq_ok 400 (by decide) h
set_option maxRecDepth 20000 in
theorem c6_245_48_31 {σ : gS} {K : gK} {l2 : Int32} (h : ((¬ l2 < 50 → gE 48 78 [some (.ref 6), some (.ref 245), some (.int l2)] [] (cLc σ 30 269) K) ∧ (l2 < 50 → ((¬ l2 < 50 → gE 48 78 [some (.ref 6), some (.ref 245), some (.int l2)] [] (cLc σ 30 269) K) ∧ (l2 < 50 → (0 ≤ l2 ∧ l2 < 50) ∧ (0 ≤ l2 ∧ l2 < 50) ∧ gE 48 31 [some (.ref 6), some (.ref 245), some (.int (l2 + 1))] [] (gup σ 29 l2.toNatClampNeg (σ 268 l2.toNatClampNeg)) K))))) : gE 48 31 [some (.ref 6), some (.ref 245), some (.int l2)] [] σ K :=
  gw_run (cy := 48) (cuts := [2, 31, 78, 86, 94, 102, 110, 118, 126, 134, 142]) (inl := []) (pf := gpcq) gpcq_ok 400 (by decide) h
set_option maxRecDepth 20000 in
theorem c6_245_48_78 {σ : gS} {K : gK} {l2 : Option Value} (h : gE 48 86 [some (.ref 6), some (.ref 245), l2] [] (gup σ 6 4 (σ 245 4)) K) : gE 48 78 [some (.ref 6), some (.ref 245), l2] [] σ K :=
  gw_run (cy := 48) (cuts := [2, 31, 78, 86, 94, 102, 110, 118, 126, 134, 142]) (inl := []) (pf := gpcq) gpcq_ok 400 (by decide) h
set_option maxRecDepth 20000 in
theorem c6_245_48_86 {σ : gS} {K : gK} {l2 : Option Value} (h : gE 48 94 [some (.ref 6), some (.ref 245), l2] [] (gup σ 6 5 (σ 245 5)) K) : gE 48 86 [some (.ref 6), some (.ref 245), l2] [] σ K :=
  gw_run (cy := 48) (cuts := [2, 31, 78, 86, 94, 102, 110, 118, 126, 134, 142]) (inl := []) (pf := gpcq) gpcq_ok 400 (by decide) h
set_option maxRecDepth 20000 in
theorem c6_245_48_94 {σ : gS} {K : gK} {l2 : Option Value} (h : gE 48 102 [some (.ref 6), some (.ref 245), l2] [] (gup σ 6 6 (σ 245 6)) K) : gE 48 94 [some (.ref 6), some (.ref 245), l2] [] σ K :=
  gw_run (cy := 48) (cuts := [2, 31, 78, 86, 94, 102, 110, 118, 126, 134, 142]) (inl := []) (pf := gpcq) gpcq_ok 400 (by decide) h
set_option maxRecDepth 20000 in
theorem c6_245_48_102 {σ : gS} {K : gK} {l2 : Option Value} (h : gE 48 110 [some (.ref 6), some (.ref 245), l2] [] (gup σ 6 7 (σ 245 7)) K) : gE 48 102 [some (.ref 6), some (.ref 245), l2] [] σ K :=
  gw_run (cy := 48) (cuts := [2, 31, 78, 86, 94, 102, 110, 118, 126, 134, 142]) (inl := []) (pf := gpcq) gpcq_ok 400 (by decide) h
set_option maxRecDepth 20000 in
theorem c6_245_48_110 {σ : gS} {K : gK} {l2 : Option Value} (h : gE 48 118 [some (.ref 6), some (.ref 245), l2] [] (gup σ 6 8 (σ 245 8)) K) : gE 48 110 [some (.ref 6), some (.ref 245), l2] [] σ K :=
  gw_run (cy := 48) (cuts := [2, 31, 78, 86, 94, 102, 110, 118, 126, 134, 142]) (inl := []) (pf := gpcq) gpcq_ok 400 (by decide) h
set_option maxRecDepth 20000 in
theorem c6_245_48_118 {σ : gS} {K : gK} {l2 : Option Value} (h : gE 48 126 [some (.ref 6), some (.ref 245), l2] [] (gup σ 6 9 (σ 245 9)) K) : gE 48 118 [some (.ref 6), some (.ref 245), l2] [] σ K :=
  gw_run (cy := 48) (cuts := [2, 31, 78, 86, 94, 102, 110, 118, 126, 134, 142]) (inl := []) (pf := gpcq) gpcq_ok 400 (by decide) h
set_option maxRecDepth 20000 in
theorem c6_245_48_126 {σ : gS} {K : gK} {l2 : Option Value} (h : gE 48 134 [some (.ref 6), some (.ref 245), l2] [] (gup σ 6 10 (σ 245 10)) K) : gE 48 126 [some (.ref 6), some (.ref 245), l2] [] σ K :=
  gw_run (cy := 48) (cuts := [2, 31, 78, 86, 94, 102, 110, 118, 126, 134, 142]) (inl := []) (pf := gpcq) gpcq_ok 400 (by decide) h
set_option maxRecDepth 20000 in
theorem c6_245_48_134 {σ : gS} {K : gK} {l2 : Option Value} (h : gE 48 142 [some (.ref 6), some (.ref 245), l2] [] (gup σ 6 11 (σ 245 11)) K) : gE 48 134 [some (.ref 6), some (.ref 245), l2] [] σ K :=
  gw_run (cy := 48) (cuts := [2, 31, 78, 86, 94, 102, 110, 118, 126, 134, 142]) (inl := []) (pf := gpcq) gpcq_ok 400 (by decide) h
set_option maxRecDepth 20000 in
theorem c6_245_48_142 {σ : gS} {K : gK} {l2 : Option Value} (h : K none (gup σ 6 12 (σ 245 12))) : gE 48 142 [some (.ref 6), some (.ref 245), l2] [] σ K :=
  gw_run (cy := 48) (cuts := [2, 31, 78, 86, 94, 102, 110, 118, 126, 134, 142]) (inl := []) (pf := gpcq) gpcq_ok 400 (by decide) h
theorem s48_6_245 {σ : gS} {K : gK} (hc : 0 ≤ σ 245 7 ∧ σ 245 7 ≤ 20) (hK : K none (cCo σ 6 245)) : gE 48 0 [some (.ref 6), some (.ref 245), none] [] σ K := by
  obtain ⟨en, hn⟩ : σ 245 7 = iN (σ 245 7).toNatClampNeg ∧ (σ 245 7).toNatClampNeg ≤ 20 := by
    obtain ⟨e, l⟩ := iN_of hc.1
    refine ⟨e, ?_⟩
    have h2 := hc.2
    rw [e] at h2
    exact (iN_le (m := 20) l (by decide)).mp h2
  unfold cCo at hK
  obtain ⟨n, hnn⟩ : ∃ n, (σ 245 7).toNatClampNeg = n := ⟨_, rfl⟩
  rw [hnn] at en hn hK
  have tail : ∀ u, gE 48 78 [some (.ref 6), some (.ref 245), u] [] (cLc (cA1 (cT1 σ 6 245 n) 29 268 50) 30 269) K := by
    intro u
    obtain ⟨τ, hτ⟩ : ∃ τ, cLc (cA1 (cT1 σ 6 245 n) 29 268 50) 30 269 = τ := ⟨_, rfl⟩
    have hK : K none (cHd τ 6 245 9) := by rw [← hτ]; exact hK
    rw [hτ]
    have hs : ∀ k, gup (cHd τ 6 245 k) 6 (4 + k) (cHd τ 6 245 k 245 (4 + k)) = cHd τ 6 245 (k + 1) := fun k => cHd_s (by decide)
    have h0 : gup τ 6 4 (τ 245 4) = cHd τ 6 245 1 := by
      have := hs 0
      rw [cHd_0] at this
      exact this
    refine c6_245_48_78 ?_
    rw [h0]
    refine c6_245_48_86 ?_
    rw [hs 1]
    refine c6_245_48_94 ?_
    rw [hs 2]
    refine c6_245_48_102 ?_
    rw [hs 3]
    refine c6_245_48_110 ?_
    rw [hs 4]
    refine c6_245_48_118 ?_
    rw [hs 5]
    refine c6_245_48_126 ?_
    rw [hs 6]
    refine c6_245_48_134 ?_
    rw [hs 7]
    refine c6_245_48_142 ?_
    rw [hs 8]
    exact hK
  have main2 : gE 48 31 [some (.ref 6), some (.ref 245), some (.int 0)] [] (cT1 σ 6 245 n) K := by
    have main := g_forI (y := 48) (pc := 31) (K := K) 50 (fun k => [some (.ref 6), some (.ref 245), some (.int (iN k))]) (fun k => cA1 (cT1 σ 6 245 n) 29 268 k) (fun _ => True) (fun _ => by
      refine c6_245_48_31 ⟨fun _ => tail _, fun h => absurd h (by decide)⟩) (fun k hk _ ih => by
      have bd : 0 ≤ iN k ∧ iN k < 50 := ⟨(iN_le (k := 0) (by decide) (by omega)).mpr (by omega), (iN_lt (m := 50) (by omega) (by decide)).mpr hk⟩
      refine c6_245_48_31 ⟨fun h => absurd bd.2 h, fun _ => ⟨fun h => absurd bd.2 h, fun _ => ⟨bd, bd, ?_⟩⟩⟩
      rw [iN_nat (by omega), cA1_s (by decide), iN_one]
      exact ih trivial) 0 (Nat.zero_le _) trivial
    rw [cA1_0] at main
    exact main
  have c7 : ∀ k, k ≤ 20 → cT1 σ 6 245 k 245 7 = σ 245 7 := fun k hk => by unfold cT1; rw [if_neg (by omega)]
  have main := g_forI (y := 48) (pc := 2) (K := K) n (fun k => [some (.ref 6), some (.ref 245), some (.int (iN k))]) (fun k => cT1 σ 6 245 k) (fun _ => True) (fun _ => by
    refine c6_245_48_2 ⟨fun _ => main2, fun h => ?_⟩
    rw [c7 _ hn, en, iN_lt (by omega) (by omega)] at h; omega) (fun k hk _ ih => by
    have k20 : k < 20 := by omega
    refine c6_245_48_2 ⟨fun h => ?_, fun h => ?_⟩
    · rw [c7 _ (by omega), en, iN_lt (by omega) (by omega)] at h; omega
    · rw [iN_nat (by omega), iN_one]
      refine ⟨b20 k20, b20 k20, tv_6 k k20, ⟨tv_6 k k20, tv_245 k k20⟩, ?_⟩
      rw [cT1_s (by decide) k20]
      exact ih trivial) 0 (Nat.zero_le _) trivial
  rw [cT1_0] at main
  exact w48_6_245 main
set_option maxRecDepth 20000 in
theorem w48_6_271 {σ : gS} {K : gK} (h : gE 48 2 [some (.ref 6), some (.ref 271), some (.int 0)] [] σ K) : gE 48 0 [some (.ref 6), some (.ref 271), none] [] σ K :=
  gw_run (cy := 48) (cuts := [2, 31, 78, 86, 94, 102, 110, 118, 126, 134, 142]) (inl := []) (pf := gpcq) gpcq_ok 400 (by decide) h
set_option maxRecDepth 20000 in
theorem c6_271_48_2 {σ : gS} {K : gK} {l2 : Int32} (h : ((¬ l2 < (σ 271 7) → gE 48 31 [some (.ref 6), some (.ref 271), some (.int 0)] [] σ K) ∧ (l2 < (σ 271 7) → (0 ≤ l2 ∧ l2 < 20) ∧ (0 ≤ l2 ∧ l2 < 20) ∧ gTv (6 + 2 + l2.toNatClampNeg) ∧ (gTv (6 + 2 + l2.toNatClampNeg) ∧ gTv (271 + 2 + l2.toNatClampNeg)) ∧ gE 48 2 [some (.ref 6), some (.ref 271), some (.int (l2 + 1))] [] (cTv σ (6 + 2 + l2.toNatClampNeg) (271 + 2 + l2.toNatClampNeg)) K))) : gE 48 2 [some (.ref 6), some (.ref 271), some (.int l2)] [] σ K :=
  gw_run (cy := 48) (cuts := [2, 31, 78, 86, 94, 102, 110, 118, 126, 134, 142]) (inl := []) (pf := gpcq) gpcq_ok 400 (by decide) h
set_option maxRecDepth 20000 in
theorem c6_271_48_31 {σ : gS} {K : gK} {l2 : Int32} (h : ((¬ l2 < 50 → gE 48 78 [some (.ref 6), some (.ref 271), some (.int l2)] [] (cLc σ 30 295) K) ∧ (l2 < 50 → ((¬ l2 < 50 → gE 48 78 [some (.ref 6), some (.ref 271), some (.int l2)] [] (cLc σ 30 295) K) ∧ (l2 < 50 → (0 ≤ l2 ∧ l2 < 50) ∧ (0 ≤ l2 ∧ l2 < 50) ∧ gE 48 31 [some (.ref 6), some (.ref 271), some (.int (l2 + 1))] [] (gup σ 29 l2.toNatClampNeg (σ 294 l2.toNatClampNeg)) K))))) : gE 48 31 [some (.ref 6), some (.ref 271), some (.int l2)] [] σ K :=
  gw_run (cy := 48) (cuts := [2, 31, 78, 86, 94, 102, 110, 118, 126, 134, 142]) (inl := []) (pf := gpcq) gpcq_ok 400 (by decide) h
set_option maxRecDepth 20000 in
theorem c6_271_48_78 {σ : gS} {K : gK} {l2 : Option Value} (h : gE 48 86 [some (.ref 6), some (.ref 271), l2] [] (gup σ 6 4 (σ 271 4)) K) : gE 48 78 [some (.ref 6), some (.ref 271), l2] [] σ K :=
  gw_run (cy := 48) (cuts := [2, 31, 78, 86, 94, 102, 110, 118, 126, 134, 142]) (inl := []) (pf := gpcq) gpcq_ok 400 (by decide) h
set_option maxRecDepth 20000 in
theorem c6_271_48_86 {σ : gS} {K : gK} {l2 : Option Value} (h : gE 48 94 [some (.ref 6), some (.ref 271), l2] [] (gup σ 6 5 (σ 271 5)) K) : gE 48 86 [some (.ref 6), some (.ref 271), l2] [] σ K :=
  gw_run (cy := 48) (cuts := [2, 31, 78, 86, 94, 102, 110, 118, 126, 134, 142]) (inl := []) (pf := gpcq) gpcq_ok 400 (by decide) h
set_option maxRecDepth 20000 in
theorem c6_271_48_94 {σ : gS} {K : gK} {l2 : Option Value} (h : gE 48 102 [some (.ref 6), some (.ref 271), l2] [] (gup σ 6 6 (σ 271 6)) K) : gE 48 94 [some (.ref 6), some (.ref 271), l2] [] σ K :=
  gw_run (cy := 48) (cuts := [2, 31, 78, 86, 94, 102, 110, 118, 126, 134, 142]) (inl := []) (pf := gpcq) gpcq_ok 400 (by decide) h
set_option maxRecDepth 20000 in
theorem c6_271_48_102 {σ : gS} {K : gK} {l2 : Option Value} (h : gE 48 110 [some (.ref 6), some (.ref 271), l2] [] (gup σ 6 7 (σ 271 7)) K) : gE 48 102 [some (.ref 6), some (.ref 271), l2] [] σ K :=
  gw_run (cy := 48) (cuts := [2, 31, 78, 86, 94, 102, 110, 118, 126, 134, 142]) (inl := []) (pf := gpcq) gpcq_ok 400 (by decide) h
set_option maxRecDepth 20000 in
theorem c6_271_48_110 {σ : gS} {K : gK} {l2 : Option Value} (h : gE 48 118 [some (.ref 6), some (.ref 271), l2] [] (gup σ 6 8 (σ 271 8)) K) : gE 48 110 [some (.ref 6), some (.ref 271), l2] [] σ K :=
  gw_run (cy := 48) (cuts := [2, 31, 78, 86, 94, 102, 110, 118, 126, 134, 142]) (inl := []) (pf := gpcq) gpcq_ok 400 (by decide) h
set_option maxRecDepth 20000 in
theorem c6_271_48_118 {σ : gS} {K : gK} {l2 : Option Value} (h : gE 48 126 [some (.ref 6), some (.ref 271), l2] [] (gup σ 6 9 (σ 271 9)) K) : gE 48 118 [some (.ref 6), some (.ref 271), l2] [] σ K :=
  gw_run (cy := 48) (cuts := [2, 31, 78, 86, 94, 102, 110, 118, 126, 134, 142]) (inl := []) (pf := gpcq) gpcq_ok 400 (by decide) h
set_option maxRecDepth 20000 in
theorem c6_271_48_126 {σ : gS} {K : gK} {l2 : Option Value} (h : gE 48 134 [some (.ref 6), some (.ref 271), l2] [] (gup σ 6 10 (σ 271 10)) K) : gE 48 126 [some (.ref 6), some (.ref 271), l2] [] σ K :=
  gw_run (cy := 48) (cuts := [2, 31, 78, 86, 94, 102, 110, 118, 126, 134, 142]) (inl := []) (pf := gpcq) gpcq_ok 400 (by decide) h
set_option maxRecDepth 20000 in
theorem c6_271_48_134 {σ : gS} {K : gK} {l2 : Option Value} (h : gE 48 142 [some (.ref 6), some (.ref 271), l2] [] (gup σ 6 11 (σ 271 11)) K) : gE 48 134 [some (.ref 6), some (.ref 271), l2] [] σ K :=
  gw_run (cy := 48) (cuts := [2, 31, 78, 86, 94, 102, 110, 118, 126, 134, 142]) (inl := []) (pf := gpcq) gpcq_ok 400 (by decide) h
set_option maxRecDepth 20000 in
theorem c6_271_48_142 {σ : gS} {K : gK} {l2 : Option Value} (h : K none (gup σ 6 12 (σ 271 12))) : gE 48 142 [some (.ref 6), some (.ref 271), l2] [] σ K :=
  gw_run (cy := 48) (cuts := [2, 31, 78, 86, 94, 102, 110, 118, 126, 134, 142]) (inl := []) (pf := gpcq) gpcq_ok 400 (by decide) h
theorem s48_6_271 {σ : gS} {K : gK} (hc : 0 ≤ σ 271 7 ∧ σ 271 7 ≤ 20) (hK : K none (cCo σ 6 271)) : gE 48 0 [some (.ref 6), some (.ref 271), none] [] σ K := by
  obtain ⟨en, hn⟩ : σ 271 7 = iN (σ 271 7).toNatClampNeg ∧ (σ 271 7).toNatClampNeg ≤ 20 := by
    obtain ⟨e, l⟩ := iN_of hc.1
    refine ⟨e, ?_⟩
    have h2 := hc.2
    rw [e] at h2
    exact (iN_le (m := 20) l (by decide)).mp h2
  unfold cCo at hK
  obtain ⟨n, hnn⟩ : ∃ n, (σ 271 7).toNatClampNeg = n := ⟨_, rfl⟩
  rw [hnn] at en hn hK
  have tail : ∀ u, gE 48 78 [some (.ref 6), some (.ref 271), u] [] (cLc (cA1 (cT1 σ 6 271 n) 29 294 50) 30 295) K := by
    intro u
    obtain ⟨τ, hτ⟩ : ∃ τ, cLc (cA1 (cT1 σ 6 271 n) 29 294 50) 30 295 = τ := ⟨_, rfl⟩
    have hK : K none (cHd τ 6 271 9) := by rw [← hτ]; exact hK
    rw [hτ]
    have hs : ∀ k, gup (cHd τ 6 271 k) 6 (4 + k) (cHd τ 6 271 k 271 (4 + k)) = cHd τ 6 271 (k + 1) := fun k => cHd_s (by decide)
    have h0 : gup τ 6 4 (τ 271 4) = cHd τ 6 271 1 := by
      have := hs 0
      rw [cHd_0] at this
      exact this
    refine c6_271_48_78 ?_
    rw [h0]
    refine c6_271_48_86 ?_
    rw [hs 1]
    refine c6_271_48_94 ?_
    rw [hs 2]
    refine c6_271_48_102 ?_
    rw [hs 3]
    refine c6_271_48_110 ?_
    rw [hs 4]
    refine c6_271_48_118 ?_
    rw [hs 5]
    refine c6_271_48_126 ?_
    rw [hs 6]
    refine c6_271_48_134 ?_
    rw [hs 7]
    refine c6_271_48_142 ?_
    rw [hs 8]
    exact hK
  have main2 : gE 48 31 [some (.ref 6), some (.ref 271), some (.int 0)] [] (cT1 σ 6 271 n) K := by
    have main := g_forI (y := 48) (pc := 31) (K := K) 50 (fun k => [some (.ref 6), some (.ref 271), some (.int (iN k))]) (fun k => cA1 (cT1 σ 6 271 n) 29 294 k) (fun _ => True) (fun _ => by
      refine c6_271_48_31 ⟨fun _ => tail _, fun h => absurd h (by decide)⟩) (fun k hk _ ih => by
      have bd : 0 ≤ iN k ∧ iN k < 50 := ⟨(iN_le (k := 0) (by decide) (by omega)).mpr (by omega), (iN_lt (m := 50) (by omega) (by decide)).mpr hk⟩
      refine c6_271_48_31 ⟨fun h => absurd bd.2 h, fun _ => ⟨fun h => absurd bd.2 h, fun _ => ⟨bd, bd, ?_⟩⟩⟩
      rw [iN_nat (by omega), cA1_s (by decide), iN_one]
      exact ih trivial) 0 (Nat.zero_le _) trivial
    rw [cA1_0] at main
    exact main
  have c7 : ∀ k, k ≤ 20 → cT1 σ 6 271 k 271 7 = σ 271 7 := fun k hk => by unfold cT1; rw [if_neg (by omega)]
  have main := g_forI (y := 48) (pc := 2) (K := K) n (fun k => [some (.ref 6), some (.ref 271), some (.int (iN k))]) (fun k => cT1 σ 6 271 k) (fun _ => True) (fun _ => by
    refine c6_271_48_2 ⟨fun _ => main2, fun h => ?_⟩
    rw [c7 _ hn, en, iN_lt (by omega) (by omega)] at h; omega) (fun k hk _ ih => by
    have k20 : k < 20 := by omega
    refine c6_271_48_2 ⟨fun h => ?_, fun h => ?_⟩
    · rw [c7 _ (by omega), en, iN_lt (by omega) (by omega)] at h; omega
    · rw [iN_nat (by omega), iN_one]
      refine ⟨b20 k20, b20 k20, tv_6 k k20, ⟨tv_6 k k20, tv_271 k k20⟩, ?_⟩
      rw [cT1_s (by decide) k20]
      exact ih trivial) 0 (Nat.zero_le _) trivial
  rw [cT1_0] at main
  exact w48_6_271 main
set_option maxRecDepth 20000 in
theorem w48_6_297 {σ : gS} {K : gK} (h : gE 48 2 [some (.ref 6), some (.ref 297), some (.int 0)] [] σ K) : gE 48 0 [some (.ref 6), some (.ref 297), none] [] σ K :=
  gw_run (cy := 48) (cuts := [2, 31, 78, 86, 94, 102, 110, 118, 126, 134, 142]) (inl := []) (pf := gpcq) gpcq_ok 400 (by decide) h
set_option maxRecDepth 20000 in
theorem c6_297_48_2 {σ : gS} {K : gK} {l2 : Int32} (h : ((¬ l2 < (σ 297 7) → gE 48 31 [some (.ref 6), some (.ref 297), some (.int 0)] [] σ K) ∧ (l2 < (σ 297 7) → (0 ≤ l2 ∧ l2 < 20) ∧ (0 ≤ l2 ∧ l2 < 20) ∧ gTv (6 + 2 + l2.toNatClampNeg) ∧ (gTv (6 + 2 + l2.toNatClampNeg) ∧ gTv (297 + 2 + l2.toNatClampNeg)) ∧ gE 48 2 [some (.ref 6), some (.ref 297), some (.int (l2 + 1))] [] (cTv σ (6 + 2 + l2.toNatClampNeg) (297 + 2 + l2.toNatClampNeg)) K))) : gE 48 2 [some (.ref 6), some (.ref 297), some (.int l2)] [] σ K :=
  gw_run (cy := 48) (cuts := [2, 31, 78, 86, 94, 102, 110, 118, 126, 134, 142]) (inl := []) (pf := gpcq) gpcq_ok 400 (by decide) h
set_option maxRecDepth 20000 in
theorem c6_297_48_31 {σ : gS} {K : gK} {l2 : Int32} (h : ((¬ l2 < 50 → gE 48 78 [some (.ref 6), some (.ref 297), some (.int l2)] [] (cLc σ 30 321) K) ∧ (l2 < 50 → ((¬ l2 < 50 → gE 48 78 [some (.ref 6), some (.ref 297), some (.int l2)] [] (cLc σ 30 321) K) ∧ (l2 < 50 → (0 ≤ l2 ∧ l2 < 50) ∧ (0 ≤ l2 ∧ l2 < 50) ∧ gE 48 31 [some (.ref 6), some (.ref 297), some (.int (l2 + 1))] [] (gup σ 29 l2.toNatClampNeg (σ 320 l2.toNatClampNeg)) K))))) : gE 48 31 [some (.ref 6), some (.ref 297), some (.int l2)] [] σ K :=
  gw_run (cy := 48) (cuts := [2, 31, 78, 86, 94, 102, 110, 118, 126, 134, 142]) (inl := []) (pf := gpcq) gpcq_ok 400 (by decide) h
set_option maxRecDepth 20000 in
theorem c6_297_48_78 {σ : gS} {K : gK} {l2 : Option Value} (h : gE 48 86 [some (.ref 6), some (.ref 297), l2] [] (gup σ 6 4 (σ 297 4)) K) : gE 48 78 [some (.ref 6), some (.ref 297), l2] [] σ K :=
  gw_run (cy := 48) (cuts := [2, 31, 78, 86, 94, 102, 110, 118, 126, 134, 142]) (inl := []) (pf := gpcq) gpcq_ok 400 (by decide) h
set_option maxRecDepth 20000 in
theorem c6_297_48_86 {σ : gS} {K : gK} {l2 : Option Value} (h : gE 48 94 [some (.ref 6), some (.ref 297), l2] [] (gup σ 6 5 (σ 297 5)) K) : gE 48 86 [some (.ref 6), some (.ref 297), l2] [] σ K :=
  gw_run (cy := 48) (cuts := [2, 31, 78, 86, 94, 102, 110, 118, 126, 134, 142]) (inl := []) (pf := gpcq) gpcq_ok 400 (by decide) h
set_option maxRecDepth 20000 in
theorem c6_297_48_94 {σ : gS} {K : gK} {l2 : Option Value} (h : gE 48 102 [some (.ref 6), some (.ref 297), l2] [] (gup σ 6 6 (σ 297 6)) K) : gE 48 94 [some (.ref 6), some (.ref 297), l2] [] σ K :=
  gw_run (cy := 48) (cuts := [2, 31, 78, 86, 94, 102, 110, 118, 126, 134, 142]) (inl := []) (pf := gpcq) gpcq_ok 400 (by decide) h
set_option maxRecDepth 20000 in
theorem c6_297_48_102 {σ : gS} {K : gK} {l2 : Option Value} (h : gE 48 110 [some (.ref 6), some (.ref 297), l2] [] (gup σ 6 7 (σ 297 7)) K) : gE 48 102 [some (.ref 6), some (.ref 297), l2] [] σ K :=
  gw_run (cy := 48) (cuts := [2, 31, 78, 86, 94, 102, 110, 118, 126, 134, 142]) (inl := []) (pf := gpcq) gpcq_ok 400 (by decide) h
set_option maxRecDepth 20000 in
theorem c6_297_48_110 {σ : gS} {K : gK} {l2 : Option Value} (h : gE 48 118 [some (.ref 6), some (.ref 297), l2] [] (gup σ 6 8 (σ 297 8)) K) : gE 48 110 [some (.ref 6), some (.ref 297), l2] [] σ K :=
  gw_run (cy := 48) (cuts := [2, 31, 78, 86, 94, 102, 110, 118, 126, 134, 142]) (inl := []) (pf := gpcq) gpcq_ok 400 (by decide) h
set_option maxRecDepth 20000 in
theorem c6_297_48_118 {σ : gS} {K : gK} {l2 : Option Value} (h : gE 48 126 [some (.ref 6), some (.ref 297), l2] [] (gup σ 6 9 (σ 297 9)) K) : gE 48 118 [some (.ref 6), some (.ref 297), l2] [] σ K :=
  gw_run (cy := 48) (cuts := [2, 31, 78, 86, 94, 102, 110, 118, 126, 134, 142]) (inl := []) (pf := gpcq) gpcq_ok 400 (by decide) h
set_option maxRecDepth 20000 in
theorem c6_297_48_126 {σ : gS} {K : gK} {l2 : Option Value} (h : gE 48 134 [some (.ref 6), some (.ref 297), l2] [] (gup σ 6 10 (σ 297 10)) K) : gE 48 126 [some (.ref 6), some (.ref 297), l2] [] σ K :=
  gw_run (cy := 48) (cuts := [2, 31, 78, 86, 94, 102, 110, 118, 126, 134, 142]) (inl := []) (pf := gpcq) gpcq_ok 400 (by decide) h
set_option maxRecDepth 20000 in
theorem c6_297_48_134 {σ : gS} {K : gK} {l2 : Option Value} (h : gE 48 142 [some (.ref 6), some (.ref 297), l2] [] (gup σ 6 11 (σ 297 11)) K) : gE 48 134 [some (.ref 6), some (.ref 297), l2] [] σ K :=
  gw_run (cy := 48) (cuts := [2, 31, 78, 86, 94, 102, 110, 118, 126, 134, 142]) (inl := []) (pf := gpcq) gpcq_ok 400 (by decide) h
set_option maxRecDepth 20000 in
theorem c6_297_48_142 {σ : gS} {K : gK} {l2 : Option Value} (h : K none (gup σ 6 12 (σ 297 12))) : gE 48 142 [some (.ref 6), some (.ref 297), l2] [] σ K :=
  gw_run (cy := 48) (cuts := [2, 31, 78, 86, 94, 102, 110, 118, 126, 134, 142]) (inl := []) (pf := gpcq) gpcq_ok 400 (by decide) h
theorem s48_6_297 {σ : gS} {K : gK} (hc : 0 ≤ σ 297 7 ∧ σ 297 7 ≤ 20) (hK : K none (cCo σ 6 297)) : gE 48 0 [some (.ref 6), some (.ref 297), none] [] σ K := by
  obtain ⟨en, hn⟩ : σ 297 7 = iN (σ 297 7).toNatClampNeg ∧ (σ 297 7).toNatClampNeg ≤ 20 := by
    obtain ⟨e, l⟩ := iN_of hc.1
    refine ⟨e, ?_⟩
    have h2 := hc.2
    rw [e] at h2
    exact (iN_le (m := 20) l (by decide)).mp h2
  unfold cCo at hK
  obtain ⟨n, hnn⟩ : ∃ n, (σ 297 7).toNatClampNeg = n := ⟨_, rfl⟩
  rw [hnn] at en hn hK
  have tail : ∀ u, gE 48 78 [some (.ref 6), some (.ref 297), u] [] (cLc (cA1 (cT1 σ 6 297 n) 29 320 50) 30 321) K := by
    intro u
    obtain ⟨τ, hτ⟩ : ∃ τ, cLc (cA1 (cT1 σ 6 297 n) 29 320 50) 30 321 = τ := ⟨_, rfl⟩
    have hK : K none (cHd τ 6 297 9) := by rw [← hτ]; exact hK
    rw [hτ]
    have hs : ∀ k, gup (cHd τ 6 297 k) 6 (4 + k) (cHd τ 6 297 k 297 (4 + k)) = cHd τ 6 297 (k + 1) := fun k => cHd_s (by decide)
    have h0 : gup τ 6 4 (τ 297 4) = cHd τ 6 297 1 := by
      have := hs 0
      rw [cHd_0] at this
      exact this
    refine c6_297_48_78 ?_
    rw [h0]
    refine c6_297_48_86 ?_
    rw [hs 1]
    refine c6_297_48_94 ?_
    rw [hs 2]
    refine c6_297_48_102 ?_
    rw [hs 3]
    refine c6_297_48_110 ?_
    rw [hs 4]
    refine c6_297_48_118 ?_
    rw [hs 5]
    refine c6_297_48_126 ?_
    rw [hs 6]
    refine c6_297_48_134 ?_
    rw [hs 7]
    refine c6_297_48_142 ?_
    rw [hs 8]
    exact hK
  have main2 : gE 48 31 [some (.ref 6), some (.ref 297), some (.int 0)] [] (cT1 σ 6 297 n) K := by
    have main := g_forI (y := 48) (pc := 31) (K := K) 50 (fun k => [some (.ref 6), some (.ref 297), some (.int (iN k))]) (fun k => cA1 (cT1 σ 6 297 n) 29 320 k) (fun _ => True) (fun _ => by
      refine c6_297_48_31 ⟨fun _ => tail _, fun h => absurd h (by decide)⟩) (fun k hk _ ih => by
      have bd : 0 ≤ iN k ∧ iN k < 50 := ⟨(iN_le (k := 0) (by decide) (by omega)).mpr (by omega), (iN_lt (m := 50) (by omega) (by decide)).mpr hk⟩
      refine c6_297_48_31 ⟨fun h => absurd bd.2 h, fun _ => ⟨fun h => absurd bd.2 h, fun _ => ⟨bd, bd, ?_⟩⟩⟩
      rw [iN_nat (by omega), cA1_s (by decide), iN_one]
      exact ih trivial) 0 (Nat.zero_le _) trivial
    rw [cA1_0] at main
    exact main
  have c7 : ∀ k, k ≤ 20 → cT1 σ 6 297 k 297 7 = σ 297 7 := fun k hk => by unfold cT1; rw [if_neg (by omega)]
  have main := g_forI (y := 48) (pc := 2) (K := K) n (fun k => [some (.ref 6), some (.ref 297), some (.int (iN k))]) (fun k => cT1 σ 6 297 k) (fun _ => True) (fun _ => by
    refine c6_297_48_2 ⟨fun _ => main2, fun h => ?_⟩
    rw [c7 _ hn, en, iN_lt (by omega) (by omega)] at h; omega) (fun k hk _ ih => by
    have k20 : k < 20 := by omega
    refine c6_297_48_2 ⟨fun h => ?_, fun h => ?_⟩
    · rw [c7 _ (by omega), en, iN_lt (by omega) (by omega)] at h; omega
    · rw [iN_nat (by omega), iN_one]
      refine ⟨b20 k20, b20 k20, tv_6 k k20, ⟨tv_6 k k20, tv_297 k k20⟩, ?_⟩
      rw [cT1_s (by decide) k20]
      exact ih trivial) 0 (Nat.zero_le _) trivial
  rw [cT1_0] at main
  exact w48_6_297 main
noncomputable def f48 : gD := fun Lv σ => match Lv with
  | [some (.ref p), some (.ref q), none] => cond ((Nat.beq p 6 && Nat.beq q 32) || (Nat.beq p 32 && Nat.beq q 6) || (Nat.beq p 60 && Nat.beq q 6) || (Nat.beq p 86 && Nat.beq q 6) || (Nat.beq p 6 && Nat.beq q 60) || (Nat.beq p 6 && Nat.beq q 86) || (Nat.beq p 115 && Nat.beq q 6) || (Nat.beq p 141 && Nat.beq q 6) || (Nat.beq p 167 && Nat.beq q 6) || (Nat.beq p 193 && Nat.beq q 6) || (Nat.beq p 219 && Nat.beq q 6) || (Nat.beq p 245 && Nat.beq q 6) || (Nat.beq p 271 && Nat.beq q 6) || (Nat.beq p 297 && Nat.beq q 6) || (Nat.beq p 6 && Nat.beq q 115) || (Nat.beq p 6 && Nat.beq q 141) || (Nat.beq p 6 && Nat.beq q 167) || (Nat.beq p 6 && Nat.beq q 193) || (Nat.beq p 6 && Nat.beq q 219) || (Nat.beq p 6 && Nat.beq q 245) || (Nat.beq p 6 && Nat.beq q 271) || (Nat.beq p 6 && Nat.beq q 297)) (some (some (0 ≤ σ q 7 ∧ σ q 7 ≤ 20), none, cCo σ p q)) none
  | _ => none
theorem ok48 : gFok 48 f48 := by
  intro Lv σ q h hc K hK
  unfold f48 at h
  split at h
  · rename_i p q
    obtain ⟨hb, h⟩ := c_no h
    have hb0 := hb
    rcases s_or hb0 with hb0 | hb0
    · rcases s_or hb0 with hb0 | hb0
      · rcases s_or hb0 with hb0 | hb0
        · rcases s_or hb0 with hb0 | hb0
          · rcases s_or hb0 with hb0 | hb0
            · rcases s_or hb0 with hb0 | hb0
              · rcases s_or hb0 with hb0 | hb0
                · rcases s_or hb0 with hb0 | hb0
                  · rcases s_or hb0 with hb0 | hb0
                    · rcases s_or hb0 with hb0 | hb0
                      · rcases s_or hb0 with hb0 | hb0
                        · rcases s_or hb0 with hb0 | hb0
                          · rcases s_or hb0 with hb0 | hb0
                            · rcases s_or hb0 with hb0 | hb0
                              · rcases s_or hb0 with hb0 | hb0
                                · rcases s_or hb0 with hb0 | hb0
                                  · rcases s_or hb0 with hb0 | hb0
                                    · rcases s_or hb0 with hb0 | hb0
                                      · rcases s_or hb0 with hb0 | hb0
                                        · rcases s_or hb0 with hb0 | hb0
                                          · rcases s_or hb0 with hb0 | hb0
                                            · obtain ⟨e1, e2⟩ := s_and hb0
                                              have e1 := b_eq e1
                                              have e2 := b_eq e2
                                              subst e1
                                              subst e2
                                              cases h
                                              exact s48_6_32 (hc _ rfl) hK
                                            · obtain ⟨e1, e2⟩ := s_and hb0
                                              have e1 := b_eq e1
                                              have e2 := b_eq e2
                                              subst e1
                                              subst e2
                                              cases h
                                              exact s48_32_6 (hc _ rfl) hK
                                          · obtain ⟨e1, e2⟩ := s_and hb0
                                            have e1 := b_eq e1
                                            have e2 := b_eq e2
                                            subst e1
                                            subst e2
                                            cases h
                                            exact s48_60_6 (hc _ rfl) hK
                                        · obtain ⟨e1, e2⟩ := s_and hb0
                                          have e1 := b_eq e1
                                          have e2 := b_eq e2
                                          subst e1
                                          subst e2
                                          cases h
                                          exact s48_86_6 (hc _ rfl) hK
                                      · obtain ⟨e1, e2⟩ := s_and hb0
                                        have e1 := b_eq e1
                                        have e2 := b_eq e2
                                        subst e1
                                        subst e2
                                        cases h
                                        exact s48_6_60 (hc _ rfl) hK
                                    · obtain ⟨e1, e2⟩ := s_and hb0
                                      have e1 := b_eq e1
                                      have e2 := b_eq e2
                                      subst e1
                                      subst e2
                                      cases h
                                      exact s48_6_86 (hc _ rfl) hK
                                  · obtain ⟨e1, e2⟩ := s_and hb0
                                    have e1 := b_eq e1
                                    have e2 := b_eq e2
                                    subst e1
                                    subst e2
                                    cases h
                                    exact s48_115_6 (hc _ rfl) hK
                                · obtain ⟨e1, e2⟩ := s_and hb0
                                  have e1 := b_eq e1
                                  have e2 := b_eq e2
                                  subst e1
                                  subst e2
                                  cases h
                                  exact s48_141_6 (hc _ rfl) hK
                              · obtain ⟨e1, e2⟩ := s_and hb0
                                have e1 := b_eq e1
                                have e2 := b_eq e2
                                subst e1
                                subst e2
                                cases h
                                exact s48_167_6 (hc _ rfl) hK
                            · obtain ⟨e1, e2⟩ := s_and hb0
                              have e1 := b_eq e1
                              have e2 := b_eq e2
                              subst e1
                              subst e2
                              cases h
                              exact s48_193_6 (hc _ rfl) hK
                          · obtain ⟨e1, e2⟩ := s_and hb0
                            have e1 := b_eq e1
                            have e2 := b_eq e2
                            subst e1
                            subst e2
                            cases h
                            exact s48_219_6 (hc _ rfl) hK
                        · obtain ⟨e1, e2⟩ := s_and hb0
                          have e1 := b_eq e1
                          have e2 := b_eq e2
                          subst e1
                          subst e2
                          cases h
                          exact s48_245_6 (hc _ rfl) hK
                      · obtain ⟨e1, e2⟩ := s_and hb0
                        have e1 := b_eq e1
                        have e2 := b_eq e2
                        subst e1
                        subst e2
                        cases h
                        exact s48_271_6 (hc _ rfl) hK
                    · obtain ⟨e1, e2⟩ := s_and hb0
                      have e1 := b_eq e1
                      have e2 := b_eq e2
                      subst e1
                      subst e2
                      cases h
                      exact s48_297_6 (hc _ rfl) hK
                  · obtain ⟨e1, e2⟩ := s_and hb0
                    have e1 := b_eq e1
                    have e2 := b_eq e2
                    subst e1
                    subst e2
                    cases h
                    exact s48_6_115 (hc _ rfl) hK
                · obtain ⟨e1, e2⟩ := s_and hb0
                  have e1 := b_eq e1
                  have e2 := b_eq e2
                  subst e1
                  subst e2
                  cases h
                  exact s48_6_141 (hc _ rfl) hK
              · obtain ⟨e1, e2⟩ := s_and hb0
                have e1 := b_eq e1
                have e2 := b_eq e2
                subst e1
                subst e2
                cases h
                exact s48_6_167 (hc _ rfl) hK
            · obtain ⟨e1, e2⟩ := s_and hb0
              have e1 := b_eq e1
              have e2 := b_eq e2
              subst e1
              subst e2
              cases h
              exact s48_6_193 (hc _ rfl) hK
          · obtain ⟨e1, e2⟩ := s_and hb0
            have e1 := b_eq e1
            have e2 := b_eq e2
            subst e1
            subst e2
            cases h
            exact s48_6_219 (hc _ rfl) hK
        · obtain ⟨e1, e2⟩ := s_and hb0
          have e1 := b_eq e1
          have e2 := b_eq e2
          subst e1
          subst e2
          cases h
          exact s48_6_245 (hc _ rfl) hK
      · obtain ⟨e1, e2⟩ := s_and hb0
        have e1 := b_eq e1
        have e2 := b_eq e2
        subst e1
        subst e2
        cases h
        exact s48_6_271 (hc _ rfl) hK
    · obtain ⟨e1, e2⟩ := s_and hb0
      have e1 := b_eq e1
      have e2 := b_eq e2
      subst e1
      subst e2
      cases h
      exact s48_6_297 (hc _ rfl) hK
  · cases h
-- text 30
/-! THE CLASS: the past -/
noncomputable def gpcr_l : List (Nat × gD) := (48, f48) :: gpcq_l
noncomputable def gpcr : gP := gpl0 gpcr_l
theorem gpcr_ok : gPok gpcr := gpl0_cons ok48 (gpcq_ok)
theorem gpl_114 : ∀ j, j < 8 → gpl 114 j = 115 + 26 * j := by decide +kernel
theorem l8 {x : Int32} (h : 0 ≤ x ∧ x ≤ 8) : x = iN x.toNatClampNeg ∧ x.toNatClampNeg ≤ 8 := by
  obtain ⟨e, l⟩ := iN_of h.1
  refine ⟨e, ?_⟩
  have h2 := h.2
  rw [e] at h2
  exact (iN_le (m := 8) l (by decide)).mp h2
abbrev bPa (σ : gS) : Prop := (0 ≤ σ 113 1 ∧ σ 113 1 < 8) ∧ (0 ≤ σ 113 2 ∧ σ 113 2 ≤ 8)
/-- the place of the train at i in the past -/
def cPl (σ : gS) (i : Nat) : Nat := 115 + 26 * (((σ 113 1).toNatClampNeg + i) % 8)
theorem bPa_n {σ : gS} (h : bPa σ) : ∃ O C, σ 113 1 = iN O ∧ σ 113 2 = iN C ∧ O < 8 ∧ C ≤ 8 ∧ (σ 113 1).toNatClampNeg = O ∧ (σ 113 2).toNatClampNeg = C := by
  obtain ⟨ho, hc⟩ := h
  obtain ⟨eo, lo⟩ := l8 ⟨ho.1, by have := ho.2; grind⟩
  obtain ⟨ec, lc⟩ := l8 hc
  refine ⟨_, _, eo, ec, ?_, lc, rfl, rfl⟩
  have h2 := ho.2
  rw [eo] at h2
  exact (iN_lt (m := 8) (by omega) (by decide)).mp h2
set_option maxRecDepth 20000 in
theorem w9 {σ : gS} {K : gK} {i : Int32} (h : ((0 ≤ ((σ 113 1) + i) ∧ ((σ 113 1) + i) < 100) ∧ ((8 : Int32) = 40 ∨ (8 : Int32) = 8)) ∧ (0 ≤ (((σ 113 1) + i) - ((σ 113 1) + i) / (8 : Int32) * (8 : Int32)) ∧ (((σ 113 1) + i) - ((σ 113 1) + i) / (8 : Int32) * (8 : Int32)) < 8) ∧ K (some (.ref (gpl 114 (((σ 113 1) + i) - ((σ 113 1) + i) / (8 : Int32) * (8 : Int32)).toNatClampNeg))) σ) : gE 9 0 [some (.ref 113), some (.int i)] [] σ K :=
  gw_run (cy := 9) (cuts := []) (inl := []) (pf := gpcr) gpcr_ok 400 (by decide) h
theorem s9 {σ : gS} {K : gK} {i : Int32} (hc : (0 ≤ σ 113 1 + i ∧ σ 113 1 + i < 100) ∧ (0 ≤ (σ 113 1 + i) - (σ 113 1 + i) / 8 * 8 ∧ (σ 113 1 + i) - (σ 113 1 + i) / 8 * 8 < 8)) (hK : K (some (.ref (gpl 114 ((σ 113 1 + i) - (σ 113 1 + i) / 8 * 8).toNatClampNeg))) σ) : gE 9 0 [some (.ref 113), some (.int i)] [] σ K := by
  exact w9 ⟨⟨hc.1, Or.inr rfl⟩, hc.2, hK⟩
noncomputable def f9 : gD := fun Lv σ => match Lv with
  | [some (.ref q0), some (.int i)] => cond (Nat.beq q0 113) (some (some ((0 ≤ σ 113 1 + i ∧ σ 113 1 + i < 100) ∧ (0 ≤ (σ 113 1 + i) - (σ 113 1 + i) / 8 * 8 ∧ (σ 113 1 + i) - (σ 113 1 + i) / 8 * 8 < 8)), some (.ref (gpl 114 ((σ 113 1 + i) - (σ 113 1 + i) / 8 * 8).toNatClampNeg)), σ)) none
  | _ => none
theorem ok9 : gFok 9 f9 := by
  intro Lv σ q h hc K hK
  unfold f9 at h
  split at h
  · rename_i q0 i
    obtain ⟨hb, h⟩ := c_no h
    have hb0 := hb
    have e0 := b_eq hb0
    subst e0
    cases h
    exact s9 (hc _ rfl) hK
  · cases h
set_option maxRecDepth 20000 in
theorem w8 {σ : gS} {K : gK} (h : K none (gup σ 113 2 0)) : gE 8 0 [some (.ref 113)] [] σ K :=
  gw_run (cy := 8) (cuts := []) (inl := []) (pf := gpcr) gpcr_ok 400 (by decide) h
theorem s8 {σ : gS} {K : gK} (hK : K none (gup σ 113 2 0)) : gE 8 0 [some (.ref 113)] [] σ K := by
  exact w8 hK
noncomputable def f8 : gD := fun Lv σ => match Lv with
  | [some (.ref q0)] => cond (Nat.beq q0 113) (some (none, none, gup σ 113 2 0)) none
  | _ => none
theorem ok8 : gFok 8 f8 := by
  intro Lv σ q h hc K hK
  unfold f8 at h
  split at h
  · rename_i q0
    obtain ⟨hb, h⟩ := c_no h
    have hb0 := hb
    have e0 := b_eq hb0
    subst e0
    cases h
    exact s8 hK
  · cases h
noncomputable def gpcs_l : List (Nat × gD) := (9, f9) :: (8, f8) :: gpcr_l
noncomputable def gpcs : gP := gpl0 gpcs_l
theorem gpcs_ok : gPok gpcs := gpl0_cons ok9 (gpl0_cons ok8 (gpcr_ok))
set_option maxRecDepth 20000 in
theorem w10 {σ : gS} {K : gK} (h : ((0 ≤ σ 113 1 + (σ 113 2) ∧ σ 113 1 + (σ 113 2) < 100) ∧ (0 ≤ (σ 113 1 + (σ 113 2)) - (σ 113 1 + (σ 113 2)) / 8 * 8 ∧ (σ 113 1 + (σ 113 2)) - (σ 113 1 + (σ 113 2)) / 8 * 8 < 8)) ∧ gE 10 8 [some (.ref 113), some (.ref 6)] [.ref (gpl 114 ((σ 113 1 + (σ 113 2)) - (σ 113 1 + (σ 113 2)) / 8 * 8).toNatClampNeg)] σ K) : gE 10 0 [some (.ref 113), some (.ref 6)] [] σ K :=
  gw_run (cy := 10) (cuts := [8, 12]) (inl := []) (pf := gpcs) gpcs_ok 400 (by decide) h
set_option maxRecDepth 20000 in
theorem c10_115 {σ : gS} {K : gK} (h : (0 ≤ σ 6 7 ∧ σ 6 7 ≤ 20) ∧ gE 10 12 [some (.ref 113), some (.ref 6)] [] (cCo σ 115 6) K) : gE 10 8 [some (.ref 113), some (.ref 6)] [.ref 115] σ K :=
  gw_run (cy := 10) (cuts := [12]) (inl := []) (pf := gpcs) gpcs_ok 400 (by decide) h
set_option maxRecDepth 20000 in
theorem c10_141 {σ : gS} {K : gK} (h : (0 ≤ σ 6 7 ∧ σ 6 7 ≤ 20) ∧ gE 10 12 [some (.ref 113), some (.ref 6)] [] (cCo σ 141 6) K) : gE 10 8 [some (.ref 113), some (.ref 6)] [.ref 141] σ K :=
  gw_run (cy := 10) (cuts := [12]) (inl := []) (pf := gpcs) gpcs_ok 400 (by decide) h
set_option maxRecDepth 20000 in
theorem c10_167 {σ : gS} {K : gK} (h : (0 ≤ σ 6 7 ∧ σ 6 7 ≤ 20) ∧ gE 10 12 [some (.ref 113), some (.ref 6)] [] (cCo σ 167 6) K) : gE 10 8 [some (.ref 113), some (.ref 6)] [.ref 167] σ K :=
  gw_run (cy := 10) (cuts := [12]) (inl := []) (pf := gpcs) gpcs_ok 400 (by decide) h
set_option maxRecDepth 20000 in
theorem c10_193 {σ : gS} {K : gK} (h : (0 ≤ σ 6 7 ∧ σ 6 7 ≤ 20) ∧ gE 10 12 [some (.ref 113), some (.ref 6)] [] (cCo σ 193 6) K) : gE 10 8 [some (.ref 113), some (.ref 6)] [.ref 193] σ K :=
  gw_run (cy := 10) (cuts := [12]) (inl := []) (pf := gpcs) gpcs_ok 400 (by decide) h
set_option maxRecDepth 20000 in
theorem c10_219 {σ : gS} {K : gK} (h : (0 ≤ σ 6 7 ∧ σ 6 7 ≤ 20) ∧ gE 10 12 [some (.ref 113), some (.ref 6)] [] (cCo σ 219 6) K) : gE 10 8 [some (.ref 113), some (.ref 6)] [.ref 219] σ K :=
  gw_run (cy := 10) (cuts := [12]) (inl := []) (pf := gpcs) gpcs_ok 400 (by decide) h
set_option maxRecDepth 20000 in
theorem c10_245 {σ : gS} {K : gK} (h : (0 ≤ σ 6 7 ∧ σ 6 7 ≤ 20) ∧ gE 10 12 [some (.ref 113), some (.ref 6)] [] (cCo σ 245 6) K) : gE 10 8 [some (.ref 113), some (.ref 6)] [.ref 245] σ K :=
  gw_run (cy := 10) (cuts := [12]) (inl := []) (pf := gpcs) gpcs_ok 400 (by decide) h
set_option maxRecDepth 20000 in
theorem c10_271 {σ : gS} {K : gK} (h : (0 ≤ σ 6 7 ∧ σ 6 7 ≤ 20) ∧ gE 10 12 [some (.ref 113), some (.ref 6)] [] (cCo σ 271 6) K) : gE 10 8 [some (.ref 113), some (.ref 6)] [.ref 271] σ K :=
  gw_run (cy := 10) (cuts := [12]) (inl := []) (pf := gpcs) gpcs_ok 400 (by decide) h
set_option maxRecDepth 20000 in
theorem c10_297 {σ : gS} {K : gK} (h : (0 ≤ σ 6 7 ∧ σ 6 7 ≤ 20) ∧ gE 10 12 [some (.ref 113), some (.ref 6)] [] (cCo σ 297 6) K) : gE 10 8 [some (.ref 113), some (.ref 6)] [.ref 297] σ K :=
  gw_run (cy := 10) (cuts := [12]) (inl := []) (pf := gpcs) gpcs_ok 400 (by decide) h
set_option maxRecDepth 20000 in
theorem c10_b {σ : gS} {K : gK} (h : ((¬ (σ 113 2) < 8 → (8 : Int32) ≠ 0 ∧ K none (gup σ 113 1 (((σ 113 1) + 1) - ((σ 113 1) + 1) / 8 * 8))) ∧ ((σ 113 2) < 8 → K none (gup σ 113 2 ((σ 113 2) + 1))))) : gE 10 12 [some (.ref 113), some (.ref 6)] [] σ K :=
  gw_run (cy := 10) (cuts := []) (inl := []) (pf := gpcs) gpcs_ok 400 (by decide) h
def cRem (σ : gS) : gS := if σ 113 2 < 8 then gup (cCo σ (cPl σ (σ 113 2).toNatClampNeg) 6) 113 2 (σ 113 2 + 1) else gup (cCo σ (cPl σ (σ 113 2).toNatClampNeg) 6) 113 1 (iN (((σ 113 1).toNatClampNeg + 1) % 8))
theorem cCo_far {σ : gS} {p q b j : Nat} (h : b < p ∨ p + 26 ≤ b) (hn : (σ q 7).toNatClampNeg ≤ 20) : cCo σ p q b j = σ b j := by
  unfold cCo cHd
  rw [if_neg (by omega)]
  unfold cLc
  rw [gup_ne (by omega), gup_ne (by omega)]
  unfold cA1
  rw [if_neg (by omega), if_neg (by omega)]
  unfold cT1
  rw [if_neg (by omega)]
theorem c20 {x : Int32} (h : 0 ≤ x ∧ x ≤ 20) : x = iN x.toNatClampNeg ∧ x.toNatClampNeg ≤ 20 := by
  obtain ⟨e, l⟩ := iN_of h.1
  refine ⟨e, ?_⟩
  have h2 := h.2
  rw [e] at h2
  exact (iN_le (m := 20) l (by decide)).mp h2
theorem s10 {σ : gS} {K : gK} (hc : bPa σ ∧ (0 ≤ σ 6 7 ∧ σ 6 7 ≤ 20)) (hK : K none (cRem σ)) : gE 10 0 [some (.ref 113), some (.ref 6)] [] σ K := by
  obtain ⟨hp, h7⟩ := hc
  obtain ⟨O, C, eo, ec, lo, lc, no, nc⟩ := bPa_n hp
  have ho := hp.1
  unfold cRem at hK
  have eP : cPl σ (σ 113 2).toNatClampNeg = 115 + 26 * ((O + C) % 8) := by unfold cPl; rw [no, nc]
  rw [eP, no, ec] at hK
  have hm : (O + C) % 8 < 8 := Nat.mod_lt _ (by decide)
  have em : (iN O + iN C) - (iN O + iN C) / 8 * 8 = iN ((O + C) % 8) := by
    rw [iN_add]
    exact iN_mod (d := 8) (by omega) (by decide)
  have hx : ∀ x, x = 115 + 26 * ((O + C) % 8) → gE 10 12 [some (.ref 113), some (.ref 6)] [] (cCo σ x 6) K := by
    intro x hx
    rw [← hx] at hK
    have n7 := (c20 h7).2
    have r2 : cCo σ x 6 113 2 = iN C := by rw [cCo_far (by omega) n7]; exact ec
    have r1 : cCo σ x 6 113 1 = iN O := by rw [cCo_far (by omega) n7]; exact eo
    refine c10_b ?_
    rw [r1, r2]
    refine ⟨fun h => ⟨by decide, ?_⟩, fun h => ?_⟩
    · rw [if_neg h] at hK
      rw [iN_one, show (8 : Int32) = iN 8 from rfl, iN_mod (by omega) (by decide)]
      exact hK
    · rw [if_pos h] at hK
      exact hK
  refine w10 ?_
  rw [eo, ec, em]
  refine ⟨⟨?_, ?_⟩, ?_⟩
  · rw [iN_add]
    exact ⟨(iN_le (k := 0) (by decide) (by omega)).mpr (by omega), (iN_lt (m := 100) (by omega) (by decide)).mpr (by omega)⟩
  · exact ⟨(iN_le (k := 0) (by decide) (by omega)).mpr (by omega), (iN_lt (m := 8) (by omega) (by decide)).mpr hm⟩
  · rw [iN_nat (by omega), gpl_114 _ hm]
    have h8 : (O + C) % 8 = 0 ∨ (O + C) % 8 = 1 ∨ (O + C) % 8 = 2 ∨ (O + C) % 8 = 3 ∨ (O + C) % 8 = 4 ∨ (O + C) % 8 = 5 ∨ (O + C) % 8 = 6 ∨ (O + C) % 8 = 7 := by omega
    rcases h8 with h | h | h | h | h | h | h | h <;> rw [h] at hx ⊢
    · exact c10_115 ⟨h7, hx _ rfl⟩
    · exact c10_141 ⟨h7, hx _ rfl⟩
    · exact c10_167 ⟨h7, hx _ rfl⟩
    · exact c10_193 ⟨h7, hx _ rfl⟩
    · exact c10_219 ⟨h7, hx _ rfl⟩
    · exact c10_245 ⟨h7, hx _ rfl⟩
    · exact c10_271 ⟨h7, hx _ rfl⟩
    · exact c10_297 ⟨h7, hx _ rfl⟩
noncomputable def f10 : gD := fun Lv σ => match Lv with
  | [some (.ref q0), some (.ref q1)] => cond ((Nat.beq q0 113) && (Nat.beq q1 6)) (some (some (bPa σ ∧ (0 ≤ σ 6 7 ∧ σ 6 7 ≤ 20)), none, cRem σ)) none
  | _ => none
theorem ok10 : gFok 10 f10 := by
  intro Lv σ q h hc K hK
  unfold f10 at h
  split at h
  · rename_i q0 q1
    obtain ⟨hb, h⟩ := c_no h
    obtain ⟨hc1, hb1⟩ := s_and hb
    have hb0 := hc1
    have e0 := b_eq hb0
    subst e0
    have e1 := b_eq hb1
    subst e1
    cases h
    exact s10 (hc _ rfl) hK
  · cases h
