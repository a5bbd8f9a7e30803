-- text 7
/-! KNOWN METHODS: the smallest -/
theorem c_no {α : Type} {c : Bool} {a : Option α} {q : α} (h : cond c a none = some q) : c = true ∧ a = some q := by
  cases c
  · cases h
  · exact ⟨rfl, h⟩
set_option maxRecDepth 20000 in
theorem w147 {σ : gS} {K : gK} {x a b : Int32} (h : ((x < a → ((0 : Int32) = 0 ∨ (0 : Int32) = 1) ∧ K (some (.int 0)) σ) ∧ (¬ x < a → ((b < x → ((0 : Int32) = 0 ∨ (0 : Int32) = 1) ∧ K (some (.int 0)) σ) ∧ (¬ b < x → ((1 : Int32) = 0 ∨ (1 : Int32) = 1) ∧ K (some (.int 1)) σ))))) : gE 147 0 [some (.int x), some (.int a), some (.int b)] [] σ K :=
  gw_run (cy := 147) (cuts := []) (inl := []) (pf := gpf0) gpf0_ok 400 (by decide) h
theorem s147 {σ : gS} {K : gK} {x a b : Int32} (hK : K (some (.int (bI (a ≤ x ∧ x ≤ b)))) σ) : gE 147 0 [some (.int x), some (.int a), some (.int b)] [] σ K := by
  refine w147 ?_
  grind [bI]
noncomputable def f147 : gD := fun Lv σ => match Lv with
  | [some (.int x), some (.int a), some (.int b)] => some (none, some (.int (bI (a ≤ x ∧ x ≤ b))), σ)
  | _ => none
theorem ok147 : gFok 147 f147 := by
  intro Lv σ q h hc K hK
  unfold f147 at h
  split at h
  · rename_i x a b
    cases h
    exact s147 hK
  · cases h
set_option maxRecDepth 20000 in
theorem w152 {σ : gS} {K : gK} {x a b : Int32} (h : ((x < a → ((0 : Int32) = 0 ∨ (0 : Int32) = 1) ∧ K (some (.int 0)) σ) ∧ (¬ x < a → ((b < x → ((0 : Int32) = 0 ∨ (0 : Int32) = 1) ∧ K (some (.int 0)) σ) ∧ (¬ b < x → ((1 : Int32) = 0 ∨ (1 : Int32) = 1) ∧ K (some (.int 1)) σ))))) : gE 152 0 [some (.int x), some (.int a), some (.int b)] [] σ K :=
  gw_run (cy := 152) (cuts := []) (inl := []) (pf := gpf0) gpf0_ok 400 (by decide) h
theorem s152 {σ : gS} {K : gK} {x a b : Int32} (hK : K (some (.int (bI (a ≤ x ∧ x ≤ b)))) σ) : gE 152 0 [some (.int x), some (.int a), some (.int b)] [] σ K := by
  refine w152 ?_
  grind [bI]
noncomputable def f152 : gD := fun Lv σ => match Lv with
  | [some (.int x), some (.int a), some (.int b)] => some (none, some (.int (bI (a ≤ x ∧ x ≤ b))), σ)
  | _ => none
theorem ok152 : gFok 152 f152 := by
  intro Lv σ q h hc K hK
  unfold f152 at h
  split at h
  · rename_i x a b
    cases h
    exact s152 hK
  · cases h
set_option maxRecDepth 20000 in
theorem w155 {σ : gS} {K : gK} {t f : Int32} (h : K (some (.int ((9 + (10 * t)) + f))) σ) : gE 155 0 [some (.int t), some (.int f)] [] σ K :=
  gw_run (cy := 155) (cuts := []) (inl := []) (pf := gpf0) gpf0_ok 400 (by decide) h
theorem s155 {σ : gS} {K : gK} {t f : Int32} (hK : K (some (.int (9 + 10 * t + f))) σ) : gE 155 0 [some (.int t), some (.int f)] [] σ K := by
  refine w155 ?_
  grind [bI]
noncomputable def f155 : gD := fun Lv σ => match Lv with
  | [some (.int t), some (.int f)] => some (none, some (.int (9 + 10 * t + f)), σ)
  | _ => none
theorem ok155 : gFok 155 f155 := by
  intro Lv σ q h hc K hK
  unfold f155 at h
  split at h
  · rename_i t f
    cases h
    exact s155 hK
  · cases h
set_option maxRecDepth 20000 in
theorem w160 {σ : gS} {K : gK} {x : Int32} (h : (4 : Int32) ≠ 0 ∧ K (some (.int (x / 4))) σ) : gE 160 0 [some (.int x)] [] σ K :=
  gw_run (cy := 160) (cuts := []) (inl := []) (pf := gpf0) gpf0_ok 400 (by decide) h
theorem s160 {σ : gS} {K : gK} {x : Int32} (hK : K (some (.int (x / 4))) σ) : gE 160 0 [some (.int x)] [] σ K := by
  refine w160 ?_
  grind [bI]
noncomputable def f160 : gD := fun Lv σ => match Lv with
  | [some (.int x)] => some (none, some (.int (x / 4)), σ)
  | _ => none
theorem ok160 : gFok 160 f160 := by
  intro Lv σ q h hc K hK
  unfold f160 at h
  split at h
  · rename_i x
    cases h
    exact s160 hK
  · cases h
set_option maxRecDepth 20000 in
theorem w161 {σ : gS} {K : gK} {x : Int32} (h : (8 : Int32) ≠ 0 ∧ K (some (.int (x / 8))) σ) : gE 161 0 [some (.int x)] [] σ K :=
  gw_run (cy := 161) (cuts := []) (inl := []) (pf := gpf0) gpf0_ok 400 (by decide) h
theorem s161 {σ : gS} {K : gK} {x : Int32} (hK : K (some (.int (x / 8))) σ) : gE 161 0 [some (.int x)] [] σ K := by
  refine w161 ?_
  grind [bI]
noncomputable def f161 : gD := fun Lv σ => match Lv with
  | [some (.int x)] => some (none, some (.int (x / 8)), σ)
  | _ => none
theorem ok161 : gFok 161 f161 := by
  intro Lv σ q h hc K hK
  unfold f161 at h
  split at h
  · rename_i x
    cases h
    exact s161 hK
  · cases h
set_option maxRecDepth 20000 in
theorem w148 {σ : gS} {K : gK} {x : Int32} (h : K (some (.int ((-10) - x))) σ) : gE 148 0 [some (.int x)] [] σ K :=
  gw_run (cy := 148) (cuts := []) (inl := []) (pf := gpf0) gpf0_ok 400 (by decide) h
theorem s148 {σ : gS} {K : gK} {x : Int32} (hK : K (some (.int (-10 - x))) σ) : gE 148 0 [some (.int x)] [] σ K := by
  refine w148 ?_
  grind [bI]
noncomputable def f148 : gD := fun Lv σ => match Lv with
  | [some (.int x)] => some (none, some (.int (-10 - x)), σ)
  | _ => none
theorem ok148 : gFok 148 f148 := by
  intro Lv σ q h hc K hK
  unfold f148 at h
  split at h
  · rename_i x
    cases h
    exact s148 hK
  · cases h
set_option maxRecDepth 20000 in
theorem w206 {σ : gS} {K : gK} {x : Int32} (h : K (some (.int ((-10) - x))) σ) : gE 206 0 [some (.int x)] [] σ K :=
  gw_run (cy := 206) (cuts := []) (inl := []) (pf := gpf0) gpf0_ok 400 (by decide) h
theorem s206 {σ : gS} {K : gK} {x : Int32} (hK : K (some (.int (-10 - x))) σ) : gE 206 0 [some (.int x)] [] σ K := by
  refine w206 ?_
  grind [bI]
noncomputable def f206 : gD := fun Lv σ => match Lv with
  | [some (.int x)] => some (none, some (.int (-10 - x)), σ)
  | _ => none
theorem ok206 : gFok 206 f206 := by
  intro Lv σ q h hc K hK
  unfold f206 at h
  split at h
  · rename_i x
    cases h
    exact s206 hK
  · cases h
theorem gpl_7 : ∀ k, k < 20 → gpl 7 k = 6 + 2 + k := by decide +kernel
theorem gpl_33 : ∀ k, k < 20 → gpl 33 k = 32 + 2 + k := by decide +kernel
theorem gpl_61 : ∀ k, k < 20 → gpl 61 k = 60 + 2 + k := by decide +kernel
theorem gpl_87 : ∀ k, k < 20 → gpl 87 k = 86 + 2 + k := by decide +kernel
theorem gpl_116 : ∀ k, k < 20 → gpl 116 k = 115 + 2 + k := by decide +kernel
theorem gpl_142 : ∀ k, k < 20 → gpl 142 k = 141 + 2 + k := by decide +kernel
theorem gpl_168 : ∀ k, k < 20 → gpl 168 k = 167 + 2 + k := by decide +kernel
theorem gpl_194 : ∀ k, k < 20 → gpl 194 k = 193 + 2 + k := by decide +kernel
theorem gpl_220 : ∀ k, k < 20 → gpl 220 k = 219 + 2 + k := by decide +kernel
theorem gpl_246 : ∀ k, k < 20 → gpl 246 k = 245 + 2 + k := by decide +kernel
theorem gpl_272 : ∀ k, k < 20 → gpl 272 k = 271 + 2 + k := by decide +kernel
theorem gpl_298 : ∀ k, k < 20 → gpl 298 k = 297 + 2 + k := by decide +kernel
theorem n20 {t : Int32} (h : 0 ≤ t ∧ t < 20) : t.toNatClampNeg < 20 := by
  obtain ⟨h1, h2⟩ := iN_of h.1
  have h3 : iN t.toNatClampNeg < iN 20 := by rw [← h1]; exact h.2
  exact (iN_lt h2 (by decide)).mp h3
set_option maxRecDepth 20000 in
theorem w49_6 {σ : gS} {K : gK} {t : Int32} (h : ((t < 0 → K (some (.ref 28)) σ) ∧ (¬ t < 0 → ((¬ t < 20 → K (some (.ref 28)) σ) ∧ (t < 20 → (0 ≤ t ∧ t < 20) ∧ K (some (.ref (gpl 7 t.toNatClampNeg))) σ))))) : gE 49 0 [some (.ref 6), some (.int t)] [] σ K :=
  gw_run (cy := 49) (cuts := []) (inl := []) (pf := gpf0) gpf0_ok 400 (by decide) h
theorem s49_6 {σ : gS} {K : gK} {t : Int32} (hc : 0 ≤ t ∧ t < 20) (hK : K (some (.ref (6 + 2 + t.toNatClampNeg))) σ) : gE 49 0 [some (.ref 6), some (.int t)] [] σ K := by
  refine w49_6 ?_
  simp only [gpl_7 _ (n20 hc), gpl_33 _ (n20 hc), gpl_61 _ (n20 hc), gpl_87 _ (n20 hc), gpl_116 _ (n20 hc), gpl_142 _ (n20 hc), gpl_168 _ (n20 hc), gpl_194 _ (n20 hc), gpl_220 _ (n20 hc), gpl_246 _ (n20 hc), gpl_272 _ (n20 hc), gpl_298 _ (n20 hc)]
  grind
set_option maxRecDepth 20000 in
theorem w49_32 {σ : gS} {K : gK} {t : Int32} (h : ((t < 0 → K (some (.ref 54)) σ) ∧ (¬ t < 0 → ((¬ t < 20 → K (some (.ref 54)) σ) ∧ (t < 20 → (0 ≤ t ∧ t < 20) ∧ K (some (.ref (gpl 33 t.toNatClampNeg))) σ))))) : gE 49 0 [some (.ref 32), some (.int t)] [] σ K :=
  gw_run (cy := 49) (cuts := []) (inl := []) (pf := gpf0) gpf0_ok 400 (by decide) h
theorem s49_32 {σ : gS} {K : gK} {t : Int32} (hc : 0 ≤ t ∧ t < 20) (hK : K (some (.ref (32 + 2 + t.toNatClampNeg))) σ) : gE 49 0 [some (.ref 32), some (.int t)] [] σ K := by
  refine w49_32 ?_
  simp only [gpl_7 _ (n20 hc), gpl_33 _ (n20 hc), gpl_61 _ (n20 hc), gpl_87 _ (n20 hc), gpl_116 _ (n20 hc), gpl_142 _ (n20 hc), gpl_168 _ (n20 hc), gpl_194 _ (n20 hc), gpl_220 _ (n20 hc), gpl_246 _ (n20 hc), gpl_272 _ (n20 hc), gpl_298 _ (n20 hc)]
  grind
set_option maxRecDepth 20000 in
theorem w49_60 {σ : gS} {K : gK} {t : Int32} (h : ((t < 0 → K (some (.ref 82)) σ) ∧ (¬ t < 0 → ((¬ t < 20 → K (some (.ref 82)) σ) ∧ (t < 20 → (0 ≤ t ∧ t < 20) ∧ K (some (.ref (gpl 61 t.toNatClampNeg))) σ))))) : gE 49 0 [some (.ref 60), some (.int t)] [] σ K :=
  gw_run (cy := 49) (cuts := []) (inl := []) (pf := gpf0) gpf0_ok 400 (by decide) h
theorem s49_60 {σ : gS} {K : gK} {t : Int32} (hc : 0 ≤ t ∧ t < 20) (hK : K (some (.ref (60 + 2 + t.toNatClampNeg))) σ) : gE 49 0 [some (.ref 60), some (.int t)] [] σ K := by
  refine w49_60 ?_
  simp only [gpl_7 _ (n20 hc), gpl_33 _ (n20 hc), gpl_61 _ (n20 hc), gpl_87 _ (n20 hc), gpl_116 _ (n20 hc), gpl_142 _ (n20 hc), gpl_168 _ (n20 hc), gpl_194 _ (n20 hc), gpl_220 _ (n20 hc), gpl_246 _ (n20 hc), gpl_272 _ (n20 hc), gpl_298 _ (n20 hc)]
  grind
set_option maxRecDepth 20000 in
theorem w49_86 {σ : gS} {K : gK} {t : Int32} (h : ((t < 0 → K (some (.ref 108)) σ) ∧ (¬ t < 0 → ((¬ t < 20 → K (some (.ref 108)) σ) ∧ (t < 20 → (0 ≤ t ∧ t < 20) ∧ K (some (.ref (gpl 87 t.toNatClampNeg))) σ))))) : gE 49 0 [some (.ref 86), some (.int t)] [] σ K :=
  gw_run (cy := 49) (cuts := []) (inl := []) (pf := gpf0) gpf0_ok 400 (by decide) h
theorem s49_86 {σ : gS} {K : gK} {t : Int32} (hc : 0 ≤ t ∧ t < 20) (hK : K (some (.ref (86 + 2 + t.toNatClampNeg))) σ) : gE 49 0 [some (.ref 86), some (.int t)] [] σ K := by
  refine w49_86 ?_
  simp only [gpl_7 _ (n20 hc), gpl_33 _ (n20 hc), gpl_61 _ (n20 hc), gpl_87 _ (n20 hc), gpl_116 _ (n20 hc), gpl_142 _ (n20 hc), gpl_168 _ (n20 hc), gpl_194 _ (n20 hc), gpl_220 _ (n20 hc), gpl_246 _ (n20 hc), gpl_272 _ (n20 hc), gpl_298 _ (n20 hc)]
  grind
set_option maxRecDepth 20000 in
theorem w49_115 {σ : gS} {K : gK} {t : Int32} (h : ((t < 0 → K (some (.ref 137)) σ) ∧ (¬ t < 0 → ((¬ t < 20 → K (some (.ref 137)) σ) ∧ (t < 20 → (0 ≤ t ∧ t < 20) ∧ K (some (.ref (gpl 116 t.toNatClampNeg))) σ))))) : gE 49 0 [some (.ref 115), some (.int t)] [] σ K :=
  gw_run (cy := 49) (cuts := []) (inl := []) (pf := gpf0) gpf0_ok 400 (by decide) h
theorem s49_115 {σ : gS} {K : gK} {t : Int32} (hc : 0 ≤ t ∧ t < 20) (hK : K (some (.ref (115 + 2 + t.toNatClampNeg))) σ) : gE 49 0 [some (.ref 115), some (.int t)] [] σ K := by
  refine w49_115 ?_
  simp only [gpl_7 _ (n20 hc), gpl_33 _ (n20 hc), gpl_61 _ (n20 hc), gpl_87 _ (n20 hc), gpl_116 _ (n20 hc), gpl_142 _ (n20 hc), gpl_168 _ (n20 hc), gpl_194 _ (n20 hc), gpl_220 _ (n20 hc), gpl_246 _ (n20 hc), gpl_272 _ (n20 hc), gpl_298 _ (n20 hc)]
  grind
set_option maxRecDepth 20000 in
theorem w49_141 {σ : gS} {K : gK} {t : Int32} (h : ((t < 0 → K (some (.ref 163)) σ) ∧ (¬ t < 0 → ((¬ t < 20 → K (some (.ref 163)) σ) ∧ (t < 20 → (0 ≤ t ∧ t < 20) ∧ K (some (.ref (gpl 142 t.toNatClampNeg))) σ))))) : gE 49 0 [some (.ref 141), some (.int t)] [] σ K :=
  gw_run (cy := 49) (cuts := []) (inl := []) (pf := gpf0) gpf0_ok 400 (by decide) h
theorem s49_141 {σ : gS} {K : gK} {t : Int32} (hc : 0 ≤ t ∧ t < 20) (hK : K (some (.ref (141 + 2 + t.toNatClampNeg))) σ) : gE 49 0 [some (.ref 141), some (.int t)] [] σ K := by
  refine w49_141 ?_
  simp only [gpl_7 _ (n20 hc), gpl_33 _ (n20 hc), gpl_61 _ (n20 hc), gpl_87 _ (n20 hc), gpl_116 _ (n20 hc), gpl_142 _ (n20 hc), gpl_168 _ (n20 hc), gpl_194 _ (n20 hc), gpl_220 _ (n20 hc), gpl_246 _ (n20 hc), gpl_272 _ (n20 hc), gpl_298 _ (n20 hc)]
  grind
set_option maxRecDepth 20000 in
theorem w49_167 {σ : gS} {K : gK} {t : Int32} (h : ((t < 0 → K (some (.ref 189)) σ) ∧ (¬ t < 0 → ((¬ t < 20 → K (some (.ref 189)) σ) ∧ (t < 20 → (0 ≤ t ∧ t < 20) ∧ K (some (.ref (gpl 168 t.toNatClampNeg))) σ))))) : gE 49 0 [some (.ref 167), some (.int t)] [] σ K :=
  gw_run (cy := 49) (cuts := []) (inl := []) (pf := gpf0) gpf0_ok 400 (by decide) h
theorem s49_167 {σ : gS} {K : gK} {t : Int32} (hc : 0 ≤ t ∧ t < 20) (hK : K (some (.ref (167 + 2 + t.toNatClampNeg))) σ) : gE 49 0 [some (.ref 167), some (.int t)] [] σ K := by
  refine w49_167 ?_
  simp only [gpl_7 _ (n20 hc), gpl_33 _ (n20 hc), gpl_61 _ (n20 hc), gpl_87 _ (n20 hc), gpl_116 _ (n20 hc), gpl_142 _ (n20 hc), gpl_168 _ (n20 hc), gpl_194 _ (n20 hc), gpl_220 _ (n20 hc), gpl_246 _ (n20 hc), gpl_272 _ (n20 hc), gpl_298 _ (n20 hc)]
  grind
set_option maxRecDepth 20000 in
theorem w49_193 {σ : gS} {K : gK} {t : Int32} (h : ((t < 0 → K (some (.ref 215)) σ) ∧ (¬ t < 0 → ((¬ t < 20 → K (some (.ref 215)) σ) ∧ (t < 20 → (0 ≤ t ∧ t < 20) ∧ K (some (.ref (gpl 194 t.toNatClampNeg))) σ))))) : gE 49 0 [some (.ref 193), some (.int t)] [] σ K :=
  gw_run (cy := 49) (cuts := []) (inl := []) (pf := gpf0) gpf0_ok 400 (by decide) h
theorem s49_193 {σ : gS} {K : gK} {t : Int32} (hc : 0 ≤ t ∧ t < 20) (hK : K (some (.ref (193 + 2 + t.toNatClampNeg))) σ) : gE 49 0 [some (.ref 193), some (.int t)] [] σ K := by
  refine w49_193 ?_
  simp only [gpl_7 _ (n20 hc), gpl_33 _ (n20 hc), gpl_61 _ (n20 hc), gpl_87 _ (n20 hc), gpl_116 _ (n20 hc), gpl_142 _ (n20 hc), gpl_168 _ (n20 hc), gpl_194 _ (n20 hc), gpl_220 _ (n20 hc), gpl_246 _ (n20 hc), gpl_272 _ (n20 hc), gpl_298 _ (n20 hc)]
  grind
set_option maxRecDepth 20000 in
theorem w49_219 {σ : gS} {K : gK} {t : Int32} (h : ((t < 0 → K (some (.ref 241)) σ) ∧ (¬ t < 0 → ((¬ t < 20 → K (some (.ref 241)) σ) ∧ (t < 20 → (0 ≤ t ∧ t < 20) ∧ K (some (.ref (gpl 220 t.toNatClampNeg))) σ))))) : gE 49 0 [some (.ref 219), some (.int t)] [] σ K :=
  gw_run (cy := 49) (cuts := []) (inl := []) (pf := gpf0) gpf0_ok 400 (by decide) h
theorem s49_219 {σ : gS} {K : gK} {t : Int32} (hc : 0 ≤ t ∧ t < 20) (hK : K (some (.ref (219 + 2 + t.toNatClampNeg))) σ) : gE 49 0 [some (.ref 219), some (.int t)] [] σ K := by
  refine w49_219 ?_
  simp only [gpl_7 _ (n20 hc), gpl_33 _ (n20 hc), gpl_61 _ (n20 hc), gpl_87 _ (n20 hc), gpl_116 _ (n20 hc), gpl_142 _ (n20 hc), gpl_168 _ (n20 hc), gpl_194 _ (n20 hc), gpl_220 _ (n20 hc), gpl_246 _ (n20 hc), gpl_272 _ (n20 hc), gpl_298 _ (n20 hc)]
  grind
set_option maxRecDepth 20000 in
theorem w49_245 {σ : gS} {K : gK} {t : Int32} (h : ((t < 0 → K (some (.ref 267)) σ) ∧ (¬ t < 0 → ((¬ t < 20 → K (some (.ref 267)) σ) ∧ (t < 20 → (0 ≤ t ∧ t < 20) ∧ K (some (.ref (gpl 246 t.toNatClampNeg))) σ))))) : gE 49 0 [some (.ref 245), some (.int t)] [] σ K :=
  gw_run (cy := 49) (cuts := []) (inl := []) (pf := gpf0) gpf0_ok 400 (by decide) h
theorem s49_245 {σ : gS} {K : gK} {t : Int32} (hc : 0 ≤ t ∧ t < 20) (hK : K (some (.ref (245 + 2 + t.toNatClampNeg))) σ) : gE 49 0 [some (.ref 245), some (.int t)] [] σ K := by
  refine w49_245 ?_
  simp only [gpl_7 _ (n20 hc), gpl_33 _ (n20 hc), gpl_61 _ (n20 hc), gpl_87 _ (n20 hc), gpl_116 _ (n20 hc), gpl_142 _ (n20 hc), gpl_168 _ (n20 hc), gpl_194 _ (n20 hc), gpl_220 _ (n20 hc), gpl_246 _ (n20 hc), gpl_272 _ (n20 hc), gpl_298 _ (n20 hc)]
  grind
set_option maxRecDepth 20000 in
theorem w49_271 {σ : gS} {K : gK} {t : Int32} (h : ((t < 0 → K (some (.ref 293)) σ) ∧ (¬ t < 0 → ((¬ t < 20 → K (some (.ref 293)) σ) ∧ (t < 20 → (0 ≤ t ∧ t < 20) ∧ K (some (.ref (gpl 272 t.toNatClampNeg))) σ))))) : gE 49 0 [some (.ref 271), some (.int t)] [] σ K :=
  gw_run (cy := 49) (cuts := []) (inl := []) (pf := gpf0) gpf0_ok 400 (by decide) h
theorem s49_271 {σ : gS} {K : gK} {t : Int32} (hc : 0 ≤ t ∧ t < 20) (hK : K (some (.ref (271 + 2 + t.toNatClampNeg))) σ) : gE 49 0 [some (.ref 271), some (.int t)] [] σ K := by
  refine w49_271 ?_
  simp only [gpl_7 _ (n20 hc), gpl_33 _ (n20 hc), gpl_61 _ (n20 hc), gpl_87 _ (n20 hc), gpl_116 _ (n20 hc), gpl_142 _ (n20 hc), gpl_168 _ (n20 hc), gpl_194 _ (n20 hc), gpl_220 _ (n20 hc), gpl_246 _ (n20 hc), gpl_272 _ (n20 hc), gpl_298 _ (n20 hc)]
  grind
set_option maxRecDepth 20000 in
theorem w49_297 {σ : gS} {K : gK} {t : Int32} (h : ((t < 0 → K (some (.ref 319)) σ) ∧ (¬ t < 0 → ((¬ t < 20 → K (some (.ref 319)) σ) ∧ (t < 20 → (0 ≤ t ∧ t < 20) ∧ K (some (.ref (gpl 298 t.toNatClampNeg))) σ))))) : gE 49 0 [some (.ref 297), some (.int t)] [] σ K :=
  gw_run (cy := 49) (cuts := []) (inl := []) (pf := gpf0) gpf0_ok 400 (by decide) h
theorem s49_297 {σ : gS} {K : gK} {t : Int32} (hc : 0 ≤ t ∧ t < 20) (hK : K (some (.ref (297 + 2 + t.toNatClampNeg))) σ) : gE 49 0 [some (.ref 297), some (.int t)] [] σ K := by
  refine w49_297 ?_
  simp only [gpl_7 _ (n20 hc), gpl_33 _ (n20 hc), gpl_61 _ (n20 hc), gpl_87 _ (n20 hc), gpl_116 _ (n20 hc), gpl_142 _ (n20 hc), gpl_168 _ (n20 hc), gpl_194 _ (n20 hc), gpl_220 _ (n20 hc), gpl_246 _ (n20 hc), gpl_272 _ (n20 hc), gpl_298 _ (n20 hc)]
  grind
noncomputable def f49 : gD := fun Lv σ => match Lv with
  | [some (.ref p), some (.int t)] => cond (Nat.beq p 6 || Nat.beq p 32 || Nat.beq p 60 || Nat.beq p 86 || Nat.beq p 115 || Nat.beq p 141 || Nat.beq p 167 || Nat.beq p 193 || Nat.beq p 219 || Nat.beq p 245 || Nat.beq p 271 || Nat.beq p 297) (some (some (0 ≤ t ∧ t < 20), some (.ref (p + 2 + t.toNatClampNeg)), σ)) none
  | _ => none
theorem ok49 : gFok 49 f49 := by
  intro Lv σ q h hc K hK
  unfold f49 at h
  split at h
  · rename_i p t
    obtain ⟨hb, h⟩ := c_no h
    have hb0 := hb
    rcases s_or hb0 with hb0 | hb0
    · rcases s_or hb0 with hb0 | hb0
      · rcases s_or hb0 with hb0 | hb0
        · rcases s_or hb0 with hb0 | hb0
          · rcases s_or hb0 with hb0 | hb0
            · rcases s_or hb0 with hb0 | hb0
              · rcases s_or hb0 with hb0 | hb0
                · rcases s_or hb0 with hb0 | hb0
                  · rcases s_or hb0 with hb0 | hb0
                    · rcases s_or hb0 with hb0 | hb0
                      · rcases s_or hb0 with hb0 | hb0
                        · have e := b_eq hb0
                          subst e
                          cases h
                          exact s49_6 (hc _ rfl) hK
                        · have e := b_eq hb0
                          subst e
                          cases h
                          exact s49_32 (hc _ rfl) hK
                      · have e := b_eq hb0
                        subst e
                        cases h
                        exact s49_60 (hc _ rfl) hK
                    · have e := b_eq hb0
                      subst e
                      cases h
                      exact s49_86 (hc _ rfl) hK
                  · have e := b_eq hb0
                    subst e
                    cases h
                    exact s49_115 (hc _ rfl) hK
                · have e := b_eq hb0
                  subst e
                  cases h
                  exact s49_141 (hc _ rfl) hK
              · have e := b_eq hb0
                subst e
                cases h
                exact s49_167 (hc _ rfl) hK
            · have e := b_eq hb0
              subst e
              cases h
              exact s49_193 (hc _ rfl) hK
          · have e := b_eq hb0
            subst e
            cases h
            exact s49_219 (hc _ rfl) hK
        · have e := b_eq hb0
          subst e
          cases h
          exact s49_245 (hc _ rfl) hK
      · have e := b_eq hb0
        subst e
        cases h
        exact s49_271 (hc _ rfl) hK
    · have e := b_eq hb0
      subst e
      cases h
      exact s49_297 (hc _ rfl) hK
  · cases h
set_option maxRecDepth 20000 in
theorem w50_6 {σ : gS} {K : gK} (h : K (some (.int ((σ 6 4) * 4))) σ) : gE 50 0 [some (.ref 6)] [] σ K :=
  gw_run (cy := 50) (cuts := []) (inl := []) (pf := gpf0) gpf0_ok 400 (by decide) h
theorem s50_6 {σ : gS} {K : gK} (hK : K (some (.int (σ 6 4 * 4))) σ) : gE 50 0 [some (.ref 6)] [] σ K := by
  exact w50_6 hK
set_option maxRecDepth 20000 in
theorem w50_32 {σ : gS} {K : gK} (h : K (some (.int ((σ 32 4) * 4))) σ) : gE 50 0 [some (.ref 32)] [] σ K :=
  gw_run (cy := 50) (cuts := []) (inl := []) (pf := gpf0) gpf0_ok 400 (by decide) h
theorem s50_32 {σ : gS} {K : gK} (hK : K (some (.int (σ 32 4 * 4))) σ) : gE 50 0 [some (.ref 32)] [] σ K := by
  exact w50_32 hK
noncomputable def f50 : gD := fun Lv σ => match Lv with
  | [some (.ref p)] => cond (Nat.beq p 6 || Nat.beq p 32) (some (none, some (.int (σ p 4 * 4)), σ)) none
  | _ => none
theorem ok50 : gFok 50 f50 := by
  intro Lv σ q h hc K hK
  unfold f50 at h
  split at h
  · rename_i p
    obtain ⟨hb, h⟩ := c_no h
    have hb0 := hb
    rcases s_or hb0 with hb0 | hb0
    · have e := b_eq hb0
      subst e
      cases h
      exact s50_6 hK
    · have e := b_eq hb0
      subst e
      cases h
      exact s50_32 hK
  · cases h
noncomputable def gpfA_l : List (Nat × gD) := (147, f147) :: (152, f152) :: (155, f155) :: (160, f160) :: (161, f161) :: (148, f148) :: (206, f206) :: (49, f49) :: (50, f50) :: []
noncomputable def gpfA : gP := gpl0 gpfA_l
theorem gpfA_ok : gPok gpfA := gpl0_cons ok147 (gpl0_cons ok152 (gpl0_cons ok155 (gpl0_cons ok160 (gpl0_cons ok161 (gpl0_cons ok148 (gpl0_cons ok206 (gpl0_cons ok49 (gpl0_cons ok50 (gpl0_nil)))))))))
-- text 8
/-! ROWS OF NUMBERS: counting, finding, adding up; the reference's row read -/
theorem g_forI {y pc : Nat} {K : gK} (n : Nat) (Lv : Nat → gL) (σf : Nat → gS) (Inv : Nat → Prop) (hend : Inv n → gE y pc (Lv n) [] (σf n) K) (hstep : ∀ k, k < n → Inv k → (Inv (k + 1) → gE y pc (Lv (k + 1)) [] (σf (k + 1)) K) → gE y pc (Lv k) [] (σf k) K) (k : Nat) (hk : k ≤ n) (hi : Inv k) : gE y pc (Lv k) [] (σf k) K := by
  obtain ⟨d, hd⟩ : ∃ d, d = n - k := ⟨_, rfl⟩
  induction d generalizing k with
  | zero =>
    have : k = n := by omega
    subst this
    exact hend hi
  | succ d ih => exact hstep k (by omega) hi (fun h => ih (k + 1) (by omega) h (by omega))
def fnd (P : Nat → Bool) : Nat → Int32
  | 0 => -2
  | n + 1 => if fnd P n = -2 then (if P n = true then iN n else -2) else fnd P n
theorem iN_ne {k : Nat} (h : k < 2147483648) : iN k ≠ -2 := by
  intro e
  have e2 := iN_int h
  rw [e] at e2
  have : (-2 : Int32).toInt = -2 := by decide
  omega
theorem fnd_none {P : Nat → Bool} : ∀ {n : Nat}, (∀ j, j < n → P j = false) → fnd P n = -2
  | 0, _ => rfl
  | n + 1, h => by
    unfold fnd
    rw [fnd_none (fun j hj => h j (by omega)), if_pos rfl, h n (by omega), if_neg (by decide)]
theorem fnd_some {P : Nat → Bool} {k : Nat} (hk : P k = true) (hj : ∀ j, j < k → P j = false) : ∀ {n : Nat}, n < 2147483648 → k < n → fnd P n = iN k
  | 0, _, h => absurd h (Nat.not_lt_zero k)
  | n + 1, hn, h => by
    unfold fnd
    rcases Nat.lt_or_ge k n with q | q
    · rw [fnd_some hk hj (by omega) q, if_neg (iN_ne (by omega))]
    · have : k = n := by omega
      subst this
      rw [fnd_none hj, if_pos rfl, if_pos hk]
def cnt (P : Nat → Bool) : Nat → Nat
  | 0 => 0
  | n + 1 => cnt P n + (if P n = true then 1 else 0)
def sm (g : Nat → Int32) : Nat → Int32
  | 0 => 0
  | n + 1 => sm g n + g n
theorem cnt_le (P : Nat → Bool) : ∀ n, cnt P n ≤ n
  | 0 => Nat.le_refl 0
  | n + 1 => by
    have := cnt_le P n
    unfold cnt
    split <;> omega
theorem cnt_t {P : Nat → Bool} {n : Nat} (h : P n = true) : cnt P (n + 1) = cnt P n + 1 := by
  show cnt P n + (if P n = true then 1 else 0) = _
  rw [if_pos h]
theorem cnt_f {P : Nat → Bool} {n : Nat} (h : ¬ P n = true) : cnt P (n + 1) = cnt P n := by
  show cnt P n + (if P n = true then 1 else 0) = _
  rw [if_neg h]
  rfl
theorem cnt_congr {P Q : Nat → Bool} : ∀ {n : Nat}, (∀ j, j < n → P j = Q j) → cnt P n = cnt Q n
  | 0, _ => rfl
  | n + 1, h => by unfold cnt; rw [cnt_congr (fun j hj => h j (by omega)), h n (by omega)]
theorem sm_congr {f g : Nat → Int32} : ∀ {n : Nat}, (∀ j, j < n → f j = g j) → sm f n = sm g n
  | 0, _ => rfl
  | n + 1, h => by unfold sm; rw [sm_congr (fun j hj => h j (by omega)), h n (by omega)]
theorem fnd_congr {P Q : Nat → Bool} : ∀ {n : Nat}, (∀ j, j < n → P j = Q j) → fnd P n = fnd Q n
  | 0, _ => rfl
  | n + 1, h => by unfold fnd; rw [fnd_congr (fun j hj => h j (by omega)), h n (by omega)]
/-- a train as a row of numbers (the reference's): 0 rows, 1 first, 2 time, 3 how many travellers, 4 .. 8 counts, from 9 on ten numbers for each traveller, 209 how many entries, from 210 on the entries -/
abbrev gW : Type := Nat → Int32
def nM (R : gW) : Nat := (R 3).toNatClampNeg
def fld (R : gW) (t f : Nat) : Int32 := R (9 + 10 * t + f)
theorem nM_of {R : gW} (h : 0 ≤ R 3 ∧ R 3 ≤ 20) : R 3 = iN (nM R) ∧ nM R ≤ 20 := by
  obtain ⟨h1, h2⟩ := iN_of h.1
  refine ⟨h1, ?_⟩
  have h3 : iN (nM R) ≤ iN 20 := by
    show iN (R 3).toNatClampNeg ≤ _
    rw [← h1]
    exact h.2
  exact (iN_le h2 (by decide)).mp h3
theorem ixn (f : Nat) (k : Nat) (hk : k < 20) (hf : f < 20) : (9 + 10 * iN k + iN f).toNatClampNeg = 9 + 10 * k + f := by
  have e : (9 + 10 * iN k + iN f : Int32) = iN (9 + 10 * k + f) := by
    show iN 9 + iN 10 * iN k + iN f = _
    rw [iN_mul, iN_add, iN_add]
  rw [e, iN_nat (by omega)]
theorem ixbn (f : Nat) (k : Nat) (hk : k < 20) (hf : f < 20) : 0 ≤ 9 + 10 * iN k + iN f ∧ 9 + 10 * iN k + iN f < 330 := by
  have e : (9 + 10 * iN k + iN f : Int32) = iN (9 + 10 * k + f) := by
    show iN 9 + iN 10 * iN k + iN f = _
    rw [iN_mul, iN_add, iN_add]
  rw [e]
  constructor
  · show iN 0 ≤ _
    exact (iN_le (by decide) (by omega)).mpr (by omega)
  · show _ < iN 330
    exact (iN_lt (by omega) (by decide)).mpr (by omega)
theorem ix0 {k : Nat} (hk : k < 20) : (9 + 10 * iN k + 0).toNatClampNeg = 9 + 10 * k + 0 := ixn 0 k hk (by decide)
theorem ixb0 {k : Nat} (hk : k < 20) : 0 ≤ 9 + 10 * iN k + 0 ∧ 9 + 10 * iN k + 0 < 330 := ixbn 0 k hk (by decide)
theorem ix1 {k : Nat} (hk : k < 20) : (9 + 10 * iN k + 1).toNatClampNeg = 9 + 10 * k + 1 := ixn 1 k hk (by decide)
theorem ixb1 {k : Nat} (hk : k < 20) : 0 ≤ 9 + 10 * iN k + 1 ∧ 9 + 10 * iN k + 1 < 330 := ixbn 1 k hk (by decide)
theorem ix2 {k : Nat} (hk : k < 20) : (9 + 10 * iN k + 2).toNatClampNeg = 9 + 10 * k + 2 := ixn 2 k hk (by decide)
theorem ixb2 {k : Nat} (hk : k < 20) : 0 ≤ 9 + 10 * iN k + 2 ∧ 9 + 10 * iN k + 2 < 330 := ixbn 2 k hk (by decide)
theorem ix3 {k : Nat} (hk : k < 20) : (9 + 10 * iN k + 3).toNatClampNeg = 9 + 10 * k + 3 := ixn 3 k hk (by decide)
theorem ixb3 {k : Nat} (hk : k < 20) : 0 ≤ 9 + 10 * iN k + 3 ∧ 9 + 10 * iN k + 3 < 330 := ixbn 3 k hk (by decide)
theorem ix4 {k : Nat} (hk : k < 20) : (9 + 10 * iN k + 4).toNatClampNeg = 9 + 10 * k + 4 := ixn 4 k hk (by decide)
theorem ixb4 {k : Nat} (hk : k < 20) : 0 ≤ 9 + 10 * iN k + 4 ∧ 9 + 10 * iN k + 4 < 330 := ixbn 4 k hk (by decide)
theorem ix5 {k : Nat} (hk : k < 20) : (9 + 10 * iN k + 5).toNatClampNeg = 9 + 10 * k + 5 := ixn 5 k hk (by decide)
theorem ixb5 {k : Nat} (hk : k < 20) : 0 ≤ 9 + 10 * iN k + 5 ∧ 9 + 10 * iN k + 5 < 330 := ixbn 5 k hk (by decide)
theorem ix6 {k : Nat} (hk : k < 20) : (9 + 10 * iN k + 6).toNatClampNeg = 9 + 10 * k + 6 := ixn 6 k hk (by decide)
theorem ixb6 {k : Nat} (hk : k < 20) : 0 ≤ 9 + 10 * iN k + 6 ∧ 9 + 10 * iN k + 6 < 330 := ixbn 6 k hk (by decide)
theorem ix7 {k : Nat} (hk : k < 20) : (9 + 10 * iN k + 7).toNatClampNeg = 9 + 10 * k + 7 := ixn 7 k hk (by decide)
theorem ixb7 {k : Nat} (hk : k < 20) : 0 ≤ 9 + 10 * iN k + 7 ∧ 9 + 10 * iN k + 7 < 330 := ixbn 7 k hk (by decide)
theorem ix8 {k : Nat} (hk : k < 20) : (9 + 10 * iN k + 8).toNatClampNeg = 9 + 10 * k + 8 := ixn 8 k hk (by decide)
theorem ixb8 {k : Nat} (hk : k < 20) : 0 ≤ 9 + 10 * iN k + 8 ∧ 9 + 10 * iN k + 8 < 330 := ixbn 8 k hk (by decide)
theorem ix9 {k : Nat} (hk : k < 20) : (9 + 10 * iN k + 9).toNatClampNeg = 9 + 10 * k + 9 := ixn 9 k hk (by decide)
theorem ixb9 {k : Nat} (hk : k < 20) : 0 ≤ 9 + 10 * iN k + 9 ∧ 9 + 10 * iN k + 9 < 330 := ixbn 9 k hk (by decide)
theorem ixc {c : Int32} (h : 0 ≤ c ∧ c < 330) : 0 ≤ c ∧ c < 330 := h
def fWho (R : gW) (x : Int32) : Int32 := fnd (fun t => decide (fld R t 0 = x)) (nM R)
