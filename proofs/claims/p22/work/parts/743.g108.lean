-- text 108
/-! THE REFERENCE: the setup text is written -/
/-- what the writer leaves: at most b bytes are written, nothing else is touched -/
noncomputable def Wb (σ : gS) (b : Nat) (τ : gS) : Prop := (∀ q, ¬ q = 323 → ¬ q = 331 → τ q = σ q) ∧ (∀ j, ¬ j = 17 → τ 323 j = σ 323 j) ∧ ∃ v, v ≤ b ∧ τ 323 17 = iN v
noncomputable def Wf (σ τ : gS) : Prop := (∀ q, ¬ q = 323 → ¬ q = 331 → τ q = σ q) ∧ ∀ j, ¬ j = 17 → τ 323 j = σ 323 j
theorem Wb_f {σ τ : gS} {b : Nat} (h : Wb σ b τ) : Wf σ τ := ⟨h.1, h.2.1⟩
theorem Wb_m {σ τ : gS} {b b' : Nat} (h : Wb σ b τ) (hb : b ≤ b') : Wb σ b' τ := by
  obtain ⟨h1, h2, v, hv, e⟩ := h
  exact ⟨h1, h2, v, by omega, e⟩
set_option maxRecDepth 20000 in
theorem w253 {σ : gS} {K : gK} {x : Int32} (h : (0 ≤ (σ 323 17) ∧ (σ 323 17) < 1700) ∧ K none (gup (gup σ 331 (σ 323 17).toNatClampNeg x) 323 17 (((gup σ 331 (σ 323 17).toNatClampNeg x) 323 17) + 1))) : gE 253 0 [some (.ref 323), some (.int x)] [] σ K :=
  gw_run (cy := 253) (cuts := []) (inl := []) (pf := gpen) gpen_ok 400 (by decide) h
theorem x253 {σ τ : gS} {P : gS → Prop} {b : Nat} {x : Int32} (h : Wb σ b τ) (hb : b + 1 ≤ 1700) (hP : ∀ τ', Wb σ (b + 1) τ' → P τ') : gXv 253 [some (.ref 323), some (.int x)] τ P := by
  obtain ⟨h1, h2, v, hv, e⟩ := h
  refine w253 ⟨?_, rfl, hP _ ⟨fun q q1 q2 => ?_, fun j hj => ?_, v + 1, by omega, ?_⟩⟩
  · rw [e]
    exact ⟨(iN_le (k := 0) (by decide) (by omega)).mpr (by omega), (iN_lt (m := 1700) (by omega) (by decide)).mpr (by omega)⟩
  · rw [← h1 q q1 q2]
    funext i
    rw [gup_ne (by omega), gup_ne (by omega)]
  · rw [gup_ne (by omega), gup_ne (by omega)]
    exact h2 j hj
  · rw [gup_at, gup_ne (by omega), e, iN_one]
set_option maxRecDepth 20000 in
theorem w259 {σ : gS} {K : gK} {n : Int32} (h : ((¬ 9 < n → (10 : Int32) ≠ 0 ∧ gXv 253 [some (.ref 323), some (.int (48 + (n - n / 10 * 10)))] σ (fun s1 => K none s1)) ∧ (9 < n → (10 : Int32) ≠ 0 ∧ gXv 253 [some (.ref 323), some (.int (48 + (n / 10)))] σ (fun s2 => (10 : Int32) ≠ 0 ∧ gXv 253 [some (.ref 323), some (.int (48 + (n - n / 10 * 10)))] s2 (fun s3 => K none s3))))) : gE 259 0 [some (.ref 323), some (.int n)] [] σ K :=
  gw_run (cy := 259) (cuts := []) (inl := []) (pf := gpen) gpen_ok 400 (by decide) h
theorem x259 {σ τ : gS} {P : gS → Prop} {b : Nat} {n : Int32} (h : Wb σ b τ) (hb : b + 2 ≤ 1700) (hP : ∀ τ', Wb σ (b + 2) τ' → P τ') : gXv 259 [some (.ref 323), some (.int n)] τ P :=
  w259 ⟨fun _ => ⟨by decide, x253 h (by omega) (fun τ1 h1 => ⟨rfl, hP τ1 (Wb_m h1 (by omega))⟩)⟩, fun _ => ⟨by decide, x253 h (by omega) (fun τ1 h1 => ⟨by decide, x253 h1 (by omega) (fun τ2 h2 => ⟨rfl, hP τ2 h2⟩)⟩)⟩⟩
set_option maxRecDepth 20000 in
theorem w260 {σ : gS} {K : gK} {n : Int32} (h : gXv 253 [some (.ref 323), some (.int 32)] σ (fun s1 => gXv 259 [some (.ref 323), some (.int n)] s1 (fun s2 => K none s2))) : gE 260 0 [some (.ref 323), some (.int n)] [] σ K :=
  gw_run (cy := 260) (cuts := []) (inl := []) (pf := gpen) gpen_ok 400 (by decide) h
theorem x260 {σ τ : gS} {P : gS → Prop} {b : Nat} {n : Int32} (h : Wb σ b τ) (hb : b + 3 ≤ 1700) (hP : ∀ τ', Wb σ (b + 3) τ' → P τ') : gXv 260 [some (.ref 323), some (.int n)] τ P :=
  w260 (x253 h (by omega) (fun τ1 h1 => x259 h1 (by omega) (fun τ2 h2 => ⟨rfl, hP τ2 (Wb_m h2 (by omega))⟩)))
set_option maxRecDepth 20000 in
theorem w261 {σ : gS} {K : gK} {w : Int32} (h : gE 261 2 [some (.ref 323), some (.int w), some (.int 0)] [] σ K) : gE 261 0 [some (.ref 323), some (.int w), none] [] σ K :=
  gw_run (cy := 261) (cuts := [2]) (inl := []) (pf := gpen) gpen_ok 400 (by decide) h
set_option maxRecDepth 20000 in
theorem c261_2 {σ : gS} {K : gK} {l1 l2 : Int32} (h : (0 ≤ l1) ∧ ((¬ l2 < (iN (nsz l1)) → K none σ) ∧ (l2 < (iN (nsz l1)) → (0 ≤ l1 ∧ (0 ≤ l2 ∧ l2 < 20)) ∧ gXv 253 [some (.ref 323), some (.int (96 + (iN (lOf l1 l2.toNatClampNeg))))] σ (fun s1 => gE 261 2 [some (.ref 323), some (.int l1), some (.int (l2 + 1))] [] s1 K)))) : gE 261 2 [some (.ref 323), some (.int l1), some (.int l2)] [] σ K :=
  gw_run (cy := 261) (cuts := [2]) (inl := []) (pf := gpen) gpen_ok 400 (by decide) h
theorem x261 {σ τ : gS} {P : gS → Prop} {b s : Nat} {w : Int32} (h0 : 0 ≤ w) (hs : nsz w ≤ s) (h : Wb σ b τ) (hb : b + s ≤ 1700) (hP : ∀ τ', Wb σ (b + s) τ' → P τ') : gXv 261 [some (.ref 323), some (.int w), none] τ P := by
  have n8 : nsz w ≤ 8 := nsN_le _ _
  have key : ∀ d k, k + d = nsz w → ∀ τ, Wb σ (b + k) τ → gE 261 2 [some (.ref 323), some (.int w), some (.int (iN k))] [] τ (fun r σ1 => r = none ∧ P σ1) := by
    intro d
    induction d with
    | zero =>
      intro k hk τ h
      exact c261_2 ⟨h0, fun _ => ⟨rfl, hP τ (Wb_m h (by omega))⟩, fun z => absurd ((iN_lt (by omega) (by omega)).mp z) (by omega)⟩
    | succ d ih =>
      intro k hk τ h
      refine c261_2 ⟨h0, fun z => absurd ((iN_lt (by omega) (by omega)).mpr (by omega)) z, fun _ => ⟨⟨h0, b20 (by omega)⟩, x253 h (by omega) (fun τ1 h1 => ?_)⟩⟩
      rw [iN_one]
      exact ih (k + 1) (by omega) τ1 h1
  exact w261 (key (nsz w) 0 (by omega) τ h)
set_option maxRecDepth 20000 in
theorem w262 {σ : gS} {K : gK} {w n : Int32} (h : ((¬ n = 0 → gXv 253 [some (.ref 323), some (.int 32)] σ (fun s1 => gXv 261 [some (.ref 323), some (.int w), none] s1 (fun s2 => gXv 260 [some (.ref 323), some (.int n)] s2 (fun s3 => K none s3)))) ∧ (n = 0 → K none σ))) : gE 262 0 [some (.ref 323), some (.int w), some (.int n)] [] σ K :=
  gw_run (cy := 262) (cuts := []) (inl := []) (pf := gpen) gpen_ok 400 (by decide) h
theorem x262 {σ τ : gS} {P : gS → Prop} {b s : Nat} {w n : Int32} (h0 : 0 ≤ w) (hs : nsz w ≤ s) (h : Wb σ b τ) (hb : b + (s + 4) ≤ 1700) (hP : ∀ τ', Wb σ (b + (s + 4)) τ' → P τ') : gXv 262 [some (.ref 323), some (.int w), some (.int n)] τ P :=
  w262 ⟨fun _ => x253 h (by omega) (fun τ1 h1 => x261 h0 hs h1 (by omega) (fun τ2 h2 => x260 h2 (by omega) (fun τ3 h3 => ⟨rfl, hP τ3 (Wb_m h3 (by omega))⟩))), fun _ => ⟨rfl, hP τ (Wb_m h (by omega))⟩⟩
set_option maxRecDepth 20000 in
theorem w263 {σ : gS} {K : gK} {w n : Int32} (h : ((¬ n = 0 → gXv 253 [some (.ref 323), some (.int 32)] σ (fun s1 => gXv 261 [some (.ref 323), some (.int w), none] s1 (fun s2 => gXv 253 [some (.ref 323), some (.int 32)] s2 (fun s3 => ((¬ n < 0 → gXv 253 [some (.ref 323), some (.int 43)] s3 (fun s4 => ((¬ n < 0 → gXv 259 [some (.ref 323), some (.int n)] s4 (fun s5 => K none s5)) ∧ (n < 0 → gXv 259 [some (.ref 323), some (.int (-n))] s4 (fun s6 => K none s6))))) ∧ (n < 0 → gXv 253 [some (.ref 323), some (.int 45)] s3 (fun s7 => ((¬ n < 0 → gXv 259 [some (.ref 323), some (.int n)] s7 (fun s8 => K none s8)) ∧ (n < 0 → gXv 259 [some (.ref 323), some (.int (-n))] s7 (fun s9 => K none s9)))))))))) ∧ (n = 0 → K none σ))) : gE 263 0 [some (.ref 323), some (.int w), some (.int n)] [] σ K :=
  gw_run (cy := 263) (cuts := []) (inl := []) (pf := gpen) gpen_ok 400 (by decide) h
theorem x263 {σ τ : gS} {P : gS → Prop} {b s : Nat} {w n : Int32} (h0 : 0 ≤ w) (hs : nsz w ≤ s) (h : Wb σ b τ) (hb : b + (s + 5) ≤ 1700) (hP : ∀ τ', Wb σ (b + (s + 5)) τ' → P τ') : gXv 263 [some (.ref 323), some (.int w), some (.int n)] τ P := by
  have r : ∀ (m : Int32) τ3, Wb σ (b + 1 + s + 1 + 1) τ3 → gXv 259 [some (.ref 323), some (.int m)] τ3 (fun σ1 => (none : Option Value) = none ∧ P σ1) := fun m τ3 h3 => x259 h3 (by omega) (fun τ4 h4 => ⟨rfl, hP τ4 (Wb_m h4 (by omega))⟩)
  exact w263 ⟨fun _ => x253 h (by omega) (fun τ1 h1 => x261 h0 hs h1 (by omega) (fun τ2 h2 => x253 h2 (by omega) (fun τ3 h3 => ⟨fun _ => x253 h3 (by omega) (fun τ4 h4 => ⟨fun _ => r _ τ4 h4, fun _ => r _ τ4 h4⟩), fun _ => x253 h3 (by omega) (fun τ4 h4 => ⟨fun _ => r _ τ4 h4, fun _ => r _ τ4 h4⟩)⟩))), fun _ => ⟨rfl, hP τ (Wb_m h (by omega))⟩⟩
set_option maxRecDepth 20000 in
theorem w265 {σ : gS} {K : gK} {n : Int32} (h : ((¬ n = 0 → gXv 253 [some (.ref 323), some (.int 32)] σ (fun s1 => gXv 261 [some (.ref 323), some (.int 284954995), none] s1 (fun s2 => gXv 253 [some (.ref 323), some (.int 32)] s2 (fun s3 => ((¬ 99 < n → ((¬ 9 < n → (10 : Int32) ≠ 0 ∧ gXv 253 [some (.ref 323), some (.int (48 + (n - n / 10 * 10)))] s3 (fun s4 => K none s4)) ∧ (9 < n → (10 : Int32) ≠ 0 ∧ (10 : Int32) ≠ 0 ∧ gXv 253 [some (.ref 323), some (.int (48 + ((n / 10) - (n / 10) / 10 * 10)))] s3 (fun s5 => (10 : Int32) ≠ 0 ∧ gXv 253 [some (.ref 323), some (.int (48 + (n - n / 10 * 10)))] s5 (fun s6 => K none s6))))) ∧ (99 < n → (100 : Int32) ≠ 0 ∧ gXv 253 [some (.ref 323), some (.int (48 + (n / 100)))] s3 (fun s7 => ((¬ 9 < n → (10 : Int32) ≠ 0 ∧ gXv 253 [some (.ref 323), some (.int (48 + (n - n / 10 * 10)))] s7 (fun s8 => K none s8)) ∧ (9 < n → (10 : Int32) ≠ 0 ∧ (10 : Int32) ≠ 0 ∧ gXv 253 [some (.ref 323), some (.int (48 + ((n / 10) - (n / 10) / 10 * 10)))] s7 (fun s9 => (10 : Int32) ≠ 0 ∧ gXv 253 [some (.ref 323), some (.int (48 + (n - n / 10 * 10)))] s9 (fun s10 => K none s10))))))))))) ∧ (n = 0 → K none σ))) : gE 265 0 [some (.ref 323), some (.int n)] [] σ K :=
  gw_run (cy := 265) (cuts := []) (inl := []) (pf := gpen) gpen_ok 400 (by decide) h
theorem x265 {σ τ : gS} {P : gS → Prop} {b : Nat} {n : Int32} (h : Wb σ b τ) (hb : b + 11 ≤ 1700) (hP : ∀ τ', Wb σ (b + 11) τ' → P τ') : gXv 265 [some (.ref 323), some (.int n)] τ P := by
  have t10 : (10 : Int32) ≠ 0 := by decide
  have t100 : (100 : Int32) ≠ 0 := by decide
  have e : ∀ (m : Int32) c τ3, c + 1 ≤ b + 11 → Wb σ c τ3 → gXv 253 [some (.ref 323), some (.int m)] τ3 (fun σ1 => (none : Option Value) = none ∧ P σ1) := fun m c τ3 hc h3 => x253 h3 (by omega) (fun τ4 h4 => ⟨rfl, hP τ4 (Wb_m h4 (by omega))⟩)
  exact w265 ⟨fun _ => x253 h (by omega) (fun τ1 h1 => x261 (s := 6) (by decide) (by decide +kernel) h1 (by omega) (fun τ2 h2 => x253 h2 (by omega) (fun τ3 h3 => ⟨fun _ => ⟨fun _ => ⟨t10, e _ _ τ3 (by omega) h3⟩, fun _ => ⟨t10, t10, x253 h3 (by omega) (fun τ4 h4 => ⟨t10, e _ _ τ4 (by omega) h4⟩)⟩⟩, fun _ => ⟨t100, x253 h3 (by omega) (fun τ4 h4 => ⟨fun _ => ⟨t10, e _ _ τ4 (by omega) h4⟩, fun _ => ⟨t10, t10, x253 h4 (by omega) (fun τ5 h5 => ⟨t10, e _ _ τ5 (by omega) h5⟩)⟩⟩)⟩⟩))), fun _ => ⟨rfl, hP τ (Wb_m h (by omega))⟩⟩
set_option maxRecDepth 20000 in
theorem w264 {σ : gS} {K : gK} {t : Int32} (h : gXv 261 [some (.ref 323), some (.int 377669), none] σ (fun s1 => (0 ≤ (9 + 10 * t + (0 : Int32)) ∧ (9 + 10 * t + (0 : Int32)) < 330) ∧ gXv 260 [some (.ref 323), some (.int (s1 324 (9 + 10 * t + (0 : Int32)).toNatClampNeg))] s1 (fun s2 => gE 264 20 [some (.ref 323), some (.int t)] [] s2 K))) : gE 264 0 [some (.ref 323), some (.int t)] [] σ K :=
  gw_run (cy := 264) (cuts := [20, 41, 67, 83, 99, 115, 184, 199, 232]) (inl := []) (pf := gpen) gpen_ok 400 (by decide) h
set_option maxRecDepth 20000 in
theorem c264_20 {σ : gS} {K : gK} {l1 : Int32} (h : gXv 253 [some (.ref 323), some (.int 32)] σ (fun s1 => (0 ≤ (9 + 10 * l1 + (9 : Int32)) ∧ (9 + 10 * l1 + (9 : Int32)) < 330) ∧ gXv 261 [some (.ref 323), some (.int (s1 324 (9 + 10 * l1 + (9 : Int32)).toNatClampNeg)), none] s1 (fun s2 => gE 264 41 [some (.ref 323), some (.int l1)] [] s2 K))) : gE 264 20 [some (.ref 323), some (.int l1)] [] σ K :=
  gw_run (cy := 264) (cuts := [20, 41, 67, 83, 99, 115, 184, 199, 232]) (inl := []) (pf := gpen) gpen_ok 400 (by decide) h
set_option maxRecDepth 20000 in
theorem c264_41 {σ : gS} {K : gK} {l1 : Int32} (h : (0 ≤ (9 + 10 * l1 + (1 : Int32)) ∧ (9 + 10 * l1 + (1 : Int32)) < 330) ∧ ((¬ (σ 324 (9 + 10 * l1 + (1 : Int32)).toNatClampNeg) = 1 → gE 264 67 [some (.ref 323), some (.int l1)] [] σ K) ∧ ((σ 324 (9 + 10 * l1 + (1 : Int32)).toNatClampNeg) = 1 → gXv 253 [some (.ref 323), some (.int 32)] σ (fun s1 => gXv 261 [some (.ref 323), some (.int 291828332), none] s1 (fun s2 => gE 264 67 [some (.ref 323), some (.int l1)] [] s2 K))))) : gE 264 41 [some (.ref 323), some (.int l1)] [] σ K :=
  gw_run (cy := 264) (cuts := [20, 41, 67, 83, 99, 115, 184, 199, 232]) (inl := []) (pf := gpen) gpen_ok 400 (by decide) h
set_option maxRecDepth 20000 in
theorem c264_67 {σ : gS} {K : gK} {l1 : Int32} (h : (0 ≤ (9 + 10 * l1 + (2 : Int32)) ∧ (9 + 10 * l1 + (2 : Int32)) < 330) ∧ gXv 262 [some (.ref 323), some (.int 86887672), some (.int (σ 324 (9 + 10 * l1 + (2 : Int32)).toNatClampNeg))] σ (fun s1 => gE 264 83 [some (.ref 323), some (.int l1)] [] s1 K)) : gE 264 67 [some (.ref 323), some (.int l1)] [] σ K :=
  gw_run (cy := 264) (cuts := [20, 41, 67, 83, 99, 115, 184, 199, 232]) (inl := []) (pf := gpen) gpen_ok 400 (by decide) h
set_option maxRecDepth 20000 in
theorem c264_83 {σ : gS} {K : gK} {l1 : Int32} (h : (0 ≤ (9 + 10 * l1 + (3 : Int32)) ∧ (9 + 10 * l1 + (3 : Int32)) < 330) ∧ gXv 263 [some (.ref 323), some (.int 335086736), some (.int (σ 324 (9 + 10 * l1 + (3 : Int32)).toNatClampNeg))] σ (fun s1 => gE 264 99 [some (.ref 323), some (.int l1)] [] s1 K)) : gE 264 83 [some (.ref 323), some (.int l1)] [] σ K :=
  gw_run (cy := 264) (cuts := [20, 41, 67, 83, 99, 115, 184, 199, 232]) (inl := []) (pf := gpen) gpen_ok 400 (by decide) h
set_option maxRecDepth 20000 in
theorem c264_99 {σ : gS} {K : gK} {l1 : Int32} (h : (0 ≤ (9 + 10 * l1 + (4 : Int32)) ∧ (9 + 10 * l1 + (4 : Int32)) < 330) ∧ gXv 263 [some (.ref 323), some (.int 692581), some (.int (σ 324 (9 + 10 * l1 + (4 : Int32)).toNatClampNeg))] σ (fun s1 => gE 264 115 [some (.ref 323), some (.int l1)] [] s1 K)) : gE 264 99 [some (.ref 323), some (.int l1)] [] σ K :=
  gw_run (cy := 264) (cuts := [20, 41, 67, 83, 99, 115, 184, 199, 232]) (inl := []) (pf := gpen) gpen_ok 400 (by decide) h
set_option maxRecDepth 20000 in
theorem c264_115 {σ : gS} {K : gK} {l1 : Int32} (h : (0 ≤ (9 + 10 * l1 + (5 : Int32)) ∧ (9 + 10 * l1 + (5 : Int32)) < 330) ∧ ((0 < (σ 324 (9 + 10 * l1 + (5 : Int32)).toNatClampNeg) → gXv 253 [some (.ref 323), some (.int 32)] σ (fun s1 => gXv 261 [some (.ref 323), some (.int 13550), none] s1 (fun s2 => (0 ≤ (9 + 10 * l1 + (5 : Int32)) ∧ (9 + 10 * l1 + (5 : Int32)) < 330) ∧ gXv 260 [some (.ref 323), some (.int (s2 324 (9 + 10 * l1 + (5 : Int32)).toNatClampNeg))] s2 (fun s3 => (0 ≤ (9 + 10 * l1 + (6 : Int32)) ∧ (9 + 10 * l1 + (6 : Int32)) < 330) ∧ gXv 260 [some (.ref 323), some (.int (s3 324 (9 + 10 * l1 + (6 : Int32)).toNatClampNeg))] s3 (fun s4 => gE 264 184 [some (.ref 323), some (.int l1)] [] s4 K))))) ∧ (¬ 0 < (σ 324 (9 + 10 * l1 + (5 : Int32)).toNatClampNeg) → (0 ≤ (9 + 10 * l1 + (6 : Int32)) ∧ (9 + 10 * l1 + (6 : Int32)) < 330) ∧ ((¬ 0 < (σ 324 (9 + 10 * l1 + (6 : Int32)).toNatClampNeg) → gE 264 184 [some (.ref 323), some (.int l1)] [] σ K) ∧ (0 < (σ 324 (9 + 10 * l1 + (6 : Int32)).toNatClampNeg) → gXv 253 [some (.ref 323), some (.int 32)] σ (fun s5 => gXv 261 [some (.ref 323), some (.int 13550), none] s5 (fun s6 => (0 ≤ (9 + 10 * l1 + (5 : Int32)) ∧ (9 + 10 * l1 + (5 : Int32)) < 330) ∧ gXv 260 [some (.ref 323), some (.int (s6 324 (9 + 10 * l1 + (5 : Int32)).toNatClampNeg))] s6 (fun s7 => (0 ≤ (9 + 10 * l1 + (6 : Int32)) ∧ (9 + 10 * l1 + (6 : Int32)) < 330) ∧ gXv 260 [some (.ref 323), some (.int (s7 324 (9 + 10 * l1 + (6 : Int32)).toNatClampNeg))] s7 (fun s8 => gE 264 184 [some (.ref 323), some (.int l1)] [] s8 K))))))))) : gE 264 115 [some (.ref 323), some (.int l1)] [] σ K :=
  gw_run (cy := 264) (cuts := [20, 41, 67, 83, 99, 115, 184, 199, 232]) (inl := []) (pf := gpen) gpen_ok 400 (by decide) h
set_option maxRecDepth 20000 in
theorem c264_184 {σ : gS} {K : gK} {l1 : Int32} (h : (0 ≤ (9 + 10 * l1 + (7 : Int32)) ∧ (9 + 10 * l1 + (7 : Int32)) < 330) ∧ gXv 265 [some (.ref 323), some (.int (σ 324 (9 + 10 * l1 + (7 : Int32)).toNatClampNeg))] σ (fun s1 => gE 264 199 [some (.ref 323), some (.int l1)] [] s1 K)) : gE 264 184 [some (.ref 323), some (.int l1)] [] σ K :=
  gw_run (cy := 264) (cuts := [20, 41, 67, 83, 99, 115, 184, 199, 232]) (inl := []) (pf := gpen) gpen_ok 400 (by decide) h
set_option maxRecDepth 20000 in
theorem c264_199 {σ : gS} {K : gK} {l1 : Int32} (h : (0 ≤ (9 + 10 * l1 + (8 : Int32)) ∧ (9 + 10 * l1 + (8 : Int32)) < 330) ∧ ((¬ (σ 324 (9 + 10 * l1 + (8 : Int32)).toNatClampNeg) < 99 → gE 264 232 [some (.ref 323), some (.int l1)] [] σ K) ∧ ((σ 324 (9 + 10 * l1 + (8 : Int32)).toNatClampNeg) < 99 → (0 ≤ (9 + 10 * l1 + (8 : Int32)) ∧ (9 + 10 * l1 + (8 : Int32)) < 330) ∧ gXv 262 [some (.ref 323), some (.int 388978), some (.int (σ 324 (9 + 10 * l1 + (8 : Int32)).toNatClampNeg))] σ (fun s1 => gE 264 232 [some (.ref 323), some (.int l1)] [] s1 K)))) : gE 264 199 [some (.ref 323), some (.int l1)] [] σ K :=
  gw_run (cy := 264) (cuts := [20, 41, 67, 83, 99, 115, 184, 199, 232]) (inl := []) (pf := gpen) gpen_ok 400 (by decide) h
set_option maxRecDepth 20000 in
theorem c264_232 {σ : gS} {K : gK} {l1 : Int32} (h : gXv 253 [some (.ref 323), some (.int 59)] σ (fun s1 => K none s1)) : gE 264 232 [some (.ref 323), some (.int l1)] [] σ K :=
  gw_run (cy := 264) (cuts := [20, 41, 67, 83, 99, 115, 184, 199, 232]) (inl := []) (pf := gpen) gpen_ok 400 (by decide) h
theorem x264 {σ τ : gS} {P : gS → Prop} {c m : Nat} (hn : nmG (σ 324)) (hm : m < nM (σ 324)) (h20 : m < 20) (h : Wb σ c τ) (hb : c + 81 ≤ 1700) (hP : ∀ τ', Wb σ (c + 81) τ' → P τ') : gXv 264 [some (.ref 323), some (.int (iN m))] τ P := by
  have e24 : ∀ {b τ}, Wb σ b τ → τ 324 = σ 324 := fun h => h.1 324 (by decide) (by decide)
  obtain ⟨n0, n1, n5⟩ := hn m hm
  have a232 : ∀ τ, Wb σ (c + 80) τ → gE 264 232 [some (.ref 323), some (.int (iN m))] [] τ (fun r σ1 => r = none ∧ P σ1) := fun τ h => c264_232 (x253 h (by omega) (fun τ1 h1 => ⟨rfl, hP τ1 h1⟩))
  have a199 : ∀ τ, Wb σ (c + 72) τ → gE 264 199 [some (.ref 323), some (.int (iN m))] [] τ (fun r σ1 => r = none ∧ P σ1) := fun τ h => c264_199 ⟨ixb8 h20, fun _ => a232 τ (Wb_m h (by omega)), fun _ => ⟨ixb8 h20, x262 (s := 4) (by decide) (by decide +kernel) h (by omega) (fun τ1 h1 => a232 τ1 h1)⟩⟩
  have a184 : ∀ τ, Wb σ (c + 61) τ → gE 264 184 [some (.ref 323), some (.int (iN m))] [] τ (fun r σ1 => r = none ∧ P σ1) := fun τ h => c264_184 ⟨ixb7 h20, x265 h (by omega) (fun τ1 h1 => a199 τ1 h1)⟩
  have r : ∀ τ, Wb σ (c + 51) τ → gXv 253 [some (.ref 323), some (.int 32)] τ (fun s1 => gXv 261 [some (.ref 323), some (.int 13550), none] s1 (fun s2 => (0 ≤ (9 + 10 * iN m + (5 : Int32)) ∧ (9 + 10 * iN m + (5 : Int32)) < 330) ∧ gXv 260 [some (.ref 323), some (.int (s2 324 (9 + 10 * iN m + (5 : Int32)).toNatClampNeg))] s2 (fun s3 => (0 ≤ (9 + 10 * iN m + (6 : Int32)) ∧ (9 + 10 * iN m + (6 : Int32)) < 330) ∧ gXv 260 [some (.ref 323), some (.int (s3 324 (9 + 10 * iN m + (6 : Int32)).toNatClampNeg))] s3 (fun s4 => gE 264 184 [some (.ref 323), some (.int (iN m))] [] s4 (fun r σ1 => r = none ∧ P σ1))))) := fun τ h => x253 h (by omega) (fun τ1 h1 => x261 (s := 3) (by decide) (by decide +kernel) h1 (by omega) (fun τ2 h2 => ⟨ixb5 h20, x260 h2 (by omega) (fun τ3 h3 => ⟨ixb6 h20, x260 h3 (by omega) (fun τ4 h4 => a184 τ4 (Wb_m h4 (by omega)))⟩)⟩))
  have a115 : ∀ τ, Wb σ (c + 51) τ → gE 264 115 [some (.ref 323), some (.int (iN m))] [] τ (fun r σ1 => r = none ∧ P σ1) := fun τ h => c264_115 ⟨ixb5 h20, fun _ => r τ h, fun _ => ⟨ixb6 h20, fun _ => a184 τ (Wb_m h (by omega)), fun _ => r τ h⟩⟩
  have a99 : ∀ τ, Wb σ (c + 41) τ → gE 264 99 [some (.ref 323), some (.int (iN m))] [] τ (fun r σ1 => r = none ∧ P σ1) := fun τ h => c264_99 ⟨ixb4 h20, x263 (s := 5) (by decide) (by decide +kernel) h (by omega) (fun τ1 h1 => a115 τ1 h1)⟩
  have a83 : ∀ τ, Wb σ (c + 30) τ → gE 264 83 [some (.ref 323), some (.int (iN m))] [] τ (fun r σ1 => r = none ∧ P σ1) := fun τ h => c264_83 ⟨ixb3 h20, x263 (s := 6) (by decide) (by decide +kernel) h (by omega) (fun τ1 h1 => a99 τ1 h1)⟩
  have a67 : ∀ τ, Wb σ (c + 20) τ → gE 264 67 [some (.ref 323), some (.int (iN m))] [] τ (fun r σ1 => r = none ∧ P σ1) := fun τ h => c264_67 ⟨ixb2 h20, x262 (s := 6) (by decide) (by decide +kernel) h (by omega) (fun τ1 h1 => a83 τ1 h1)⟩
  have a41 : ∀ τ, Wb σ (c + 13) τ → gE 264 41 [some (.ref 323), some (.int (iN m))] [] τ (fun r σ1 => r = none ∧ P σ1) := fun τ h => c264_41 ⟨ixb1 h20, fun _ => a67 τ (Wb_m h (by omega)), fun _ => x253 h (by omega) (fun τ1 h1 => x261 (s := 6) (by decide) (by decide +kernel) h1 (by omega) (fun τ2 h2 => a67 τ2 h2))⟩
  have a20 : ∀ τ, Wb σ (c + 7) τ → gE 264 20 [some (.ref 323), some (.int (iN m))] [] τ (fun r σ1 => r = none ∧ P σ1) := fun τ h => c264_20 (x253 h (by omega) (fun τ1 h1 => ⟨ixb9 h20, by
    rw [ix9 h20, e24 h1]
    exact x261 (s := 5) n0 n5 h1 (by omega) (fun τ2 h2 => a41 τ2 h2)⟩))
  exact w264 (x261 (s := 4) (by decide) (by decide +kernel) h (by omega) (fun τ1 h1 => ⟨ixb0 h20, x260 h1 (by omega) (fun τ2 h2 => a20 τ2 h2)⟩))
set_option maxRecDepth 20000 in
theorem w266 {σ : gS} {K : gK} (h : gXv 261 [some (.ref 323), some (.int 10984100), none] (gup σ 323 17 0) (fun s1 => gE 266 11 [some (.ref 323), none] [] s1 K)) : gE 266 0 [some (.ref 323), none] [] σ K :=
  gw_run (cy := 266) (cuts := [11, 21, 33, 43, 51]) (inl := []) (pf := gpen) gpen_ok 400 (by decide) h
set_option maxRecDepth 20000 in
theorem c266_11 {σ : gS} {K : gK} (h : (0 ≤ (0 : Int32) ∧ (0 : Int32) < 330) ∧ gXv 260 [some (.ref 323), some (.int (σ 324 0))] σ (fun s1 => gE 266 21 [some (.ref 323), none] [] s1 K)) : gE 266 11 [some (.ref 323), none] [] σ K :=
  gw_run (cy := 266) (cuts := [11, 21, 33, 43, 51]) (inl := []) (pf := gpen) gpen_ok 400 (by decide) h
set_option maxRecDepth 20000 in
theorem c266_21 {σ : gS} {K : gK} (h : gXv 253 [some (.ref 323), some (.int 32)] σ (fun s1 => gXv 261 [some (.ref 323), some (.int 3379448), none] s1 (fun s2 => gE 266 33 [some (.ref 323), none] [] s2 K))) : gE 266 21 [some (.ref 323), none] [] σ K :=
  gw_run (cy := 266) (cuts := [11, 21, 33, 43, 51]) (inl := []) (pf := gpen) gpen_ok 400 (by decide) h
set_option maxRecDepth 20000 in
theorem c266_33 {σ : gS} {K : gK} (h : (0 ≤ (1 : Int32) ∧ (1 : Int32) < 330) ∧ gXv 260 [some (.ref 323), some (.int (σ 324 1))] σ (fun s1 => gE 266 43 [some (.ref 323), none] [] s1 K)) : gE 266 33 [some (.ref 323), none] [] σ K :=
  gw_run (cy := 266) (cuts := [11, 21, 33, 43, 51]) (inl := []) (pf := gpen) gpen_ok 400 (by decide) h
set_option maxRecDepth 20000 in
theorem c266_43 {σ : gS} {K : gK} (h : gXv 253 [some (.ref 323), some (.int 59)] σ (fun s1 => gE 266 51 [some (.ref 323), some (.int 0)] [] s1 K)) : gE 266 43 [some (.ref 323), none] [] σ K :=
  gw_run (cy := 266) (cuts := [11, 21, 33, 43, 51]) (inl := []) (pf := gpen) gpen_ok 400 (by decide) h
set_option maxRecDepth 20000 in
theorem c266_51 {σ : gS} {K : gK} {l1 : Int32} (h : (0 ≤ (3 : Int32) ∧ (3 : Int32) < 330) ∧ ((¬ l1 < (σ 324 3) → K none σ) ∧ (l1 < (σ 324 3) → gXv 264 [some (.ref 323), some (.int l1)] σ (fun s1 => gE 266 51 [some (.ref 323), some (.int (l1 + 1))] [] s1 K)))) : gE 266 51 [some (.ref 323), some (.int l1)] [] σ K :=
  gw_run (cy := 266) (cuts := [11, 21, 33, 43, 51]) (inl := []) (pf := gpen) gpen_ok 400 (by decide) h
theorem x266 {σ : gS} {P : gS → Prop} (h3 : 0 ≤ σ 324 3 ∧ σ 324 3 ≤ 20) (hn : nmG (σ 324)) (hP : ∀ τ', Wb σ 1638 τ' → P τ') : gXv 266 [some (.ref 323), none] σ P := by
  have hN := (nM_of h3).2
  have e24 : ∀ {b τ}, Wb σ b τ → τ 324 = σ 324 := fun h => h.1 324 (by decide) (by decide)
  have a51 : ∀ d k, k + d = nM (σ 324) → ∀ τ, Wb σ (18 + 81 * k) τ → gE 266 51 [some (.ref 323), some (.int (iN k))] [] τ (fun r σ1 => r = none ∧ P σ1) := by
    intro d
    induction d with
    | zero =>
      intro k hk τ h
      refine c266_51 ⟨by decide, fun _ => ⟨rfl, hP τ (Wb_m h (by omega))⟩, fun z => ?_⟩
      rw [e24 h, nM_lt h3 (by omega)] at z
      omega
    | succ d ih =>
      intro k hk τ h
      refine c266_51 ⟨by decide, fun z => ?_, fun _ => x264 hn (by omega) (by omega) h (by omega) (fun τ1 h1 => ?_)⟩
      · rw [e24 h, nM_lt h3 (by omega)] at z
        omega
      · rw [iN_one]
        exact ih (k + 1) (by omega) τ1 (Wb_m h1 (by omega))
  have h0 : Wb σ 0 (gup σ 323 17 0) := ⟨fun q q1 q2 => funext fun i => gup_ne (by omega), fun j hj => gup_ne (by omega), 0, Nat.le_refl _, gup_at _ _ _⟩
  exact w266 (x261 (s := 5) (by decide) (by decide +kernel) h0 (by omega) (fun τ1 h1 => c266_11 ⟨by decide, x260 h1 (by omega) (fun τ2 h2 => c266_21 (x253 h2 (by omega) (fun τ3 h3 => x261 (s := 5) (by decide) (by decide +kernel) h3 (by omega) (fun τ4 h4 => c266_33 ⟨by decide, x260 h4 (by omega) (fun τ5 h5 => c266_43 (x253 h5 (by omega) (fun τ6 h6 => a51 (nM (σ 324)) 0 (by omega) τ6 (Wb_m h6 (by omega)))))⟩))))⟩))
set_option maxRecDepth 20000 in
theorem w254 {σ : gS} {K : gK} {i : Int32} (h : ((¬ i < (σ 323 17) → K (some (.int (-2))) σ) ∧ (i < (σ 323 17) → (0 ≤ i ∧ i < 1700) ∧ K (some (.int (σ 331 i.toNatClampNeg))) σ))) : gE 254 0 [some (.ref 323), some (.int i)] [] σ K :=
  gw_run (cy := 254) (cuts := []) (inl := []) (pf := gpen) gpen_ok 400 (by decide) h
set_option maxRecDepth 20000 in
theorem w267 {σ : gS} {K : gK} (h : gXv 266 [some (.ref 323), none] σ (fun s1 => K (some (.int (s1 323 17))) s1)) : gE 267 0 [some (.ref 323)] [] σ K :=
  gw_run (cy := 267) (cuts := []) (inl := []) (pf := gpen) gpen_ok 400 (by decide) h
set_option maxRecDepth 20000 in
theorem w268 {σ : gS} {K : gK} {i : Int32} (h : ((¬ i < 0 → gXv 266 [some (.ref 323), none] σ (fun s1 => gXi 254 [some (.ref 323), some (.int i)] s1 (fun x2 s2 => K (some (.int x2)) s2))) ∧ (i < 0 → K (some (.int (-1))) σ))) : gE 268 0 [some (.ref 323), some (.int i)] [] σ K :=
  gw_run (cy := 268) (cuts := []) (inl := []) (pf := gpen) gpen_ok 400 (by decide) h
theorem x267 {σ : gS} {P : Int32 → gS → Prop} (h3 : 0 ≤ σ 324 3 ∧ σ 324 3 ≤ 20) (hn : nmG (σ 324)) (hP : ∀ x τ', Wf σ τ' → P x τ') : gXi 267 [some (.ref 323)] σ P :=
  w267 (x266 h3 hn (fun τ h => ⟨_, rfl, hP _ τ (Wb_f h)⟩))
theorem x268 {σ : gS} {P : Int32 → gS → Prop} {i : Int32} (h3 : 0 ≤ σ 324 3 ∧ σ 324 3 ≤ 20) (hn : nmG (σ 324)) (hP : ∀ x τ', Wf σ τ' → P x τ') : gXi 268 [some (.ref 323), some (.int i)] σ P := by
  refine w268 ⟨fun hi => x266 h3 hn (fun τ h => ?_), fun hi => ⟨_, rfl, hP _ σ ?_⟩⟩
  · have h' := Wb_f h
    obtain ⟨h1, h2, v, hv, e⟩ := h
    refine w254 ⟨fun _ => ⟨_, rfl, _, rfl, hP _ τ h'⟩, fun z => ⟨⟨Int32.not_lt.mp hi, ?_⟩, _, rfl, _, rfl, hP _ τ h'⟩⟩
    rw [e] at z
    have l : iN v ≤ 1638 := (iN_le (m := 1638) (by omega) (by decide)).mpr hv
    grind
  · exact ⟨fun _ _ _ => rfl, fun _ _ => rfl⟩
