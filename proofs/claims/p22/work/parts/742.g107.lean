-- text 107
/-! THE CLASS: the writer touches nothing but itself; the plan -/
noncomputable def Uw (σ τ : gS) : Prop := ∀ q, ¬ q = 5 → τ q = σ q
theorem Uw_r (σ : gS) : Uw σ σ := fun _ _ => rfl
theorem Uw_t {σ τ ρ : gS} (h : Uw σ τ) (h2 : Uw τ ρ) : Uw σ ρ := fun q hq => (h2 q hq).trans (h q hq)
theorem Uw_g {σ τ : gS} {j : Nat} {x : Int32} (h : Uw σ τ) : Uw σ (gup τ 5 j x) := fun q hq => by
  rw [← h q hq]
  exact funext fun i => gup_ne (by omega)
noncomputable def UK (σ : gS) (P : gS → Prop) : Prop := ∀ τ, Uw σ τ → P τ
theorem UK_t {σ τ : gS} {P : gS → Prop} (h : UK σ P) (u : Uw σ τ) : UK τ P := fun ρ v => h ρ (Uw_t u v)
set_option maxRecDepth 20000 in
theorem w40 {σ : gS} {K : gK} {x : Int32} (h : ((¬ (σ 5 0) = (σ 5 1) → K none (gup σ 5 0 ((σ 5 0) + 1))) ∧ ((σ 5 0) = (σ 5 1) → K none (gup (gup σ 5 2 x) 5 0 (((gup σ 5 2 x) 5 0) + 1))))) : gE 40 0 [some (.ref 5), some (.int x)] [] σ K :=
  gw_run (cy := 40) (cuts := []) (inl := []) (pf := gpek) gpek_ok 400 (by decide) h
theorem x40 {σ : gS} {P : gS → Prop} {x : Int32} (h : UK σ P) : gXv 40 [some (.ref 5), some (.int x)] σ P :=
  w40 ⟨fun _ => ⟨rfl, h _ (Uw_g (Uw_r σ))⟩, fun _ => ⟨rfl, h _ (Uw_g (Uw_g (Uw_r σ)))⟩⟩
set_option maxRecDepth 20000 in
theorem w39_1000011 {σ : gS} {K : gK} (h : gE 39 2 [some (.ref 5), some (.ref 1000011), some (.int 0)] [] σ K) : gE 39 0 [some (.ref 5), some (.ref 1000011), none] [] σ K :=
  gw_run (cy := 39) (cuts := [2]) (inl := []) (pf := gpek) gpek_ok 400 (by decide) h
set_option maxRecDepth 20000 in
theorem v39_1000011 {σ : gS} {K : gK} {k : Int32} (h : ((¬ k < 6 → K none σ) ∧ (k < 6 → (0 ≤ k ∧ k < 6) ∧ gXv 40 [some (.ref 5), some (.int ((jv_byt.getD 10 []).getD k.toNatClampNeg 0))] σ (fun s1 => gE 39 2 [some (.ref 5), some (.ref 1000011), some (.int (k + 1))] [] s1 K)))) : gE 39 2 [some (.ref 5), some (.ref 1000011), some (.int k)] [] σ K :=
  gw_run (cy := 39) (cuts := [2]) (inl := []) (pf := gpek) gpek_ok 400 (by decide) h
theorem x39_1000011 {σ : gS} {P : gS → Prop} (h : UK σ P) : gXv 39 [some (.ref 5), some (.ref 1000011), none] σ P := by
  have key : ∀ d k, k + d = 6 → ∀ σ, UK σ P → gE 39 2 [some (.ref 5), some (.ref 1000011), some (.int (iN k))] [] σ (fun r σ1 => r = none ∧ P σ1) := by
    intro d
    induction d with
    | zero =>
      intro k hk σ h
      have : k = 6 := by omega
      subst this
      exact v39_1000011 ⟨fun _ => ⟨rfl, h σ (Uw_r σ)⟩, fun z => absurd z (by decide)⟩
    | succ d ih =>
      intro k hk σ h
      refine v39_1000011 ⟨fun z => absurd ((iN_lt (m := 6) (by omega) (by decide)).mpr (by omega)) z, fun z => ⟨⟨(iN_le (k := 0) (by decide) (by omega)).mpr (by omega), z⟩, x40 (fun τ u => ?_)⟩⟩
      rw [iN_one]
      exact ih (k + 1) (by omega) τ (UK_t h u)
  exact w39_1000011 (key 6 0 rfl σ h)
set_option maxRecDepth 20000 in
theorem w39_1000012 {σ : gS} {K : gK} (h : gE 39 2 [some (.ref 5), some (.ref 1000012), some (.int 0)] [] σ K) : gE 39 0 [some (.ref 5), some (.ref 1000012), none] [] σ K :=
  gw_run (cy := 39) (cuts := [2]) (inl := []) (pf := gpek) gpek_ok 400 (by decide) h
set_option maxRecDepth 20000 in
theorem v39_1000012 {σ : gS} {K : gK} {k : Int32} (h : ((¬ k < 7 → K none σ) ∧ (k < 7 → (0 ≤ k ∧ k < 7) ∧ gXv 40 [some (.ref 5), some (.int ((jv_byt.getD 11 []).getD k.toNatClampNeg 0))] σ (fun s1 => gE 39 2 [some (.ref 5), some (.ref 1000012), some (.int (k + 1))] [] s1 K)))) : gE 39 2 [some (.ref 5), some (.ref 1000012), some (.int k)] [] σ K :=
  gw_run (cy := 39) (cuts := [2]) (inl := []) (pf := gpek) gpek_ok 400 (by decide) h
theorem x39_1000012 {σ : gS} {P : gS → Prop} (h : UK σ P) : gXv 39 [some (.ref 5), some (.ref 1000012), none] σ P := by
  have key : ∀ d k, k + d = 7 → ∀ σ, UK σ P → gE 39 2 [some (.ref 5), some (.ref 1000012), some (.int (iN k))] [] σ (fun r σ1 => r = none ∧ P σ1) := by
    intro d
    induction d with
    | zero =>
      intro k hk σ h
      have : k = 7 := by omega
      subst this
      exact v39_1000012 ⟨fun _ => ⟨rfl, h σ (Uw_r σ)⟩, fun z => absurd z (by decide)⟩
    | succ d ih =>
      intro k hk σ h
      refine v39_1000012 ⟨fun z => absurd ((iN_lt (m := 7) (by omega) (by decide)).mpr (by omega)) z, fun z => ⟨⟨(iN_le (k := 0) (by decide) (by omega)).mpr (by omega), z⟩, x40 (fun τ u => ?_)⟩⟩
      rw [iN_one]
      exact ih (k + 1) (by omega) τ (UK_t h u)
  exact w39_1000012 (key 7 0 rfl σ h)
set_option maxRecDepth 20000 in
theorem w39_1000013 {σ : gS} {K : gK} (h : gE 39 2 [some (.ref 5), some (.ref 1000013), some (.int 0)] [] σ K) : gE 39 0 [some (.ref 5), some (.ref 1000013), none] [] σ K :=
  gw_run (cy := 39) (cuts := [2]) (inl := []) (pf := gpek) gpek_ok 400 (by decide) h
set_option maxRecDepth 20000 in
theorem v39_1000013 {σ : gS} {K : gK} {k : Int32} (h : ((¬ k < 5 → K none σ) ∧ (k < 5 → (0 ≤ k ∧ k < 5) ∧ gXv 40 [some (.ref 5), some (.int ((jv_byt.getD 12 []).getD k.toNatClampNeg 0))] σ (fun s1 => gE 39 2 [some (.ref 5), some (.ref 1000013), some (.int (k + 1))] [] s1 K)))) : gE 39 2 [some (.ref 5), some (.ref 1000013), some (.int k)] [] σ K :=
  gw_run (cy := 39) (cuts := [2]) (inl := []) (pf := gpek) gpek_ok 400 (by decide) h
theorem x39_1000013 {σ : gS} {P : gS → Prop} (h : UK σ P) : gXv 39 [some (.ref 5), some (.ref 1000013), none] σ P := by
  have key : ∀ d k, k + d = 5 → ∀ σ, UK σ P → gE 39 2 [some (.ref 5), some (.ref 1000013), some (.int (iN k))] [] σ (fun r σ1 => r = none ∧ P σ1) := by
    intro d
    induction d with
    | zero =>
      intro k hk σ h
      have : k = 5 := by omega
      subst this
      exact v39_1000013 ⟨fun _ => ⟨rfl, h σ (Uw_r σ)⟩, fun z => absurd z (by decide)⟩
    | succ d ih =>
      intro k hk σ h
      refine v39_1000013 ⟨fun z => absurd ((iN_lt (m := 5) (by omega) (by decide)).mpr (by omega)) z, fun z => ⟨⟨(iN_le (k := 0) (by decide) (by omega)).mpr (by omega), z⟩, x40 (fun τ u => ?_)⟩⟩
      rw [iN_one]
      exact ih (k + 1) (by omega) τ (UK_t h u)
  exact w39_1000013 (key 5 0 rfl σ h)
set_option maxRecDepth 20000 in
theorem w39_1000014 {σ : gS} {K : gK} (h : gE 39 2 [some (.ref 5), some (.ref 1000014), some (.int 0)] [] σ K) : gE 39 0 [some (.ref 5), some (.ref 1000014), none] [] σ K :=
  gw_run (cy := 39) (cuts := [2]) (inl := []) (pf := gpek) gpek_ok 400 (by decide) h
set_option maxRecDepth 20000 in
theorem v39_1000014 {σ : gS} {K : gK} {k : Int32} (h : ((¬ k < 7 → K none σ) ∧ (k < 7 → (0 ≤ k ∧ k < 7) ∧ gXv 40 [some (.ref 5), some (.int ((jv_byt.getD 13 []).getD k.toNatClampNeg 0))] σ (fun s1 => gE 39 2 [some (.ref 5), some (.ref 1000014), some (.int (k + 1))] [] s1 K)))) : gE 39 2 [some (.ref 5), some (.ref 1000014), some (.int k)] [] σ K :=
  gw_run (cy := 39) (cuts := [2]) (inl := []) (pf := gpek) gpek_ok 400 (by decide) h
theorem x39_1000014 {σ : gS} {P : gS → Prop} (h : UK σ P) : gXv 39 [some (.ref 5), some (.ref 1000014), none] σ P := by
  have key : ∀ d k, k + d = 7 → ∀ σ, UK σ P → gE 39 2 [some (.ref 5), some (.ref 1000014), some (.int (iN k))] [] σ (fun r σ1 => r = none ∧ P σ1) := by
    intro d
    induction d with
    | zero =>
      intro k hk σ h
      have : k = 7 := by omega
      subst this
      exact v39_1000014 ⟨fun _ => ⟨rfl, h σ (Uw_r σ)⟩, fun z => absurd z (by decide)⟩
    | succ d ih =>
      intro k hk σ h
      refine v39_1000014 ⟨fun z => absurd ((iN_lt (m := 7) (by omega) (by decide)).mpr (by omega)) z, fun z => ⟨⟨(iN_le (k := 0) (by decide) (by omega)).mpr (by omega), z⟩, x40 (fun τ u => ?_)⟩⟩
      rw [iN_one]
      exact ih (k + 1) (by omega) τ (UK_t h u)
  exact w39_1000014 (key 7 0 rfl σ h)
set_option maxRecDepth 20000 in
theorem w39_1000015 {σ : gS} {K : gK} (h : gE 39 2 [some (.ref 5), some (.ref 1000015), some (.int 0)] [] σ K) : gE 39 0 [some (.ref 5), some (.ref 1000015), none] [] σ K :=
  gw_run (cy := 39) (cuts := [2]) (inl := []) (pf := gpek) gpek_ok 400 (by decide) h
set_option maxRecDepth 20000 in
theorem v39_1000015 {σ : gS} {K : gK} {k : Int32} (h : ((¬ k < 8 → K none σ) ∧ (k < 8 → (0 ≤ k ∧ k < 8) ∧ gXv 40 [some (.ref 5), some (.int ((jv_byt.getD 14 []).getD k.toNatClampNeg 0))] σ (fun s1 => gE 39 2 [some (.ref 5), some (.ref 1000015), some (.int (k + 1))] [] s1 K)))) : gE 39 2 [some (.ref 5), some (.ref 1000015), some (.int k)] [] σ K :=
  gw_run (cy := 39) (cuts := [2]) (inl := []) (pf := gpek) gpek_ok 400 (by decide) h
theorem x39_1000015 {σ : gS} {P : gS → Prop} (h : UK σ P) : gXv 39 [some (.ref 5), some (.ref 1000015), none] σ P := by
  have key : ∀ d k, k + d = 8 → ∀ σ, UK σ P → gE 39 2 [some (.ref 5), some (.ref 1000015), some (.int (iN k))] [] σ (fun r σ1 => r = none ∧ P σ1) := by
    intro d
    induction d with
    | zero =>
      intro k hk σ h
      have : k = 8 := by omega
      subst this
      exact v39_1000015 ⟨fun _ => ⟨rfl, h σ (Uw_r σ)⟩, fun z => absurd z (by decide)⟩
    | succ d ih =>
      intro k hk σ h
      refine v39_1000015 ⟨fun z => absurd ((iN_lt (m := 8) (by omega) (by decide)).mpr (by omega)) z, fun z => ⟨⟨(iN_le (k := 0) (by decide) (by omega)).mpr (by omega), z⟩, x40 (fun τ u => ?_)⟩⟩
      rw [iN_one]
      exact ih (k + 1) (by omega) τ (UK_t h u)
  exact w39_1000015 (key 8 0 rfl σ h)
set_option maxRecDepth 20000 in
theorem w39_1000016 {σ : gS} {K : gK} (h : gE 39 2 [some (.ref 5), some (.ref 1000016), some (.int 0)] [] σ K) : gE 39 0 [some (.ref 5), some (.ref 1000016), none] [] σ K :=
  gw_run (cy := 39) (cuts := [2]) (inl := []) (pf := gpek) gpek_ok 400 (by decide) h
set_option maxRecDepth 20000 in
theorem v39_1000016 {σ : gS} {K : gK} {k : Int32} (h : ((¬ k < 8 → K none σ) ∧ (k < 8 → (0 ≤ k ∧ k < 8) ∧ gXv 40 [some (.ref 5), some (.int ((jv_byt.getD 15 []).getD k.toNatClampNeg 0))] σ (fun s1 => gE 39 2 [some (.ref 5), some (.ref 1000016), some (.int (k + 1))] [] s1 K)))) : gE 39 2 [some (.ref 5), some (.ref 1000016), some (.int k)] [] σ K :=
  gw_run (cy := 39) (cuts := [2]) (inl := []) (pf := gpek) gpek_ok 400 (by decide) h
theorem x39_1000016 {σ : gS} {P : gS → Prop} (h : UK σ P) : gXv 39 [some (.ref 5), some (.ref 1000016), none] σ P := by
  have key : ∀ d k, k + d = 8 → ∀ σ, UK σ P → gE 39 2 [some (.ref 5), some (.ref 1000016), some (.int (iN k))] [] σ (fun r σ1 => r = none ∧ P σ1) := by
    intro d
    induction d with
    | zero =>
      intro k hk σ h
      have : k = 8 := by omega
      subst this
      exact v39_1000016 ⟨fun _ => ⟨rfl, h σ (Uw_r σ)⟩, fun z => absurd z (by decide)⟩
    | succ d ih =>
      intro k hk σ h
      refine v39_1000016 ⟨fun z => absurd ((iN_lt (m := 8) (by omega) (by decide)).mpr (by omega)) z, fun z => ⟨⟨(iN_le (k := 0) (by decide) (by omega)).mpr (by omega), z⟩, x40 (fun τ u => ?_)⟩⟩
      rw [iN_one]
      exact ih (k + 1) (by omega) τ (UK_t h u)
  exact w39_1000016 (key 8 0 rfl σ h)
set_option maxRecDepth 20000 in
theorem w39_1000017 {σ : gS} {K : gK} (h : gE 39 2 [some (.ref 5), some (.ref 1000017), some (.int 0)] [] σ K) : gE 39 0 [some (.ref 5), some (.ref 1000017), none] [] σ K :=
  gw_run (cy := 39) (cuts := [2]) (inl := []) (pf := gpek) gpek_ok 400 (by decide) h
set_option maxRecDepth 20000 in
theorem v39_1000017 {σ : gS} {K : gK} {k : Int32} (h : ((¬ k < 7 → K none σ) ∧ (k < 7 → (0 ≤ k ∧ k < 7) ∧ gXv 40 [some (.ref 5), some (.int ((jv_byt.getD 16 []).getD k.toNatClampNeg 0))] σ (fun s1 => gE 39 2 [some (.ref 5), some (.ref 1000017), some (.int (k + 1))] [] s1 K)))) : gE 39 2 [some (.ref 5), some (.ref 1000017), some (.int k)] [] σ K :=
  gw_run (cy := 39) (cuts := [2]) (inl := []) (pf := gpek) gpek_ok 400 (by decide) h
theorem x39_1000017 {σ : gS} {P : gS → Prop} (h : UK σ P) : gXv 39 [some (.ref 5), some (.ref 1000017), none] σ P := by
  have key : ∀ d k, k + d = 7 → ∀ σ, UK σ P → gE 39 2 [some (.ref 5), some (.ref 1000017), some (.int (iN k))] [] σ (fun r σ1 => r = none ∧ P σ1) := by
    intro d
    induction d with
    | zero =>
      intro k hk σ h
      have : k = 7 := by omega
      subst this
      exact v39_1000017 ⟨fun _ => ⟨rfl, h σ (Uw_r σ)⟩, fun z => absurd z (by decide)⟩
    | succ d ih =>
      intro k hk σ h
      refine v39_1000017 ⟨fun z => absurd ((iN_lt (m := 7) (by omega) (by decide)).mpr (by omega)) z, fun z => ⟨⟨(iN_le (k := 0) (by decide) (by omega)).mpr (by omega), z⟩, x40 (fun τ u => ?_)⟩⟩
      rw [iN_one]
      exact ih (k + 1) (by omega) τ (UK_t h u)
  exact w39_1000017 (key 7 0 rfl σ h)
set_option maxRecDepth 20000 in
theorem w39_1000018 {σ : gS} {K : gK} (h : gE 39 2 [some (.ref 5), some (.ref 1000018), some (.int 0)] [] σ K) : gE 39 0 [some (.ref 5), some (.ref 1000018), none] [] σ K :=
  gw_run (cy := 39) (cuts := [2]) (inl := []) (pf := gpek) gpek_ok 400 (by decide) h
set_option maxRecDepth 20000 in
theorem v39_1000018 {σ : gS} {K : gK} {k : Int32} (h : ((¬ k < 5 → K none σ) ∧ (k < 5 → (0 ≤ k ∧ k < 5) ∧ gXv 40 [some (.ref 5), some (.int ((jv_byt.getD 17 []).getD k.toNatClampNeg 0))] σ (fun s1 => gE 39 2 [some (.ref 5), some (.ref 1000018), some (.int (k + 1))] [] s1 K)))) : gE 39 2 [some (.ref 5), some (.ref 1000018), some (.int k)] [] σ K :=
  gw_run (cy := 39) (cuts := [2]) (inl := []) (pf := gpek) gpek_ok 400 (by decide) h
theorem x39_1000018 {σ : gS} {P : gS → Prop} (h : UK σ P) : gXv 39 [some (.ref 5), some (.ref 1000018), none] σ P := by
  have key : ∀ d k, k + d = 5 → ∀ σ, UK σ P → gE 39 2 [some (.ref 5), some (.ref 1000018), some (.int (iN k))] [] σ (fun r σ1 => r = none ∧ P σ1) := by
    intro d
    induction d with
    | zero =>
      intro k hk σ h
      have : k = 5 := by omega
      subst this
      exact v39_1000018 ⟨fun _ => ⟨rfl, h σ (Uw_r σ)⟩, fun z => absurd z (by decide)⟩
    | succ d ih =>
      intro k hk σ h
      refine v39_1000018 ⟨fun z => absurd ((iN_lt (m := 5) (by omega) (by decide)).mpr (by omega)) z, fun z => ⟨⟨(iN_le (k := 0) (by decide) (by omega)).mpr (by omega), z⟩, x40 (fun τ u => ?_)⟩⟩
      rw [iN_one]
      exact ih (k + 1) (by omega) τ (UK_t h u)
  exact w39_1000018 (key 5 0 rfl σ h)
set_option maxRecDepth 20000 in
theorem w39_1000019 {σ : gS} {K : gK} (h : gE 39 2 [some (.ref 5), some (.ref 1000019), some (.int 0)] [] σ K) : gE 39 0 [some (.ref 5), some (.ref 1000019), none] [] σ K :=
  gw_run (cy := 39) (cuts := [2]) (inl := []) (pf := gpek) gpek_ok 400 (by decide) h
set_option maxRecDepth 20000 in
theorem v39_1000019 {σ : gS} {K : gK} {k : Int32} (h : ((¬ k < 8 → K none σ) ∧ (k < 8 → (0 ≤ k ∧ k < 8) ∧ gXv 40 [some (.ref 5), some (.int ((jv_byt.getD 18 []).getD k.toNatClampNeg 0))] σ (fun s1 => gE 39 2 [some (.ref 5), some (.ref 1000019), some (.int (k + 1))] [] s1 K)))) : gE 39 2 [some (.ref 5), some (.ref 1000019), some (.int k)] [] σ K :=
  gw_run (cy := 39) (cuts := [2]) (inl := []) (pf := gpek) gpek_ok 400 (by decide) h
theorem x39_1000019 {σ : gS} {P : gS → Prop} (h : UK σ P) : gXv 39 [some (.ref 5), some (.ref 1000019), none] σ P := by
  have key : ∀ d k, k + d = 8 → ∀ σ, UK σ P → gE 39 2 [some (.ref 5), some (.ref 1000019), some (.int (iN k))] [] σ (fun r σ1 => r = none ∧ P σ1) := by
    intro d
    induction d with
    | zero =>
      intro k hk σ h
      have : k = 8 := by omega
      subst this
      exact v39_1000019 ⟨fun _ => ⟨rfl, h σ (Uw_r σ)⟩, fun z => absurd z (by decide)⟩
    | succ d ih =>
      intro k hk σ h
      refine v39_1000019 ⟨fun z => absurd ((iN_lt (m := 8) (by omega) (by decide)).mpr (by omega)) z, fun z => ⟨⟨(iN_le (k := 0) (by decide) (by omega)).mpr (by omega), z⟩, x40 (fun τ u => ?_)⟩⟩
      rw [iN_one]
      exact ih (k + 1) (by omega) τ (UK_t h u)
  exact w39_1000019 (key 8 0 rfl σ h)
set_option maxRecDepth 20000 in
theorem w39_1000020 {σ : gS} {K : gK} (h : gE 39 2 [some (.ref 5), some (.ref 1000020), some (.int 0)] [] σ K) : gE 39 0 [some (.ref 5), some (.ref 1000020), none] [] σ K :=
  gw_run (cy := 39) (cuts := [2]) (inl := []) (pf := gpek) gpek_ok 400 (by decide) h
set_option maxRecDepth 20000 in
theorem v39_1000020 {σ : gS} {K : gK} {k : Int32} (h : ((¬ k < 6 → K none σ) ∧ (k < 6 → (0 ≤ k ∧ k < 6) ∧ gXv 40 [some (.ref 5), some (.int ((jv_byt.getD 19 []).getD k.toNatClampNeg 0))] σ (fun s1 => gE 39 2 [some (.ref 5), some (.ref 1000020), some (.int (k + 1))] [] s1 K)))) : gE 39 2 [some (.ref 5), some (.ref 1000020), some (.int k)] [] σ K :=
  gw_run (cy := 39) (cuts := [2]) (inl := []) (pf := gpek) gpek_ok 400 (by decide) h
theorem x39_1000020 {σ : gS} {P : gS → Prop} (h : UK σ P) : gXv 39 [some (.ref 5), some (.ref 1000020), none] σ P := by
  have key : ∀ d k, k + d = 6 → ∀ σ, UK σ P → gE 39 2 [some (.ref 5), some (.ref 1000020), some (.int (iN k))] [] σ (fun r σ1 => r = none ∧ P σ1) := by
    intro d
    induction d with
    | zero =>
      intro k hk σ h
      have : k = 6 := by omega
      subst this
      exact v39_1000020 ⟨fun _ => ⟨rfl, h σ (Uw_r σ)⟩, fun z => absurd z (by decide)⟩
    | succ d ih =>
      intro k hk σ h
      refine v39_1000020 ⟨fun z => absurd ((iN_lt (m := 6) (by omega) (by decide)).mpr (by omega)) z, fun z => ⟨⟨(iN_le (k := 0) (by decide) (by omega)).mpr (by omega), z⟩, x40 (fun τ u => ?_)⟩⟩
      rw [iN_one]
      exact ih (k + 1) (by omega) τ (UK_t h u)
  exact w39_1000020 (key 6 0 rfl σ h)
set_option maxRecDepth 20000 in
theorem w38 {σ : gS} {K : gK} {n : Int32} (h : gE 38 5 [some (.ref 5), some (.int n), some (.int 0), some (.int 100000)] [] σ K) : gE 38 0 [some (.ref 5), some (.int n), none, none] [] σ K :=
  gw_run (cy := 38) (cuts := [5]) (inl := []) (pf := gpek) gpek_ok 400 (by decide) h
set_option maxRecDepth 20000 in
theorem v38 {σ : gS} {K : gK} {n b u : Int32} (h : ((¬ 0 < u → K none σ) ∧ (0 < u → ((¬ b = 0 → (((1 : Int32) = 0 → (10 : Int32) ≠ 0 ∧ gE 38 5 [some (.ref 5), some (.int n), some (.int 1), some (.int (u / 10))] [] σ K) ∧ (¬ (1 : Int32) = 0 → u ≠ 0 ∧ (10 : Int32) ≠ 0 ∧ gXv 40 [some (.ref 5), some (.int (48 + ((n / u) - (n / u) / 10 * 10)))] σ (fun s1 => (10 : Int32) ≠ 0 ∧ gE 38 5 [some (.ref 5), some (.int n), some (.int 1), some (.int (u / 10))] [] s1 K)))) ∧ (b = 0 → ((¬ n < u → (((1 : Int32) = 0 → (10 : Int32) ≠ 0 ∧ gE 38 5 [some (.ref 5), some (.int n), some (.int 1), some (.int (u / 10))] [] σ K) ∧ (¬ (1 : Int32) = 0 → u ≠ 0 ∧ (10 : Int32) ≠ 0 ∧ gXv 40 [some (.ref 5), some (.int (48 + ((n / u) - (n / u) / 10 * 10)))] σ (fun s2 => (10 : Int32) ≠ 0 ∧ gE 38 5 [some (.ref 5), some (.int n), some (.int 1), some (.int (u / 10))] [] s2 K)))) ∧ (n < u → ((¬ u = 1 → (((0 : Int32) = 0 → (10 : Int32) ≠ 0 ∧ gE 38 5 [some (.ref 5), some (.int n), some (.int 0), some (.int (u / 10))] [] σ K) ∧ (¬ (0 : Int32) = 0 → u ≠ 0 ∧ (10 : Int32) ≠ 0 ∧ gXv 40 [some (.ref 5), some (.int (48 + ((n / u) - (n / u) / 10 * 10)))] σ (fun s3 => (10 : Int32) ≠ 0 ∧ gE 38 5 [some (.ref 5), some (.int n), some (.int 0), some (.int (u / 10))] [] s3 K)))) ∧ (u = 1 → (((1 : Int32) = 0 → (10 : Int32) ≠ 0 ∧ gE 38 5 [some (.ref 5), some (.int n), some (.int 1), some (.int (u / 10))] [] σ K) ∧ (¬ (1 : Int32) = 0 → u ≠ 0 ∧ (10 : Int32) ≠ 0 ∧ gXv 40 [some (.ref 5), some (.int (48 + ((n / u) - (n / u) / 10 * 10)))] σ (fun s4 => (10 : Int32) ≠ 0 ∧ gE 38 5 [some (.ref 5), some (.int n), some (.int 1), some (.int (u / 10))] [] s4 K)))))))))))) : gE 38 5 [some (.ref 5), some (.int n), some (.int b), some (.int u)] [] σ K :=
  gw_run (cy := 38) (cuts := [5]) (inl := []) (pf := gpek) gpek_ok 400 (by decide) h
theorem y38 {P : gS → Prop} {n u v : Int32} (hu : 0 < u) (hv : u / 10 = v) (hn : ∀ b σ, UK σ P → gE 38 5 [some (.ref 5), some (.int n), some (.int b), some (.int v)] [] σ (fun r σ1 => r = none ∧ P σ1)) : ∀ b σ, UK σ P → gE 38 5 [some (.ref 5), some (.int n), some (.int b), some (.int u)] [] σ (fun r σ1 => r = none ∧ P σ1) := by
  intro b σ h
  have u0 : u ≠ 0 := fun z => by rw [z] at hu; exact absurd hu (by decide)
  refine v38 ?_
  rw [hv]
  have t10 : (10 : Int32) ≠ 0 := by decide
  refine ⟨fun z => absurd hu z, fun _ => ⟨fun _ => ⟨fun z => absurd z (by decide), fun _ => ⟨u0, t10, x40 (fun τ w => ⟨t10, hn _ τ (UK_t h w)⟩)⟩⟩, fun _ => ⟨fun _ => ⟨fun z => absurd z (by decide), fun _ => ⟨u0, t10, x40 (fun τ w => ⟨t10, hn _ τ (UK_t h w)⟩)⟩⟩, fun _ => ⟨fun _ => ⟨fun _ => ⟨t10, hn _ σ h⟩, fun z => absurd rfl z⟩, fun _ => ⟨fun z => absurd z (by decide), fun _ => ⟨u0, t10, x40 (fun τ w => ⟨t10, hn _ τ (UK_t h w)⟩)⟩⟩⟩⟩⟩⟩
theorem x38 {σ : gS} {P : gS → Prop} {n : Int32} (h : UK σ P) : gXv 38 [some (.ref 5), some (.int n), none, none] σ P := by
  have a0 : ∀ b σ, UK σ P → gE 38 5 [some (.ref 5), some (.int n), some (.int b), some (.int 0)] [] σ (fun r σ1 => r = none ∧ P σ1) := fun b σ h => v38 ⟨fun _ => ⟨rfl, h σ (Uw_r σ)⟩, fun z => absurd z (by decide)⟩
  have a1 := y38 (u := 1) (by decide) (by decide) a0
  have a2 := y38 (u := 10) (by decide) (by decide) a1
  have a3 := y38 (u := 100) (by decide) (by decide) a2
  have a4 := y38 (u := 1000) (by decide) (by decide) a3
  have a5 := y38 (u := 10000) (by decide) (by decide) a4
  have a6 := y38 (u := 100000) (by decide) (by decide) a5
  exact w38 (a6 _ σ h)
set_option maxRecDepth 20000 in
theorem w35 {σ : gS} {K : gK} {w : Nat} (h : gXv 39 [some (.ref 5), some (.ref 1000013), none] σ (fun s1 => gTv w ∧ gXv 38 [some (.ref 5), some (.int (s1 w 1)), none, none] s1 (fun s2 => gXv 40 [some (.ref 5), some (.int 32)] s2 (fun s3 => gE 35 22 [some (.ref 5), some (.ref w), some (.int 0)] [] s3 K)))) : gE 35 0 [some (.ref 5), some (.ref w), none] [] σ K :=
  gw_run (cy := 35) (cuts := [22, 55, 69, 80, 90, 100, 142, 153, 165]) (inl := [36, 37]) (pf := gpek) gpek_ok 400 (by decide) h
set_option maxRecDepth 20000 in
theorem c35_22 {σ : gS} {K : gK} {l2 : Int32} {l1 : Nat} (h : ((¬ l2 < 5 → gE 35 55 [some (.ref 5), some (.ref l1), some (.int l2)] [] σ K) ∧ (l2 < 5 → gTv l1 ∧ (gTv l1) ∧ ((¬ 0 < (if l2 < 5 then (σ l1 0 >>> ((5 * l2) &&& 31)) &&& 31 else 0) → gE 35 55 [some (.ref 5), some (.ref l1), some (.int l2)] [] σ K) ∧ (0 < (if l2 < 5 then (σ l1 0 >>> ((5 * l2) &&& 31)) &&& 31 else 0) → gTv l1 ∧ (gTv l1) ∧ gXv 40 [some (.ref 5), some (.int ((97 + (if l2 < 5 then (σ l1 0 >>> ((5 * l2) &&& 31)) &&& 31 else 0)) - 1))] σ (fun s1 => gE 35 22 [some (.ref 5), some (.ref l1), some (.int (l2 + 1))] [] s1 K)))))) : gE 35 22 [some (.ref 5), some (.ref l1), some (.int l2)] [] σ K :=
  gw_run (cy := 35) (cuts := [22, 55, 69, 80, 90, 100, 142, 153, 165]) (inl := [36, 37]) (pf := gpek) gpek_ok 400 (by decide) h
set_option maxRecDepth 20000 in
theorem c35_55 {σ : gS} {K : gK} {l2 : Int32} {l1 : Nat} (h : gTv l1 ∧ ((¬ (σ l1 2) = 1 → gE 35 69 [some (.ref 5), some (.ref l1), some (.int l2)] [] σ K) ∧ ((σ l1 2) = 1 → gXv 39 [some (.ref 5), some (.ref 1000014), none] σ (fun s1 => gE 35 69 [some (.ref 5), some (.ref l1), some (.int l2)] [] s1 K)))) : gE 35 55 [some (.ref 5), some (.ref l1), some (.int l2)] [] σ K :=
  gw_run (cy := 35) (cuts := [22, 55, 69, 80, 90, 100, 142, 153, 165]) (inl := [36, 37]) (pf := gpek) gpek_ok 400 (by decide) h
set_option maxRecDepth 20000 in
theorem c35_69 {σ : gS} {K : gK} {l2 : Int32} {l1 : Nat} (h : gTv l1 ∧ (((σ l1 3) = 0 → gE 35 80 [some (.ref 5), some (.ref l1), some (.int l2)] [] σ K) ∧ (¬ (σ l1 3) = 0 → gXv 39 [some (.ref 5), some (.ref 1000015), none] σ (fun s1 => gXv 38 [some (.ref 5), some (.int (σ l1 3)), none, none] s1 (fun s2 => gE 35 80 [some (.ref 5), some (.ref l1), some (.int l2)] [] s2 K))))) : gE 35 69 [some (.ref 5), some (.ref l1), some (.int l2)] [] σ K :=
  gw_run (cy := 35) (cuts := [22, 55, 69, 80, 90, 100, 142, 153, 165]) (inl := [36, 37]) (pf := gpek) gpek_ok 400 (by decide) h
set_option maxRecDepth 20000 in
theorem c35_80 {σ : gS} {K : gK} {l2 : Int32} {l1 : Nat} (h : gTv l1 ∧ (((σ l1 4) = 0 → gE 35 90 [some (.ref 5), some (.ref l1), some (.int l2)] [] σ K) ∧ (¬ (σ l1 4) = 0 → gXv 39 [some (.ref 5), some (.ref 1000016), none] σ (fun s1 => ((¬ 0 < (σ l1 4) → gXv 40 [some (.ref 5), some (.int 45)] s1 (fun s2 => gXv 38 [some (.ref 5), some (.int (if (σ l1 4) < 0 then -(σ l1 4) else (σ l1 4))), none, none] s2 (fun s3 => gE 35 90 [some (.ref 5), some (.ref l1), some (.int l2)] [] s3 K))) ∧ (0 < (σ l1 4) → gXv 40 [some (.ref 5), some (.int 43)] s1 (fun s4 => gXv 38 [some (.ref 5), some (.int (if (σ l1 4) < 0 then -(σ l1 4) else (σ l1 4))), none, none] s4 (fun s5 => gE 35 90 [some (.ref 5), some (.ref l1), some (.int l2)] [] s5 K)))))))) : gE 35 80 [some (.ref 5), some (.ref l1), some (.int l2)] [] σ K :=
  gw_run (cy := 35) (cuts := [22, 55, 69, 80, 90, 100, 142, 153, 165]) (inl := [36, 37]) (pf := gpek) gpek_ok 400 (by decide) h
set_option maxRecDepth 20000 in
theorem c35_90 {σ : gS} {K : gK} {l2 : Int32} {l1 : Nat} (h : gTv l1 ∧ (((σ l1 5) = 0 → gE 35 100 [some (.ref 5), some (.ref l1), some (.int l2)] [] σ K) ∧ (¬ (σ l1 5) = 0 → gXv 39 [some (.ref 5), some (.ref 1000017), none] σ (fun s1 => ((¬ 0 < (σ l1 5) → gXv 40 [some (.ref 5), some (.int 45)] s1 (fun s2 => gXv 38 [some (.ref 5), some (.int (if (σ l1 5) < 0 then -(σ l1 5) else (σ l1 5))), none, none] s2 (fun s3 => gE 35 100 [some (.ref 5), some (.ref l1), some (.int l2)] [] s3 K))) ∧ (0 < (σ l1 5) → gXv 40 [some (.ref 5), some (.int 43)] s1 (fun s4 => gXv 38 [some (.ref 5), some (.int (if (σ l1 5) < 0 then -(σ l1 5) else (σ l1 5))), none, none] s4 (fun s5 => gE 35 100 [some (.ref 5), some (.ref l1), some (.int l2)] [] s5 K)))))))) : gE 35 90 [some (.ref 5), some (.ref l1), some (.int l2)] [] σ K :=
  gw_run (cy := 35) (cuts := [22, 55, 69, 80, 90, 100, 142, 153, 165]) (inl := [36, 37]) (pf := gpek) gpek_ok 400 (by decide) h
set_option maxRecDepth 20000 in
theorem c35_100 {σ : gS} {K : gK} {l2 : Int32} {l1 : Nat} (h : gTv l1 ∧ ((0 < (σ l1 6) → gXv 39 [some (.ref 5), some (.ref 1000018), none] σ (fun s1 => gTv l1 ∧ gXv 38 [some (.ref 5), some (.int (s1 l1 6)), none, none] s1 (fun s2 => gXv 40 [some (.ref 5), some (.int 32)] s2 (fun s3 => gTv l1 ∧ gXv 38 [some (.ref 5), some (.int (s3 l1 7)), none, none] s3 (fun s4 => gE 35 142 [some (.ref 5), some (.ref l1), some (.int l2)] [] s4 K))))) ∧ (¬ 0 < (σ l1 6) → gTv l1 ∧ ((¬ 0 < (σ l1 7) → gE 35 142 [some (.ref 5), some (.ref l1), some (.int l2)] [] σ K) ∧ (0 < (σ l1 7) → gXv 39 [some (.ref 5), some (.ref 1000018), none] σ (fun s5 => gTv l1 ∧ gXv 38 [some (.ref 5), some (.int (s5 l1 6)), none, none] s5 (fun s6 => gXv 40 [some (.ref 5), some (.int 32)] s6 (fun s7 => gTv l1 ∧ gXv 38 [some (.ref 5), some (.int (s7 l1 7)), none, none] s7 (fun s8 => gE 35 142 [some (.ref 5), some (.ref l1), some (.int l2)] [] s8 K))))))))) : gE 35 100 [some (.ref 5), some (.ref l1), some (.int l2)] [] σ K :=
  gw_run (cy := 35) (cuts := [22, 55, 69, 80, 90, 100, 142, 153, 165]) (inl := [36, 37]) (pf := gpek) gpek_ok 400 (by decide) h
set_option maxRecDepth 20000 in
theorem c35_142 {σ : gS} {K : gK} {l2 : Int32} {l1 : Nat} (h : gTv l1 ∧ (((σ l1 8) = 0 → gE 35 153 [some (.ref 5), some (.ref l1), some (.int l2)] [] σ K) ∧ (¬ (σ l1 8) = 0 → gXv 39 [some (.ref 5), some (.ref 1000019), none] σ (fun s1 => gXv 38 [some (.ref 5), some (.int (σ l1 8)), none, none] s1 (fun s2 => gE 35 153 [some (.ref 5), some (.ref l1), some (.int l2)] [] s2 K))))) : gE 35 142 [some (.ref 5), some (.ref l1), some (.int l2)] [] σ K :=
  gw_run (cy := 35) (cuts := [22, 55, 69, 80, 90, 100, 142, 153, 165]) (inl := [36, 37]) (pf := gpek) gpek_ok 400 (by decide) h
set_option maxRecDepth 20000 in
theorem c35_153 {σ : gS} {K : gK} {l2 : Int32} {l1 : Nat} (h : gTv l1 ∧ (((σ l1 9) = 99 → gE 35 165 [some (.ref 5), some (.ref l1), some (.int l2)] [] σ K) ∧ (¬ (σ l1 9) = 99 → gXv 39 [some (.ref 5), some (.ref 1000020), none] σ (fun s1 => gXv 38 [some (.ref 5), some (.int (σ l1 9)), none, none] s1 (fun s2 => gE 35 165 [some (.ref 5), some (.ref l1), some (.int l2)] [] s2 K))))) : gE 35 153 [some (.ref 5), some (.ref l1), some (.int l2)] [] σ K :=
  gw_run (cy := 35) (cuts := [22, 55, 69, 80, 90, 100, 142, 153, 165]) (inl := [36, 37]) (pf := gpek) gpek_ok 400 (by decide) h
set_option maxRecDepth 20000 in
theorem c35_165 {σ : gS} {K : gK} {l2 : Int32} {l1 : Nat} (h : gXv 40 [some (.ref 5), some (.int 59)] σ (fun s1 => K none s1)) : gE 35 165 [some (.ref 5), some (.ref l1), some (.int l2)] [] σ K :=
  gw_run (cy := 35) (cuts := [22, 55, 69, 80, 90, 100, 142, 153, 165]) (inl := [36, 37]) (pf := gpek) gpek_ok 400 (by decide) h
theorem x35 {σ : gS} {P : gS → Prop} {w : Nat} (hw : gTv w) (h : UK σ P) : gXv 35 [some (.ref 5), some (.ref w), none] σ P := by
  have a165 : ∀ i σ, UK σ P → gE 35 165 [some (.ref 5), some (.ref w), some (.int i)] [] σ (fun r σ1 => r = none ∧ P σ1) := fun i σ h => c35_165 (x40 (fun τ u => ⟨rfl, h τ u⟩))
  have a153 : ∀ i σ, UK σ P → gE 35 153 [some (.ref 5), some (.ref w), some (.int i)] [] σ (fun r σ1 => r = none ∧ P σ1) := fun i σ h => c35_153 ⟨hw, fun _ => a165 i σ h, fun _ => x39_1000020 (fun τ u => x38 (fun τ2 u2 => a165 i τ2 (UK_t h (Uw_t u u2))))⟩
  have a142 : ∀ i σ, UK σ P → gE 35 142 [some (.ref 5), some (.ref w), some (.int i)] [] σ (fun r σ1 => r = none ∧ P σ1) := fun i σ h => c35_142 ⟨hw, fun _ => a153 i σ h, fun _ => x39_1000019 (fun τ u => x38 (fun τ2 u2 => a153 i τ2 (UK_t h (Uw_t u u2))))⟩
  have r : ∀ i σ, UK σ P → gXv 39 [some (.ref 5), some (.ref 1000018), none] σ (fun s1 => gTv w ∧ gXv 38 [some (.ref 5), some (.int (s1 w 6)), none, none] s1 (fun s2 => gXv 40 [some (.ref 5), some (.int 32)] s2 (fun s3 => gTv w ∧ gXv 38 [some (.ref 5), some (.int (s3 w 7)), none, none] s3 (fun s4 => gE 35 142 [some (.ref 5), some (.ref w), some (.int i)] [] s4 (fun r σ1 => r = none ∧ P σ1))))) := fun i σ h => x39_1000018 (fun τ u => ⟨hw, x38 (fun τ2 u2 => x40 (fun τ3 u3 => ⟨hw, x38 (fun τ4 u4 => a142 i τ4 (UK_t h (Uw_t u (Uw_t u2 (Uw_t u3 u4)))))⟩))⟩)
  have a100 : ∀ i σ, UK σ P → gE 35 100 [some (.ref 5), some (.ref w), some (.int i)] [] σ (fun r σ1 => r = none ∧ P σ1) := fun i σ h => c35_100 ⟨hw, fun _ => r i σ h, fun _ => ⟨hw, fun _ => a142 i σ h, fun _ => r i σ h⟩⟩
  have a90 : ∀ i σ, UK σ P → gE 35 90 [some (.ref 5), some (.ref w), some (.int i)] [] σ (fun r σ1 => r = none ∧ P σ1) := fun i σ h => c35_90 ⟨hw, fun _ => a100 i σ h, fun _ => x39_1000017 (fun τ u => ⟨fun _ => x40 (fun τ2 u2 => x38 (fun τ3 u3 => a100 i τ3 (UK_t h (Uw_t u (Uw_t u2 u3))))), fun _ => x40 (fun τ2 u2 => x38 (fun τ3 u3 => a100 i τ3 (UK_t h (Uw_t u (Uw_t u2 u3)))))⟩)⟩
  have a80 : ∀ i σ, UK σ P → gE 35 80 [some (.ref 5), some (.ref w), some (.int i)] [] σ (fun r σ1 => r = none ∧ P σ1) := fun i σ h => c35_80 ⟨hw, fun _ => a90 i σ h, fun _ => x39_1000016 (fun τ u => ⟨fun _ => x40 (fun τ2 u2 => x38 (fun τ3 u3 => a90 i τ3 (UK_t h (Uw_t u (Uw_t u2 u3))))), fun _ => x40 (fun τ2 u2 => x38 (fun τ3 u3 => a90 i τ3 (UK_t h (Uw_t u (Uw_t u2 u3)))))⟩)⟩
  have a69 : ∀ i σ, UK σ P → gE 35 69 [some (.ref 5), some (.ref w), some (.int i)] [] σ (fun r σ1 => r = none ∧ P σ1) := fun i σ h => c35_69 ⟨hw, fun _ => a80 i σ h, fun _ => x39_1000015 (fun τ u => x38 (fun τ2 u2 => a80 i τ2 (UK_t h (Uw_t u u2))))⟩
  have a55 : ∀ i σ, UK σ P → gE 35 55 [some (.ref 5), some (.ref w), some (.int i)] [] σ (fun r σ1 => r = none ∧ P σ1) := fun i σ h => c35_55 ⟨hw, fun _ => a69 i σ h, fun _ => x39_1000014 (fun τ u => a69 i τ (UK_t h u))⟩
  have a22 : ∀ d k, k + d = 5 → ∀ σ, UK σ P → gE 35 22 [some (.ref 5), some (.ref w), some (.int (iN k))] [] σ (fun r σ1 => r = none ∧ P σ1) := by
    intro d
    induction d with
    | zero =>
      intro k hk σ h
      have : k = 5 := by omega
      subst this
      exact c35_22 ⟨fun _ => a55 _ σ h, fun z => absurd z (by decide)⟩
    | succ d ih =>
      intro k hk σ h
      refine c35_22 ⟨fun _ => a55 _ σ h, fun _ => ⟨hw, hw, fun _ => a55 _ σ h, fun _ => ⟨hw, hw, x40 (fun τ u => ?_)⟩⟩⟩
      rw [iN_one]
      exact ih (k + 1) (by omega) τ (UK_t h u)
  exact w35 (x39_1000013 (fun τ u => ⟨hw, x38 (fun τ2 u2 => x40 (fun τ3 u3 => a22 5 0 rfl τ3 (UK_t h (Uw_t u (Uw_t u2 u3)))))⟩))
set_option maxRecDepth 20000 in
theorem w34 {σ : gS} {K : gK} {p : Int32} (h : gXv 39 [some (.ref 5), some (.ref 1000011), none] (gup (gup (gup σ 5 0 0) 5 1 p) 5 2 (-2)) (fun s1 => gE 34 22 [some (.ref 5), some (.ref 6), some (.int p), none] [] s1 K)) : gE 34 0 [some (.ref 5), some (.ref 6), some (.int p), none] [] σ K :=
  gw_run (cy := 34) (cuts := [22, 30, 36, 44, 52]) (inl := []) (pf := gpek) gpek_ok 400 (by decide) h
set_option maxRecDepth 20000 in
theorem c34_22 {σ : gS} {K : gK} {l2 : Int32} (h : gXv 38 [some (.ref 5), some (.int (σ 6 4)), none, none] σ (fun s1 => gE 34 30 [some (.ref 5), some (.ref 6), some (.int l2), none] [] s1 K)) : gE 34 22 [some (.ref 5), some (.ref 6), some (.int l2), none] [] σ K :=
  gw_run (cy := 34) (cuts := [22, 30, 36, 44, 52]) (inl := []) (pf := gpek) gpek_ok 400 (by decide) h
set_option maxRecDepth 20000 in
theorem c34_30 {σ : gS} {K : gK} {l2 : Int32} (h : gXv 39 [some (.ref 5), some (.ref 1000012), none] σ (fun s1 => gE 34 36 [some (.ref 5), some (.ref 6), some (.int l2), none] [] s1 K)) : gE 34 30 [some (.ref 5), some (.ref 6), some (.int l2), none] [] σ K :=
  gw_run (cy := 34) (cuts := [22, 30, 36, 44, 52]) (inl := []) (pf := gpek) gpek_ok 400 (by decide) h
set_option maxRecDepth 20000 in
theorem c34_36 {σ : gS} {K : gK} {l2 : Int32} (h : gXv 38 [some (.ref 5), some (.int (σ 6 5)), none, none] σ (fun s1 => gE 34 44 [some (.ref 5), some (.ref 6), some (.int l2), none] [] s1 K)) : gE 34 36 [some (.ref 5), some (.ref 6), some (.int l2), none] [] σ K :=
  gw_run (cy := 34) (cuts := [22, 30, 36, 44, 52]) (inl := []) (pf := gpek) gpek_ok 400 (by decide) h
set_option maxRecDepth 20000 in
theorem c34_44 {σ : gS} {K : gK} {l2 : Int32} (h : gXv 40 [some (.ref 5), some (.int 59)] σ (fun s1 => gE 34 52 [some (.ref 5), some (.ref 6), some (.int l2), some (.int 0)] [] s1 K)) : gE 34 44 [some (.ref 5), some (.ref 6), some (.int l2), none] [] σ K :=
  gw_run (cy := 34) (cuts := [22, 30, 36, 44, 52]) (inl := []) (pf := gpek) gpek_ok 400 (by decide) h
set_option maxRecDepth 20000 in
theorem c34_52 {σ : gS} {K : gK} {l2 l3 : Int32} (h : ((¬ l3 < (σ 6 7) → K none σ) ∧ (l3 < (σ 6 7) → (0 ≤ l3 ∧ l3 < 20) ∧ gXv 35 [some (.ref 5), some (.ref (6 + 2 + l3.toNatClampNeg)), none] σ (fun s1 => gE 34 52 [some (.ref 5), some (.ref 6), some (.int l2), some (.int (l3 + 1))] [] s1 K)))) : gE 34 52 [some (.ref 5), some (.ref 6), some (.int l2), some (.int l3)] [] σ K :=
  gw_run (cy := 34) (cuts := [22, 30, 36, 44, 52]) (inl := []) (pf := gpek) gpek_ok 400 (by decide) h
set_option maxRecDepth 20000 in
theorem w145 {σ : gS} {K : gK} (h : gXv 34 [some (.ref 5), some (.ref 6), some (.int (-2)), none] σ (fun s1 => K (some (.int (s1 5 0))) s1)) : gE 145 0 [some (.ref 0)] [] σ K :=
  gw_run (cy := 145) (cuts := []) (inl := []) (pf := gpek) gpek_ok 400 (by decide) h
set_option maxRecDepth 20000 in
theorem w146 {σ : gS} {K : gK} {i : Int32} (h : ((¬ i < 0 → gXv 34 [some (.ref 5), some (.ref 6), some (.int i), none] σ (fun s1 => K (some (.int (s1 5 2))) s1)) ∧ (i < 0 → K (some (.int (-1))) σ))) : gE 146 0 [some (.ref 0), some (.int i)] [] σ K :=
  gw_run (cy := 146) (cuts := []) (inl := []) (pf := gpek) gpek_ok 400 (by decide) h
theorem x34 {σ : gS} {P : gS → Prop} {p : Int32} (h3 : 0 ≤ cR σ 6 3 ∧ cR σ 6 3 ≤ 20) (h : UK σ P) : gXv 34 [some (.ref 5), some (.ref 6), some (.int p), none] σ P := by
  obtain ⟨R, hR⟩ : ∃ R, cR σ 6 = R := ⟨_, rfl⟩
  rw [hR] at h3
  have hn := (nM_of h3).2
  have e7 : ∀ τ, Uw σ τ → τ 6 7 = R 3 := fun τ u => by rw [u 6 (by decide), ← hR, cR_3]
  have a52 : ∀ d k, k + d = nM R → ∀ τ, Uw σ τ → gE 34 52 [some (.ref 5), some (.ref 6), some (.int p), some (.int (iN k))] [] τ (fun r σ1 => r = none ∧ P σ1) := by
    intro d
    induction d with
    | zero =>
      intro k hk τ u
      refine c34_52 ⟨fun _ => ⟨rfl, h τ u⟩, fun z => ?_⟩
      rw [e7 τ u, nM_lt h3 (by omega)] at z
      omega
    | succ d ih =>
      intro k hk τ u
      refine c34_52 ⟨fun z => ?_, fun _ => ⟨b20 (by omega), ?_⟩⟩
      · rw [e7 τ u, nM_lt h3 (by omega)] at z
        omega
      · rw [iN_nat (by omega), iN_one]
        exact x35 (tv_6 k (by omega)) (fun τ2 u2 => ih (k + 1) (by omega) τ2 (Uw_t u u2))
  exact w34 (x39_1000011 (fun τ u => c34_22 (x38 (fun τ2 u2 => c34_30 (x39_1000012 (fun τ3 u3 => c34_36 (x38 (fun τ4 u4 => c34_44 (x40 (fun τ5 u5 => a52 (nM R) 0 (by omega) τ5 (Uw_t (Uw_t (Uw_g (Uw_g (Uw_g (Uw_r σ)))) u) (Uw_t u2 (Uw_t u3 (Uw_t u4 u5))))))))))))))
theorem x145 {σ : gS} {P : Int32 → gS → Prop} (h3 : 0 ≤ cR σ 6 3 ∧ cR σ 6 3 ≤ 20) (h : ∀ x τ, Uw σ τ → P x τ) : gXi 145 [some (.ref 0)] σ P :=
  w145 (x34 h3 (fun τ u => ⟨_, rfl, h _ τ u⟩))
theorem x146 {σ : gS} {P : Int32 → gS → Prop} {i : Int32} (h3 : 0 ≤ cR σ 6 3 ∧ cR σ 6 3 ≤ 20) (h : ∀ x τ, Uw σ τ → P x τ) : gXi 146 [some (.ref 0), some (.int i)] σ P :=
  w146 ⟨fun _ => x34 h3 (fun τ u => ⟨_, rfl, h _ τ u⟩), fun _ => ⟨_, rfl, h _ σ (Uw_r σ)⟩⟩
theorem fWho_w {R : gW} {x : Int32} (h : 0 ≤ R 3 ∧ R 3 ≤ 20) (hw : ¬ fWho R x = -2) : (0 ≤ fWho R x ∧ fWho R x < 20) ∧ (fWho R x).toNatClampNeg < nM R := by
  have hn := (nM_of h).2
  have key : ∀ n, n ≤ 20 → (fnd (fun t => decide (fld R t 0 = x)) n = -2 ∨ ∃ k, k < n ∧ fnd (fun t => decide (fld R t 0 = x)) n = iN k) := by
    intro n
    induction n with
    | zero => intro _; exact Or.inl rfl
    | succ n ih =>
      intro hn
      rcases ih (by omega) with e | ⟨k, hk, e⟩
      · by_cases q : decide (fld R n 0 = x) = true
        · refine Or.inr ⟨n, by omega, ?_⟩
          show (if _ then _ else _) = _
          rw [if_pos e, if_pos q]
        · refine Or.inl ?_
          show (if _ then _ else _) = _
          rw [if_pos e, if_neg q]
      · refine Or.inr ⟨k, by omega, ?_⟩
        show (if _ then _ else _) = _
        rw [if_neg (by rw [e]; exact iN_ne (by omega)), e]
  rcases key (nM R) hn with e | ⟨k, hk, e⟩
  · exact absurd e hw
  · have e : fWho R x = iN k := e
    rw [e, iN_nat (by omega)]
    exact ⟨b20 (by omega), hk⟩
/-- a seat's sign -/
noncomputable def sgn (R : gW) (nm : Nat → Int32) (x : Int32) : Int32 := if fWho R x = -2 then 46 else (if fJo R (fWho R x).toNatClampNeg < 0 then 65 else 97) + nm (fWho R x).toNatClampNeg - 1
noncomputable def plS (R : gW) (nm : Nat → Int32) (r c : Int32) : Int32 := if c = 0 then (if r < R 1 then 61 else 45) else if c = 1 then (if isFwd r then 62 else 60) else if c = 6 then 10 else sgn R nm (r * 4 + c - 2)
noncomputable def aPb (R : gW) (nm : Nat → Int32) (i : Int32) : Int32 := if i < 0 then -1 else if i < R 0 * 7 then plS R nm (i / 7) (i - i / 7 * 7) else -2
noncomputable def cLt (σ : gS) (t : Nat) : Int32 := (σ (8 + t) 0 >>> ((5 * (0 : Int32)) &&& 31)) &&& 31
set_option maxRecDepth 20000 in
theorem w143 {σ : gS} {K : gK} (h : K (some (.int ((σ 6 4) * 7))) σ) : gE 143 0 [some (.ref 0)] [] σ K :=
  gw_run (cy := 143) (cuts := []) (inl := []) (pf := gpek) gpek_ok 400 (by decide) h
theorem s143 {σ : gS} {K : gK} (hK : K (some (.int (cR σ 6 0 * 7))) σ) : gE 143 0 [some (.ref 0)] [] σ K := by
  rw [cR_0] at hK
  exact w143 hK
noncomputable def f143 : gD := fun Lv σ => match Lv with
  | [some (.ref q0)] => cond (Nat.beq q0 0) (some (none, some (.int (cR σ 6 0 * 7)), σ)) none
  | _ => none
theorem ok143 : gFok 143 f143 := by
  intro Lv σ q h hc K hK
  unfold f143 at h
  split at h
  · rename_i q0
    obtain ⟨hb, h⟩ := c_no h
    have hb0 := hb
    have e0 := b_eq hb0
    subst e0
    cases h
    exact s143 hK
  · cases h
set_option maxRecDepth 20000 in
theorem w100 {σ : gS} {K : gK} {x : Int32} (h : (0 ≤ σ 6 7 ∧ σ 6 7 ≤ 20) ∧ ((¬ (fWho (cR σ 6) x) = (-2) → (((0 ≤ (fWho (cR σ 6) x) ∧ (fWho (cR σ 6) x) < 20) ∧ (fWho (cR σ 6) x).toNatClampNeg < nM (cR σ 6)) ∧ TC σ 6) ∧ ((¬ (fJo (cR σ 6) (fWho (cR σ 6) x).toNatClampNeg) < 0 → (0 ≤ (fWho (cR σ 6) x) ∧ (fWho (cR σ 6) x) < 20) ∧ gTv (6 + 2 + (fWho (cR σ 6) x).toNatClampNeg) ∧ (gTv (6 + 2 + (fWho (cR σ 6) x).toNatClampNeg)) ∧ K (some (.int ((97 + (if (0 : Int32) < 5 then (σ (6 + 2 + (fWho (cR σ 6) x).toNatClampNeg) 0 >>> ((5 * (0 : Int32)) &&& 31)) &&& 31 else 0)) - 1))) σ) ∧ ((fJo (cR σ 6) (fWho (cR σ 6) x).toNatClampNeg) < 0 → (0 ≤ (fWho (cR σ 6) x) ∧ (fWho (cR σ 6) x) < 20) ∧ gTv (6 + 2 + (fWho (cR σ 6) x).toNatClampNeg) ∧ (gTv (6 + 2 + (fWho (cR σ 6) x).toNatClampNeg)) ∧ K (some (.int ((65 + (if (0 : Int32) < 5 then (σ (6 + 2 + (fWho (cR σ 6) x).toNatClampNeg) 0 >>> ((5 * (0 : Int32)) &&& 31)) &&& 31 else 0)) - 1))) σ))) ∧ ((fWho (cR σ 6) x) = (-2) → K (some (.int 46)) σ))) : gE 100 0 [some (.ref 6), some (.int x), none] [] σ K :=
  gw_run (cy := 100) (cuts := []) (inl := []) (pf := gpek) gpek_ok 400 (by decide) h
theorem s100 {σ : gS} {K : gK} {x : Int32} (hc : SC σ) (hK : K (some (.int (sgn (cR σ 6) (cLt σ) x))) σ) : gE 100 0 [some (.ref 6), some (.int x), none] [] σ K := by
  obtain ⟨hT, hP, hL, h0⟩ := hc
  have h7 : 0 ≤ σ 6 7 ∧ σ 6 7 ≤ 20 := SC_7 ⟨hT, hP, hL, h0⟩
  unfold sgn at hK
  refine w100 ⟨h7, fun h => ?_, fun h => ?_⟩
  · rw [if_neg h] at hK
    have hw := fWho_w (R := cR σ 6) hT.1 h
    have lt := n20 hw.1
    have tv := tv_6 _ lt
    refine ⟨⟨hw, hT⟩, fun h2 => ⟨hw.1, tv, tv, ?_⟩, fun h2 => ⟨hw.1, tv, tv, ?_⟩⟩
    · rw [if_neg h2] at hK
      rw [if_pos (show (0 : Int32) < 5 by decide)]
      exact hK
    · rw [if_pos h2] at hK
      rw [if_pos (show (0 : Int32) < 5 by decide)]
      exact hK
  · rw [if_pos h] at hK; exact hK
noncomputable def f100 : gD := fun Lv σ => match Lv with
  | [some (.ref q0), some (.int x), none] => cond (Nat.beq q0 6) (some (some (SC σ), some (.int (sgn (cR σ 6) (cLt σ) x)), σ)) none
  | _ => none
theorem ok100 : gFok 100 f100 := by
  intro Lv σ q h hc K hK
  unfold f100 at h
  split at h
  · rename_i q0 x
    obtain ⟨hb, h⟩ := c_no h
    have hb0 := hb
    have e0 := b_eq hb0
    subst e0
    cases h
    exact s100 (hc _ rfl) hK
  · cases h
noncomputable def gpel_l : List (Nat × gD) := (143, f143) :: (100, f100) :: gpek_l
noncomputable def gpel : gP := gpl0 gpel_l
theorem gpel_ok : gPok gpel := gpl0_cons ok143 (gpl0_cons ok100 (gpek_ok))
set_option maxRecDepth 20000 in
theorem w99 {σ : gS} {K : gK} {r c : Int32} (h : ((c = 0 → ((¬ r < (σ 6 5) → K (some (.int 45)) σ) ∧ (r < (σ 6 5) → K (some (.int 61)) σ))) ∧ (¬ c = 0 → ((c = 1 → (((bI (isFwd r)) = 0 → K (some (.int 60)) σ) ∧ (¬ (bI (isFwd r)) = 0 → K (some (.int 62)) σ))) ∧ (¬ c = 1 → ((c = 6 → K (some (.int 10)) σ) ∧ (¬ c = 6 → (SC σ) ∧ K (some (.int (sgn (cR σ 6) (cLt σ) (((r * 4) + c) - 2)))) σ))))))) : gE 99 0 [some (.ref 6), some (.int r), some (.int c)] [] σ K :=
  gw_run (cy := 99) (cuts := []) (inl := []) (pf := gpel) gpel_ok 400 (by decide) h
theorem s99 {σ : gS} {K : gK} {r c : Int32} (hc : SC σ) (hK : K (some (.int (plS (cR σ 6) (cLt σ) r c))) σ) : gE 99 0 [some (.ref 6), some (.int r), some (.int c)] [] σ K := by
  unfold plS at hK
  rw [cR_1] at hK
  refine w99 ⟨fun h => ⟨fun h2 => ?_, fun h2 => ?_⟩, fun h => ⟨fun h2 => ⟨fun h3 => ?_, fun h3 => ?_⟩, fun h2 => ⟨fun h3 => ?_, fun h3 => ⟨hc, ?_⟩⟩⟩⟩
  · rw [if_pos h, if_neg h2] at hK; exact hK
  · rw [if_pos h, if_pos h2] at hK; exact hK
  · rw [if_neg h, if_pos h2, if_neg (bI_0.mp h3)] at hK; exact hK
  · rw [if_neg h, if_pos h2, if_pos (dnn h3)] at hK; exact hK
  · rw [if_neg h, if_neg h2, if_pos h3] at hK; exact hK
  · rw [if_neg h, if_neg h2, if_neg h3] at hK; exact hK
noncomputable def f99 : gD := fun Lv σ => match Lv with
  | [some (.ref q0), some (.int r), some (.int c)] => cond (Nat.beq q0 6) (some (some (SC σ), some (.int (plS (cR σ 6) (cLt σ) r c)), σ)) none
  | _ => none
theorem ok99 : gFok 99 f99 := by
  intro Lv σ q h hc K hK
  unfold f99 at h
  split at h
  · rename_i q0 r c
    obtain ⟨hb, h⟩ := c_no h
    have hb0 := hb
    have e0 := b_eq hb0
    subst e0
    cases h
    exact s99 (hc _ rfl) hK
  · cases h
noncomputable def gpem_l : List (Nat × gD) := (99, f99) :: gpel_l
noncomputable def gpem : gP := gpl0 gpem_l
theorem gpem_ok : gPok gpem := gpl0_cons ok99 (gpel_ok)
set_option maxRecDepth 20000 in
theorem w144 {σ : gS} {K : gK} {i : Int32} (h : ((¬ i < 0 → ((¬ i < (cR σ 6 0 * 7) → K (some (.int (-2))) σ) ∧ (i < (cR σ 6 0 * 7) → (7 : Int32) ≠ 0 ∧ (7 : Int32) ≠ 0 ∧ (SC σ) ∧ K (some (.int (plS (cR σ 6) (cLt σ) (i / 7) (i - i / 7 * 7)))) σ))) ∧ (i < 0 → K (some (.int (-1))) σ))) : gE 144 0 [some (.ref 0), some (.int i)] [] σ K :=
  gw_run (cy := 144) (cuts := []) (inl := []) (pf := gpem) gpem_ok 400 (by decide) h
theorem s144 {σ : gS} {K : gK} {i : Int32} (hc : SC σ) (hK : K (some (.int (aPb (cR σ 6) (cLt σ) i))) σ) : gE 144 0 [some (.ref 0), some (.int i)] [] σ K := by
  unfold aPb at hK
  refine w144 ⟨fun h => ⟨fun h2 => ?_, fun h2 => ⟨by decide, by decide, hc, ?_⟩⟩, fun h => ?_⟩
  · rw [if_neg h, if_neg h2] at hK; exact hK
  · rw [if_neg h, if_pos h2] at hK; exact hK
  · rw [if_pos h] at hK; exact hK
noncomputable def f144 : gD := fun Lv σ => match Lv with
  | [some (.ref q0), some (.int i)] => cond (Nat.beq q0 0) (some (some (SC σ), some (.int (aPb (cR σ 6) (cLt σ) i)), σ)) none
  | _ => none
theorem ok144 : gFok 144 f144 := by
  intro Lv σ q h hc K hK
  unfold f144 at h
  split at h
  · rename_i q0 i
    obtain ⟨hb, h⟩ := c_no h
    have hb0 := hb
    have e0 := b_eq hb0
    subst e0
    cases h
    exact s144 (hc _ rfl) hK
  · cases h
noncomputable def gpen_l : List (Nat × gD) := (144, f144) :: gpem_l
noncomputable def gpen : gP := gpl0 gpen_l
theorem gpen_ok : gPok gpen := gpl0_cons ok144 (gpem_ok)
