/-! THE CLASS: tokens -/
def cKd (w : Int32) : Int32 := if 97 ≤ w ∧ w ≤ 122 then 2 else if 48 ≤ w ∧ w ≤ 57 then 3 else if w = 32 ∨ w = 10 then 1 else if w = -1 then 0 else 4
set_option maxRecDepth 20000 in
theorem w13 {σ : gS} {K : gK} {w : Int32} (h : ((w < 97 → ((w < 48 → ((w = 32 → K (some (.int 1)) σ) ∧ (¬ w = 32 → ((¬ w = 10 → ((¬ w = (-1) → K (some (.int 4)) σ) ∧ (w = (-1) → K (some (.int 0)) σ))) ∧ (w = 10 → K (some (.int 1)) σ))))) ∧ (¬ w < 48 → ((57 < w → ((w = 32 → K (some (.int 1)) σ) ∧ (¬ w = 32 → ((¬ w = 10 → ((¬ w = (-1) → K (some (.int 4)) σ) ∧ (w = (-1) → K (some (.int 0)) σ))) ∧ (w = 10 → K (some (.int 1)) σ))))) ∧ (¬ 57 < w → K (some (.int 3)) σ))))) ∧ (¬ w < 97 → ((122 < w → ((w < 48 → ((w = 32 → K (some (.int 1)) σ) ∧ (¬ w = 32 → ((¬ w = 10 → ((¬ w = (-1) → K (some (.int 4)) σ) ∧ (w = (-1) → K (some (.int 0)) σ))) ∧ (w = 10 → K (some (.int 1)) σ))))) ∧ (¬ w < 48 → ((57 < w → ((w = 32 → K (some (.int 1)) σ) ∧ (¬ w = 32 → ((¬ w = 10 → ((¬ w = (-1) → K (some (.int 4)) σ) ∧ (w = (-1) → K (some (.int 0)) σ))) ∧ (w = 10 → K (some (.int 1)) σ))))) ∧ (¬ 57 < w → K (some (.int 3)) σ))))) ∧ (¬ 122 < w → K (some (.int 2)) σ))))) : gE 13 0 [some (.int w)] [] σ K :=
  gw_run (cy := 13) (cuts := []) (inl := []) (pf := gpdf) gpdf_ok 400 (by decide) h
theorem s13 {σ : gS} {K : gK} {w : Int32} (hK : K (some (.int (cKd w))) σ) : gE 13 0 [some (.int w)] [] σ K := by
  unfold cKd at hK
  refine w13 ?_
  grind (splits := 40)
noncomputable def f13 : gD := fun Lv σ => match Lv with
  | [some (.int w)] => some (none, some (.int (cKd w)), σ)
  | _ => none
theorem ok13 : gFok 13 f13 := by
  intro Lv σ q h hc K hK
  unfold f13 at h
  split at h
  · rename_i w
    cases h
    exact s13 hK
  · cases h
noncomputable def gpdg_l : List (Nat × gD) := (13, f13) :: (108, f108) :: (109, f109) :: (111, f111) :: gpdf_l
noncomputable def gpdg : gP := gpl0 gpdg_l
theorem gpdg_ok : gPok gpdg := gpl0_cons ok13 (gpl0_cons ok108 (gpl0_cons ok109 (gpl0_cons ok111 (gpdf_ok))))
