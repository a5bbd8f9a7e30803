noncomputable def f98 : gD := fun Lv σ => match Lv with
  | [some (.ref q0), none, none, none, none, none, none] => cond (Nat.beq q0 32) (some (some (TC σ 32), some (.int (bI (¬ (cBst (cR σ 32)).2.1 = -2))), cOnce σ)) none
  | _ => none
theorem ok98 : gFok 98 f98 := by
  intro Lv σ q h hc K hK
  unfold f98 at h
  split at h
  · rename_i q0
    obtain ⟨hb, h⟩ := c_no h
    have hb0 := hb
    have e0 := b_eq hb0
    subst e0
    cases h
    exact s98 (hc _ rfl) hK
  · cases h
noncomputable def gpcy_l : List (Nat × gD) := (98, f98) :: gpcx_l
noncomputable def gpcy : gP := gpl0 gpcy_l
theorem gpcy_ok : gPok gpcy := gpl0_cons ok98 (gpcx_ok)
-- text 40
/-! THE CLASS: settling is the reference's -/
abbrev bW (R : gW) : Prop := ∀ t, t < nM R → 0 ≤ fld R t 7
theorem bW_rsw {R : gW} {a b : Nat} (h : bW R) : bW (rsw R a b) := by
  intro t ht
  rw [nM_rsw] at ht
  rw [fld_rsw _ _ _ _ _ (by decide), if_neg (by decide)]
  exact h t ht
theorem sm_ar {n s f : Int32} (hn : 0 ≤ n ∧ n < 20) (h1 : -(100 * n) ≤ s) (h2 : s ≤ 100 * n) (h3 : -100 ≤ f) (h4 : f ≤ 100) : -(100 * (n + 1)) ≤ s + f ∧ s + f ≤ 100 * (n + 1) := by
  have := hn.1
  have := hn.2
  constructor <;> grind
theorem sm_b {f : Nat → Int32} : ∀ {n : Nat}, n ≤ 20 → (∀ t, t < n → -100 ≤ f t ∧ f t ≤ 100) → -(100 * iN n) ≤ sm f n ∧ sm f n ≤ 100 * iN n
  | 0, _, _ => ⟨show -(100 * (0 : Int32)) ≤ 0 from by decide, show (0 : Int32) ≤ 100 * 0 from by decide⟩
  | n + 1, hn, h => by
    have ih := sm_b (f := f) (n := n) (by omega) (fun t ht => h t (by omega))
    have hf := h n (by omega)
    have k := sm_ar (b20 (k := n) (by omega)) ih.1 ih.2 hf.1 hf.2
    rw [iN_one] at k
    exact k
theorem fJa_b {R : gW} (h : 0 ≤ R 3 ∧ R 3 ≤ 20) (hT : bT R) (hF : bF R) : -2000 ≤ fJa R ∧ fJa R ≤ 2000 := by
  have hn := (nM_of h).2
  have k := sm_b (f := fJo R) hn (fun t ht => fJo_b h hT hF ht)
  have l : iN (nM R) ≤ 20 := (iN_le (m := 20) (by omega) (by decide)).mpr (by omega)
  have l0 : 0 ≤ iN (nM R) := (iN_le (k := 0) (by decide) (by omega)).mpr (by omega)
  unfold fJa
  have := k.1; have := k.2
  grind
