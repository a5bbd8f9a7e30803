/-! THE CLASS: the tape -/
/-- k bytes behind the n of the class's tape -/
def cApp (σ : gS) (n : Nat) (B : Nat → Int32) (k : Nat) : gS := grow (grow σ 3 (fAp (σ 3) n B k)) 2 (rup (σ 2) 1 (iN (n + k)))
def cPut (σ : gS) (w : Int32) : gS := gup (gup σ 3 (σ 2 1).toNatClampNeg w) 2 1 (σ 2 1 + 1)
def cP4 (σ : gS) (w : Int32) : gS := cPut (cPut (cPut (cPut σ (w >>> iN 24 &&& 255)) (w >>> iN 16 &&& 255)) (w >>> iN 8 &&& 255)) (w >>> iN 0 &&& 255)
theorem cApp_2 (σ : gS) (n : Nat) (B : Nat → Int32) (k : Nat) : cApp σ n B k 2 1 = iN (n + k) := by
  unfold cApp
  rw [grow_at, rup_at]
theorem cPut_s {σ : gS} {n k : Nat} {B : Nat → Int32} (h : n + k < 1000) : cPut (cApp σ n B k) (B k) = cApp σ n B (k + 1) := by
  unfold cPut
  rw [cApp_2, iN_nat (by omega), iN_one]
  unfold cApp
  rw [← fAp_s, ← Nat.add_assoc]
  funext p j
  unfold gup grow rup
  grind
theorem cApp_0 {σ : gS} {n : Nat} {B : Nat → Int32} (h : σ 2 1 = iN n) : cApp σ n B 0 = σ := by
  unfold cApp
  rw [fAp_0, grow_id, Nat.add_zero, ← h]
  have : rup (σ 2) 1 (σ 2 1) = σ 2 := by
    funext j
    unfold rup
    split
    · rename_i h; rw [h]
    · rfl
  rw [this, grow_id]
theorem cP4_s {σ : gS} {n k : Nat} {B : Nat → Int32} {w : Int32} (h : n + k + 4 ≤ 1000) (hB : ∀ r, r < 4 → B (k + r) = w >>> iN (24 - 8 * r) &&& 255) : cP4 (cApp σ n B k) w = cApp σ n B (k + 4) := by
  unfold cP4
  have b0 := hB 0 (by decide)
  have b1 := hB 1 (by decide)
  have b2 := hB 2 (by decide)
  have b3 := hB 3 (by decide)
  rw [show 24 - 8 * 0 = 24 from rfl, Nat.add_zero] at b0
  rw [show 24 - 8 * 1 = 16 from rfl] at b1
  rw [show 24 - 8 * 2 = 8 from rfl] at b2
  rw [show 24 - 8 * 3 = 0 from rfl] at b3
  rw [← b0, ← b1, ← b2, ← b3, cPut_s (by omega), cPut_s (by omega), cPut_s (by omega), cPut_s (by omega)]
theorem byt_w (a b c d e : Int32) (q r : Nat) (h : r < 4) : byt a b c d e (4 * q + r) = wrd a b c d e (4 * q) >>> iN (24 - 8 * r) &&& 255 := by
  unfold byt
  rw [show (4 * q + r) % 4 = r from by omega]
  have : wrd a b c d e (4 * q + r) = wrd a b c d e (4 * q) := by
    unfold wrd
    have e1 : (4 * q + r < 4 ↔ 4 * q < 4) := by omega
    have e2 : (4 * q + r < 8 ↔ 4 * q < 8) := by omega
    have e3 : (4 * q + r < 12 ↔ 4 * q < 12) := by omega
    have e4 : (4 * q + r < 16 ↔ 4 * q < 16) := by omega
    simp only [e1, e2, e3, e4]
  rw [this]
set_option maxRecDepth 20000 in
theorem w42 {σ : gS} {K : gK} (h : ((1000 < ((σ 2 1) + 20) → ((0 : Int32) = 0 ∨ (0 : Int32) = 1) ∧ K (some (.int 0)) σ) ∧ (¬ 1000 < ((σ 2 1) + 20) → ((1 : Int32) = 0 ∨ (1 : Int32) = 1) ∧ K (some (.int 1)) σ))) : gE 42 0 [some (.ref 2)] [] σ K :=
  gw_run (cy := 42) (cuts := []) (inl := []) (pf := gpdd) gpdd_ok 400 (by decide) h
theorem s42 {σ : gS} {K : gK} (hK : K (some (.int (bI (¬ 1000 < σ 2 1 + 20)))) σ) : gE 42 0 [some (.ref 2)] [] σ K := by
  refine w42 ?_
  grind [bI]
noncomputable def f42 : gD := fun Lv σ => match Lv with
  | [some (.ref q0)] => cond (Nat.beq q0 2) (some (none, some (.int (bI (¬ 1000 < σ 2 1 + 20))), σ)) none
  | _ => none
theorem ok42 : gFok 42 f42 := by
  intro Lv σ q h hc K hK
  unfold f42 at h
  split at h
  · rename_i q0
    obtain ⟨hb, h⟩ := c_no h
    have hb0 := hb
    have e0 := b_eq hb0
    subst e0
    cases h
    exact s42 hK
  · cases h
set_option maxRecDepth 20000 in
theorem w44 {σ : gS} {K : gK} {w : Int32} (h : (((σ 2 1) < 0 → K none σ) ∧ (¬ (σ 2 1) < 0 → ((¬ (σ 2 1) < 1000 → K none σ) ∧ ((σ 2 1) < 1000 → (0 ≤ (σ 2 1) ∧ (σ 2 1) < 1000) ∧ K none (gup (gup σ 3 (σ 2 1).toNatClampNeg w) 2 1 (((gup σ 3 (σ 2 1).toNatClampNeg w) 2 1) + 1))))))) : gE 44 0 [some (.ref 2), some (.int w)] [] σ K :=
  gw_run (cy := 44) (cuts := []) (inl := []) (pf := gpdd) gpdd_ok 400 (by decide) h
theorem s44 {σ : gS} {K : gK} {w : Int32} (hc : 0 ≤ σ 2 1 ∧ σ 2 1 < 1000) (hK : K none (cPut σ w)) : gE 44 0 [some (.ref 2), some (.int w)] [] σ K := by
  refine w44 ⟨fun h => absurd h (Int32.not_lt.mpr hc.1), fun _ => ⟨fun h => absurd hc.2 h, fun _ => ⟨hc, ?_⟩⟩⟩
  rw [gup_ne (by omega)]
  exact hK
noncomputable def f44 : gD := fun Lv σ => match Lv with
  | [some (.ref q0), some (.int w)] => cond (Nat.beq q0 2) (some (some (0 ≤ σ 2 1 ∧ σ 2 1 < 1000), none, cPut σ w)) none
  | _ => none
theorem ok44 : gFok 44 f44 := by
  intro Lv σ q h hc K hK
  unfold f44 at h
  split at h
  · rename_i q0 w
    obtain ⟨hb, h⟩ := c_no h
    have hb0 := hb
    have e0 := b_eq hb0
    subst e0
    cases h
    exact s44 (hc _ rfl) hK
  · cases h
set_option maxRecDepth 20000 in
theorem w45 {σ : gS} {K : gK} {i : Int32} (h : ((i < 0 → K (some (.int (-1))) σ) ∧ (¬ i < 0 → ((¬ i < (σ 2 1) → K (some (.int (-1))) σ) ∧ (i < (σ 2 1) → ((¬ i < 1000 → K (some (.int (-1))) σ) ∧ (i < 1000 → (0 ≤ i ∧ i < 1000) ∧ K (some (.int (σ 3 i.toNatClampNeg))) σ))))))) : gE 45 0 [some (.ref 2), some (.int i)] [] σ K :=
  gw_run (cy := 45) (cuts := []) (inl := []) (pf := gpdd) gpdd_ok 400 (by decide) h
theorem s45 {σ : gS} {K : gK} {i : Int32} (hc : σ 2 1 ≤ 1000) (hK : K (some (.int (if 0 ≤ i ∧ i < σ 2 1 then σ 3 i.toNatClampNeg else -1))) σ) : gE 45 0 [some (.ref 2), some (.int i)] [] σ K := by
  refine w45 ?_
  grind
noncomputable def f45 : gD := fun Lv σ => match Lv with
  | [some (.ref q0), some (.int i)] => cond (Nat.beq q0 2) (some (some (σ 2 1 ≤ 1000), some (.int (if 0 ≤ i ∧ i < σ 2 1 then σ 3 i.toNatClampNeg else -1)), σ)) none
  | _ => none
theorem ok45 : gFok 45 f45 := by
  intro Lv σ q h hc K hK
  unfold f45 at h
  split at h
  · rename_i q0 i
    obtain ⟨hb, h⟩ := c_no h
    have hb0 := hb
    have e0 := b_eq hb0
    subst e0
    cases h
    exact s45 (hc _ rfl) hK
  · cases h
noncomputable def gpde_l : List (Nat × gD) := (42, f42) :: (44, f44) :: (45, f45) :: gpdd_l
noncomputable def gpde : gP := gpl0 gpde_l
theorem gpde_ok : gPok gpde := gpl0_cons ok42 (gpl0_cons ok44 (gpl0_cons ok45 (gpdd_ok)))
