/-! THE REFERENCE: rings, the best swap, settling, rows copied -/
set_option maxRecDepth 20000 in
theorem w179_324 {σ : gS} {K : gK} {a b c : Int32} (h : (0 ≤ (9 + 10 * b + (0 : Int32)) ∧ (9 + 10 * b + (0 : Int32)) < 330) ∧ (0 ≤ a ∧ a < 20) ∧ (((bI (fMay (σ 324) a.toNatClampNeg (σ 324 (9 + 10 * b + (0 : Int32)).toNatClampNeg))) = 0 → K (some (.int 1)) σ) ∧ (¬ (bI (fMay (σ 324) a.toNatClampNeg (σ 324 (9 + 10 * b + (0 : Int32)).toNatClampNeg))) = 0 → (0 ≤ (9 + 10 * c + (0 : Int32)) ∧ (9 + 10 * c + (0 : Int32)) < 330) ∧ (0 ≤ b ∧ b < 20) ∧ (((bI (fMay (σ 324) b.toNatClampNeg (σ 324 (9 + 10 * c + (0 : Int32)).toNatClampNeg))) = 0 → K (some (.int 1)) σ) ∧ (¬ (bI (fMay (σ 324) b.toNatClampNeg (σ 324 (9 + 10 * c + (0 : Int32)).toNatClampNeg))) = 0 → (0 ≤ (9 + 10 * a + (0 : Int32)) ∧ (9 + 10 * a + (0 : Int32)) < 330) ∧ (0 ≤ c ∧ c < 20) ∧ ((¬ (bI (fMay (σ 324) c.toNatClampNeg (σ 324 (9 + 10 * a + (0 : Int32)).toNatClampNeg))) = 0 → (((0 ≤ a ∧ a < 20) ∧ (0 ≤ b ∧ b < 20) ∧ (0 ≤ c ∧ c < 20)) ∧ (a.toNatClampNeg ≠ b.toNatClampNeg ∧ b.toNatClampNeg ≠ c.toNatClampNeg ∧ a.toNatClampNeg ≠ c.toNatClampNeg) ∧ (0 ≤ a ∧ a < 20) ∧ 0 ≤ σ 324 3 ∧ σ 324 3 ≤ 20) ∧ ((¬ (fRR (σ 324) a.toNatClampNeg b.toNatClampNeg c.toNatClampNeg a.toNatClampNeg) < 0 → (((0 ≤ a ∧ a < 20) ∧ (0 ≤ b ∧ b < 20) ∧ (0 ≤ c ∧ c < 20)) ∧ (a.toNatClampNeg ≠ b.toNatClampNeg ∧ b.toNatClampNeg ≠ c.toNatClampNeg ∧ a.toNatClampNeg ≠ c.toNatClampNeg) ∧ (0 ≤ b ∧ b < 20) ∧ 0 ≤ σ 324 3 ∧ σ 324 3 ≤ 20) ∧ ((¬ (fRR (σ 324) a.toNatClampNeg b.toNatClampNeg c.toNatClampNeg b.toNatClampNeg) < 0 → (((0 ≤ a ∧ a < 20) ∧ (0 ≤ b ∧ b < 20) ∧ (0 ≤ c ∧ c < 20)) ∧ (a.toNatClampNeg ≠ b.toNatClampNeg ∧ b.toNatClampNeg ≠ c.toNatClampNeg ∧ a.toNatClampNeg ≠ c.toNatClampNeg) ∧ (0 ≤ c ∧ c < 20) ∧ 0 ≤ σ 324 3 ∧ σ 324 3 ≤ 20) ∧ ((¬ (fRR (σ 324) a.toNatClampNeg b.toNatClampNeg c.toNatClampNeg c.toNatClampNeg) < 0 → K (some (.int 0)) σ) ∧ ((fRR (σ 324) a.toNatClampNeg b.toNatClampNeg c.toNatClampNeg c.toNatClampNeg) < 0 → K (some (.int 6)) σ))) ∧ ((fRR (σ 324) a.toNatClampNeg b.toNatClampNeg c.toNatClampNeg b.toNatClampNeg) < 0 → K (some (.int 6)) σ))) ∧ ((fRR (σ 324) a.toNatClampNeg b.toNatClampNeg c.toNatClampNeg a.toNatClampNeg) < 0 → K (some (.int 6)) σ))) ∧ ((bI (fMay (σ 324) c.toNatClampNeg (σ 324 (9 + 10 * a + (0 : Int32)).toNatClampNeg))) = 0 → K (some (.int 1)) σ))))))) : gE 179 0 [some (.ref 324), some (.int a), some (.int b), some (.int c)] [] σ K :=
  gw_run (cy := 179) (cuts := []) (inl := []) (pf := gpfG) gpfG_ok 400 (by decide) h
theorem s179_324 {σ : gS} {K : gK} {a b c : Int32} (hc : ((0 ≤ a ∧ a < 20) ∧ (0 ≤ b ∧ b < 20) ∧ (0 ≤ c ∧ c < 20)) ∧ (a.toNatClampNeg ≠ b.toNatClampNeg ∧ b.toNatClampNeg ≠ c.toNatClampNeg ∧ a.toNatClampNeg ≠ c.toNatClampNeg) ∧ 0 ≤ σ 324 3 ∧ σ 324 3 ≤ 20) (hK : K (some (.int (fWhyR (σ 324) a.toNatClampNeg b.toNatClampNeg c.toNatClampNeg))) σ) : gE 179 0 [some (.ref 324), some (.int a), some (.int b), some (.int c)] [] σ K := by
  obtain ⟨⟨ha, hb, hcc⟩, hd, hc⟩ := hc
  have hc3 := hcc
  have hh := hcc
  obtain ⟨ec, lc⟩ := t20 hcc
  obtain ⟨ea, la⟩ := t20 ha
  obtain ⟨eb, lb⟩ := t20 hb
  have xa : ∀ t : Int32, 0 ≤ t ∧ t < 20 → (9 + 10 * t + (0 : Int32)).toNatClampNeg = 9 + 10 * t.toNatClampNeg + 0 ∧ (0 ≤ (9 + 10 * t + (0 : Int32)) ∧ (9 + 10 * t + (0 : Int32)) < 330) := by
    intro t ht
    obtain ⟨e, l⟩ := t20 ht
    rw [e, ix0 l, iN_nat (by omega)]
    exact ⟨rfl, ixb0 l⟩
  obtain ⟨xa1, xa2⟩ := xa a ha
  obtain ⟨xb1, xb2⟩ := xa b hb
  obtain ⟨xc1, xc2⟩ := xa c hcc
  refine w179_324 ?_
  rw [xa1, xb1, xc1]
  simp only [bI_0]
  unfold fWhyR at hK
  unfold fld at hK
  grind
noncomputable def f179 : gD := fun Lv σ => match Lv with
  | [some (.ref p), some (.int a), some (.int b), some (.int c)] => cond (Nat.beq p 324) (some (some (((0 ≤ a ∧ a < 20) ∧ (0 ≤ b ∧ b < 20) ∧ (0 ≤ c ∧ c < 20)) ∧ (a.toNatClampNeg ≠ b.toNatClampNeg ∧ b.toNatClampNeg ≠ c.toNatClampNeg ∧ a.toNatClampNeg ≠ c.toNatClampNeg) ∧ 0 ≤ σ p 3 ∧ σ p 3 ≤ 20), some (.int (fWhyR (σ p) a.toNatClampNeg b.toNatClampNeg c.toNatClampNeg)), σ)) none
  | _ => none
theorem ok179 : gFok 179 f179 := by
  intro Lv σ q h hc K hK
  unfold f179 at h
  split at h
  · rename_i p a b c
    obtain ⟨hb, h⟩ := c_no h
    have hb0 := hb
    have e := b_eq hb0
    subst e
    cases h
    exact s179_324 (hc _ rfl) hK
  · cases h
set_option maxRecDepth 20000 in
theorem w180_324 {σ : gS} {K : gK} {a b c : Int32} (h : (((0 ≤ a ∧ a < 20) ∧ (0 ≤ b ∧ b < 20) ∧ (0 ≤ c ∧ c < 20)) ∧ (a.toNatClampNeg ≠ b.toNatClampNeg ∧ b.toNatClampNeg ≠ c.toNatClampNeg ∧ a.toNatClampNeg ≠ c.toNatClampNeg) ∧ (0 ≤ a ∧ a < 20) ∧ 0 ≤ σ 324 3 ∧ σ 324 3 ≤ 20) ∧ (((0 ≤ a ∧ a < 20) ∧ (0 ≤ b ∧ b < 20) ∧ (0 ≤ c ∧ c < 20)) ∧ (a.toNatClampNeg ≠ b.toNatClampNeg ∧ b.toNatClampNeg ≠ c.toNatClampNeg ∧ a.toNatClampNeg ≠ c.toNatClampNeg) ∧ (0 ≤ b ∧ b < 20) ∧ 0 ≤ σ 324 3 ∧ σ 324 3 ≤ 20) ∧ (((0 ≤ a ∧ a < 20) ∧ (0 ≤ b ∧ b < 20) ∧ (0 ≤ c ∧ c < 20)) ∧ (a.toNatClampNeg ≠ b.toNatClampNeg ∧ b.toNatClampNeg ≠ c.toNatClampNeg ∧ a.toNatClampNeg ≠ c.toNatClampNeg) ∧ (0 ≤ c ∧ c < 20) ∧ 0 ≤ σ 324 3 ∧ σ 324 3 ≤ 20) ∧ K (some (.int (((fRR (σ 324) a.toNatClampNeg b.toNatClampNeg c.toNatClampNeg a.toNatClampNeg) + (fRR (σ 324) a.toNatClampNeg b.toNatClampNeg c.toNatClampNeg b.toNatClampNeg)) + (fRR (σ 324) a.toNatClampNeg b.toNatClampNeg c.toNatClampNeg c.toNatClampNeg)))) σ) : gE 180 0 [some (.ref 324), some (.int a), some (.int b), some (.int c)] [] σ K :=
  gw_run (cy := 180) (cuts := []) (inl := []) (pf := gpfG) gpfG_ok 400 (by decide) h
theorem s180_324 {σ : gS} {K : gK} {a b c : Int32} (hc : ((0 ≤ a ∧ a < 20) ∧ (0 ≤ b ∧ b < 20) ∧ (0 ≤ c ∧ c < 20)) ∧ (a.toNatClampNeg ≠ b.toNatClampNeg ∧ b.toNatClampNeg ≠ c.toNatClampNeg ∧ a.toNatClampNeg ≠ c.toNatClampNeg) ∧ 0 ≤ σ 324 3 ∧ σ 324 3 ≤ 20) (hK : K (some (.int (fROR (σ 324) a.toNatClampNeg b.toNatClampNeg c.toNatClampNeg))) σ) : gE 180 0 [some (.ref 324), some (.int a), some (.int b), some (.int c)] [] σ K := by
  obtain ⟨⟨ha, hb, hcc⟩, hd, hc⟩ := hc
  exact w180_324 ⟨⟨⟨ha, hb, hcc⟩, hd, ha, hc⟩, ⟨⟨ha, hb, hcc⟩, hd, hb, hc⟩, ⟨⟨ha, hb, hcc⟩, hd, hcc, hc⟩, hK⟩
noncomputable def f180 : gD := fun Lv σ => match Lv with
  | [some (.ref p), some (.int a), some (.int b), some (.int c)] => cond (Nat.beq p 324) (some (some (((0 ≤ a ∧ a < 20) ∧ (0 ≤ b ∧ b < 20) ∧ (0 ≤ c ∧ c < 20)) ∧ (a.toNatClampNeg ≠ b.toNatClampNeg ∧ b.toNatClampNeg ≠ c.toNatClampNeg ∧ a.toNatClampNeg ≠ c.toNatClampNeg) ∧ 0 ≤ σ p 3 ∧ σ p 3 ≤ 20), some (.int (fROR (σ p) a.toNatClampNeg b.toNatClampNeg c.toNatClampNeg)), σ)) none
  | _ => none
theorem ok180 : gFok 180 f180 := by
  intro Lv σ q h hc K hK
  unfold f180 at h
  split at h
  · rename_i p a b c
    obtain ⟨hb, h⟩ := c_no h
    have hb0 := hb
    have e := b_eq hb0
    subst e
    cases h
    exact s180_324 (hc _ rfl) hK
  · cases h
set_option maxRecDepth 20000 in
theorem w181_324 {σ : gS} {K : gK} {a b : Int32} (h : (0 ≤ σ 324 3 ∧ σ 324 3 ≤ 20) ∧ (((0 ≤ a ∧ a < 20) ∧ (0 ≤ b ∧ b < 20))) ∧ (0 ≤ (grow σ 324 (rsw (σ 324) a.toNatClampNeg b.toNatClampNeg)) 324 3 ∧ (grow σ 324 (rsw (σ 324) a.toNatClampNeg b.toNatClampNeg)) 324 3 ≤ 20) ∧ (((0 ≤ a ∧ a < 20) ∧ (0 ≤ b ∧ b < 20))) ∧ K (some (.int ((fJa ((grow σ 324 (rsw (σ 324) a.toNatClampNeg b.toNatClampNeg)) 324)) - (fJa (σ 324))))) (grow (grow σ 324 (rsw (σ 324) a.toNatClampNeg b.toNatClampNeg)) 324 (rsw ((grow σ 324 (rsw (σ 324) a.toNatClampNeg b.toNatClampNeg)) 324) a.toNatClampNeg b.toNatClampNeg))) : gE 181 0 [some (.ref 324), some (.int a), some (.int b), none, none] [] σ K :=
  gw_run (cy := 181) (cuts := []) (inl := []) (pf := gpfG) gpfG_ok 400 (by decide) h
theorem s181_324 {σ : gS} {K : gK} {a b : Int32} (hc : ((0 ≤ a ∧ a < 20) ∧ (0 ≤ b ∧ b < 20)) ∧ 0 ≤ σ 324 3 ∧ σ 324 3 ≤ 20) (hK : K (some (.int (fRA (σ 324) a.toNatClampNeg b.toNatClampNeg))) σ) : gE 181 0 [some (.ref 324), some (.int a), some (.int b), none, none] [] σ K := by
  obtain ⟨hab, hc⟩ := hc
  refine w181_324 ⟨hc, hab, by rw [grow_at, rsw_3]; exact hc, hab, ?_⟩
  simp only [grow_grow, grow_at, rsw_rsw, grow_id]
  exact hK
set_option maxRecDepth 20000 in
theorem w181_326 {σ : gS} {K : gK} {a b : Int32} (h : (0 ≤ σ 326 3 ∧ σ 326 3 ≤ 20) ∧ (((0 ≤ a ∧ a < 20) ∧ (0 ≤ b ∧ b < 20))) ∧ (0 ≤ (grow σ 326 (rsw (σ 326) a.toNatClampNeg b.toNatClampNeg)) 326 3 ∧ (grow σ 326 (rsw (σ 326) a.toNatClampNeg b.toNatClampNeg)) 326 3 ≤ 20) ∧ (((0 ≤ a ∧ a < 20) ∧ (0 ≤ b ∧ b < 20))) ∧ K (some (.int ((fJa ((grow σ 326 (rsw (σ 326) a.toNatClampNeg b.toNatClampNeg)) 326)) - (fJa (σ 326))))) (grow (grow σ 326 (rsw (σ 326) a.toNatClampNeg b.toNatClampNeg)) 326 (rsw ((grow σ 326 (rsw (σ 326) a.toNatClampNeg b.toNatClampNeg)) 326) a.toNatClampNeg b.toNatClampNeg))) : gE 181 0 [some (.ref 326), some (.int a), some (.int b), none, none] [] σ K :=
  gw_run (cy := 181) (cuts := []) (inl := []) (pf := gpfG) gpfG_ok 400 (by decide) h
theorem s181_326 {σ : gS} {K : gK} {a b : Int32} (hc : ((0 ≤ a ∧ a < 20) ∧ (0 ≤ b ∧ b < 20)) ∧ 0 ≤ σ 326 3 ∧ σ 326 3 ≤ 20) (hK : K (some (.int (fRA (σ 326) a.toNatClampNeg b.toNatClampNeg))) σ) : gE 181 0 [some (.ref 326), some (.int a), some (.int b), none, none] [] σ K := by
  obtain ⟨hab, hc⟩ := hc
  refine w181_326 ⟨hc, hab, by rw [grow_at, rsw_3]; exact hc, hab, ?_⟩
  simp only [grow_grow, grow_at, rsw_rsw, grow_id]
  exact hK
noncomputable def f181 : gD := fun Lv σ => match Lv with
  | [some (.ref p), some (.int a), some (.int b), none, none] => cond (Nat.beq p 324 || Nat.beq p 326) (some (some (((0 ≤ a ∧ a < 20) ∧ (0 ≤ b ∧ b < 20)) ∧ 0 ≤ σ p 3 ∧ σ p 3 ≤ 20), some (.int (fRA (σ p) a.toNatClampNeg b.toNatClampNeg)), σ)) none
  | _ => none
theorem ok181 : gFok 181 f181 := by
  intro Lv σ q h hc K hK
  unfold f181 at h
  split at h
  · rename_i p a b
    obtain ⟨hb, h⟩ := c_no h
    have hb0 := hb
    rcases s_or hb0 with hb0 | hb0
    · have e := b_eq hb0
      subst e
      cases h
      exact s181_324 (hc _ rfl) hK
    · have e := b_eq hb0
      subst e
      cases h
      exact s181_326 (hc _ rfl) hK
  · cases h
noncomputable def gpfH_l : List (Nat × gD) := (179, f179) :: (180, f180) :: (181, f181) :: gpfG_l
noncomputable def gpfH : gP := gpl0 gpfH_l
theorem gpfH_ok : gPok gpfH := gpl0_cons ok179 (gpl0_cons ok180 (gpl0_cons ok181 (gpfG_ok)))
def nfold {α : Type} (f : Nat → α → α) (n : Nat) (s : α) : α := match n with
  | 0 => s
  | n + 1 => f n (nfold f n s)
def bsS (R : gW) (a b : Nat) (s : Int32 × Int32) : Int32 × Int32 := if a = b ∨ 0 < fWhy R a b 0 then s else if fRA R a b ≤ s.2 then s else (100 * iN a + iN b, fRA R a b)
def bsR (R : gW) (a : Nat) (s : Int32 × Int32) : Int32 × Int32 := nfold (bsS R a) (nM R) s
def fBest (R : gW) : Int32 := (nfold (bsR R) (nM R) (-2, 0)).1
theorem g_forJ {y pc : Nat} {K : gK} {J : Type} (n : Nat) (Lv : Nat → J → gL) (σf : Nat → gS) (Inv : Nat → Prop) (hend : Inv n → ∀ u, gE y pc (Lv n u) [] (σf n) K) (hstep : ∀ k, k < n → Inv k → (Inv (k + 1) → ∀ u, gE y pc (Lv (k + 1) u) [] (σf (k + 1)) K) → ∀ u, gE y pc (Lv k u) [] (σf k) K) (k : Nat) (hk : k ≤ n) (hi : Inv k) : ∀ u, gE y pc (Lv k u) [] (σf k) K := by
  obtain ⟨d, hd⟩ : ∃ d, d = n - k := ⟨_, rfl⟩
  induction d generalizing k with
  | zero =>
    have : k = n := by omega
    subst this
    exact hend hi
  | succ d ih => exact hstep k (by omega) hi (fun h => ih (k + 1) (by omega) h (by omega))
set_option maxRecDepth 20000 in
theorem w182_326 {σ : gS} {K : gK} (h : gE 182 7 [some (.ref 326), some (.int (-2)), some (.int 0), some (.int 0), none, none] [] σ K) : gE 182 0 [some (.ref 326), none, none, none, none, none] [] σ K :=
  gw_run (cy := 182) (cuts := [7, 17]) (inl := []) (pf := gpfH) gpfH_ok 400 (by decide) h
set_option maxRecDepth 20000 in
theorem v182_a {σ : gS} {K : gK} {best most a : Int32} {u1 u2 : Option Value} (h : (0 ≤ (3 : Int32) ∧ (3 : Int32) < 330) ∧ ((¬ a < (σ 326 3) → K (some (.int best)) σ) ∧ (a < (σ 326 3) → gE 182 17 [some (.ref 326), some (.int best), some (.int most), some (.int a), some (.int 0), u2] [] σ K))) : gE 182 7 [some (.ref 326), some (.int best), some (.int most), some (.int a), u1, u2] [] σ K :=
  gw_run (cy := 182) (cuts := [7, 17]) (inl := []) (pf := gpfH) gpfH_ok 400 (by decide) h
set_option maxRecDepth 20000 in
theorem v182_b {σ : gS} {K : gK} {best most a b : Int32} {u2 : Option Value} (h : (0 ≤ (3 : Int32) ∧ (3 : Int32) < 330) ∧ ((¬ b < (σ 326 3) → gE 182 7 [some (.ref 326), some (.int best), some (.int most), some (.int (a + 1)), some (.int b), u2] [] σ K) ∧ (b < (σ 326 3) → ((a = b → gE 182 17 [some (.ref 326), some (.int best), some (.int most), some (.int a), some (.int (b + 1)), u2] [] σ K) ∧ (¬ a = b → (((0 ≤ a ∧ a < 20) ∧ (0 ≤ b ∧ b < 20)) ∧ 0 ≤ σ 326 3 ∧ σ 326 3 ≤ 20) ∧ ((¬ 0 < (fWhy (σ 326) a.toNatClampNeg b.toNatClampNeg (0 : Int32)) → (((0 ≤ a ∧ a < 20) ∧ (0 ≤ b ∧ b < 20)) ∧ 0 ≤ σ 326 3 ∧ σ 326 3 ≤ 20) ∧ ((most < (fRA (σ 326) a.toNatClampNeg b.toNatClampNeg) → gE 182 17 [some (.ref 326), some (.int ((100 * a) + b)), some (.int (fRA (σ 326) a.toNatClampNeg b.toNatClampNeg)), some (.int a), some (.int (b + 1)), some (.int (fRA (σ 326) a.toNatClampNeg b.toNatClampNeg))] [] σ K) ∧ (¬ most < (fRA (σ 326) a.toNatClampNeg b.toNatClampNeg) → gE 182 17 [some (.ref 326), some (.int best), some (.int most), some (.int a), some (.int (b + 1)), some (.int (fRA (σ 326) a.toNatClampNeg b.toNatClampNeg))] [] σ K))) ∧ (0 < (fWhy (σ 326) a.toNatClampNeg b.toNatClampNeg (0 : Int32)) → gE 182 17 [some (.ref 326), some (.int best), some (.int most), some (.int a), some (.int (b + 1)), u2] [] σ K))))))) : gE 182 17 [some (.ref 326), some (.int best), some (.int most), some (.int a), some (.int b), u2] [] σ K :=
  gw_run (cy := 182) (cuts := [7, 17]) (inl := []) (pf := gpfH) gpfH_ok 400 (by decide) h
theorem s182_326 {σ : gS} {K : gK} (hc : 0 ≤ σ 326 3 ∧ σ 326 3 ≤ 20) (hK : K (some (.int (fBest (σ 326)))) σ) : gE 182 0 [some (.ref 326), none, none, none, none, none] [] σ K := by
  have hn := (nM_of hc).2
  have inner : ∀ (a : Nat) (s : Int32 × Int32) (u : Option Value), a < nM (σ 326) → (∀ u1 u2, gE 182 7 [some (.ref 326), some (.int (bsR (σ 326) a s).1), some (.int (bsR (σ 326) a s).2), some (.int (iN (a + 1))), u1, u2] [] σ K) → gE 182 17 [some (.ref 326), some (.int s.1), some (.int s.2), some (.int (iN a)), some (.int 0), u] [] σ K := by
    intro a s u ha hout
    have ha20 : a < 20 := by omega
    refine g_forJ (nM (σ 326)) (fun k u => [some (.ref 326), some (.int (nfold (bsS (σ 326) a) k s).1), some (.int (nfold (bsS (σ 326) a) k s).2), some (.int (iN a)), some (.int (iN k)), u]) (fun _ => σ) (fun _ => True) (fun _ u => ?_) (fun k hk _ ih u => ?_) 0 (Nat.zero_le _) trivial u
    · refine v182_b ⟨by decide, fun _ => ?_, fun h => ?_⟩
      · rw [iN_one]
        exact hout _ _
      · rw [nM_lt hc (by omega)] at h; omega
    · have hk20 : k < 20 := by omega
      have ih := ih trivial
      have e : nfold (bsS (σ 326) a) (k + 1) s = bsS (σ 326) a k (nfold (bsS (σ 326) a) k s) := rfl
      rw [e] at ih
      generalize nfold (bsS (σ 326) a) k s = s at ih ⊢
      unfold bsS at ih
      have na : (iN a).toNatClampNeg = a := iN_nat (by omega)
      have nk : (iN k).toNatClampNeg = k := iN_nat (by omega)
      refine v182_b ⟨by decide, fun h => ?_, fun _ => ⟨fun h => ?_, fun h => ⟨⟨⟨b20 ha20, b20 hk20⟩, hc⟩, fun h2 => ⟨⟨⟨b20 ha20, b20 hk20⟩, hc⟩, fun h3 => ?_, fun h3 => ?_⟩, fun h2 => ?_⟩⟩⟩
      · rw [nM_lt hc (by omega)] at h; omega
      · rw [iN_inj (by omega) (by omega)] at h
        rw [if_pos (Or.inl h)] at ih
        rw [iN_one]
        exact ih _
      · rw [iN_inj (by omega) (by omega)] at h
        rw [na, nk] at h2 h3
        rw [if_neg (fun e => e.elim h h2), if_neg (Int32.not_le.mpr h3)] at ih
        rw [iN_one, na, nk]
        exact ih _
      · rw [iN_inj (by omega) (by omega)] at h
        rw [na, nk] at h2 h3
        rw [if_neg (fun e => e.elim h h2), if_pos (Int32.not_lt.mp h3)] at ih
        rw [iN_one, na, nk]
        exact ih _
      · rw [na, nk] at h2
        rw [if_pos (Or.inr h2)] at ih
        rw [iN_one]
        exact ih _
  refine w182_326 ?_
  refine g_forJ (J := Option Value × Option Value) (nM (σ 326)) (fun k u => [some (.ref 326), some (.int (nfold (bsR (σ 326)) k (-2, 0)).1), some (.int (nfold (bsR (σ 326)) k (-2, 0)).2), some (.int (iN k)), u.1, u.2]) (fun _ => σ) (fun _ => True) (fun _ u => ?_) (fun k hk _ ih u => ?_) 0 (Nat.zero_le _) trivial (none, none)
  · refine v182_a ⟨by decide, fun _ => hK, fun h => ?_⟩
    rw [nM_lt hc (by omega)] at h; omega
  · refine v182_a ⟨by decide, fun h => ?_, fun _ => inner k _ _ hk (fun u1 u2 => ih trivial (u1, u2))⟩
    rw [nM_lt hc (by omega)] at h; omega
noncomputable def f182 : gD := fun Lv σ => match Lv with
  | [some (.ref p), none, none, none, none, none] => cond (Nat.beq p 326) (some (some (0 ≤ σ p 3 ∧ σ p 3 ≤ 20), some (.int (fBest (σ p))), σ)) none
  | _ => none
theorem ok182 : gFok 182 f182 := by
  intro Lv σ q h hc K hK
  unfold f182 at h
  split at h
  · rename_i p
    obtain ⟨hb, h⟩ := c_no h
    have hb0 := hb
    have e := b_eq hb0
    subst e
    cases h
    exact s182_326 (hc _ rfl) hK
  · cases h
noncomputable def gpfI_l : List (Nat × gD) := (182, f182) :: gpfH_l
noncomputable def gpfI : gP := gpl0 gpfI_l
theorem gpfI_ok : gPok gpfI := gpl0_cons ok182 (gpfH_ok)
