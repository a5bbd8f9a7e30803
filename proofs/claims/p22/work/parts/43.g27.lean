-- text 27
/-! ROWS THAT AGREE in what counts -/
/-- the same numbers, and the same travellers but for names -/
def agr (R S : gW) : Prop := (∀ j, j < 9 → R j = S j) ∧ ∀ t, t < nM R → ∀ f, f < 9 → fld R t f = fld S t f
theorem agr_n {R S : gW} (h : agr R S) : nM R = nM S := by unfold nM; rw [h.1 3 (by decide)]
theorem agr_refl (R : gW) : agr R R := ⟨fun _ _ => rfl, fun _ _ _ _ => rfl⟩
theorem agr_symm {R S : gW} (h : agr R S) : agr S R := ⟨fun j hj => (h.1 j hj).symm, fun t ht f hf => (h.2 t (by rw [agr_n h]; exact ht) f hf).symm⟩
theorem agr_trans {R S T : gW} (h : agr R S) (h2 : agr S T) : agr R T := ⟨fun j hj => (h.1 j hj).trans (h2.1 j hj), fun t ht f hf => (h.2 t ht f hf).trans (h2.2 t (by rw [← agr_n h]; exact ht) f hf)⟩
theorem agr_Who {R S : gW} (h : agr R S) (x : Int32) : fWho R x = fWho S x := by
  unfold fWho
  rw [← agr_n h]
  exact fnd_congr (fun j hj => by rw [h.2 j hj 0 (by decide)])
theorem agr_kin {R S : gW} (h : agr R S) {t : Nat} (ht : t < nM R) (b : Int32) : kin R t b = kin S t b := by
  unfold kin
  rw [← agr_n h]
  congr 1
  refine cnt_congr (fun j hj => ?_)
  unfold kinP
  rw [h.2 j hj 0 (by decide), h.2 j hj 2 (by decide), h.2 t ht 2 (by decide)]
theorem agr_Joy {R S : gW} (h : agr R S) {t : Nat} (ht : t < nM R) (x : Int32) : fJoy R t x = fJoy S t x := by
  unfold fJoy
  rw [agr_kin h ht, h.2 t ht 3 (by decide), h.2 t ht 4 (by decide), h.2 t ht 5 (by decide), h.2 t ht 6 (by decide)]
theorem agr_Jo {R S : gW} (h : agr R S) {t : Nat} (ht : t < nM R) : fJo R t = fJo S t := by
  unfold fJo
  rw [agr_Joy h ht, h.2 t ht 0 (by decide)]
theorem agr_Ja {R S : gW} (h : agr R S) : fJa R = fJa S := by
  unfold fJa
  rw [← agr_n h]
  exact sm_congr (fun j hj => agr_Jo h hj)
theorem agr_Gr {R S : gW} (h : agr R S) : fGr R = fGr S := by
  unfold fGr
  rw [← agr_n h]
  congr 1
  exact cnt_congr (fun j hj => by rw [agr_Jo h hj])
theorem agr_Bar {R S : gW} (h : agr R S) (f : Int32) : fBar R f = fBar S f := by
  unfold fBar
  rw [← agr_n h]
  congr 1
  exact cnt_congr (fun j hj => by rw [h.2 j hj 1 (by decide), h.2 j hj 0 (by decide)])
theorem agr_May {R S : gW} (h : agr R S) {t : Nat} (ht : t < nM R) (x : Int32) : fMay R t x ↔ fMay S t x := by
  unfold fMay
  rw [h.2 t ht 1 (by decide), h.1 1 (by decide)]
theorem fld_rsw (R : gW) (a b t f : Nat) (hf : f < 10) : fld (rsw R a b) t f = if f = 0 then (if t = b then fld R a 0 else if t = a then fld R b 0 else fld R t 0) else fld R t f := by
  unfold fld
  rw [rsw_eq]
  by_cases h0 : f = 0
  · subst h0
    rw [if_pos rfl]
    by_cases hb : t = b
    · rw [if_pos hb, if_pos (by omega)]; rfl
    · rw [if_neg hb, if_neg (by omega)]
      by_cases ha : t = a
      · rw [if_pos ha, if_pos (by omega)]; rfl
      · rw [if_neg ha, if_neg (by omega)]
  · rw [if_neg h0, if_neg (by omega), if_neg (by omega)]
theorem agr_rsw {R S : gW} (h : agr R S) {a b : Nat} (ha : a < nM R) (hb : b < nM R) : agr (rsw R a b) (rsw S a b) := by
  refine ⟨fun j hj => ?_, fun t ht f hf => ?_⟩
  · rw [rsw_eq, rsw_eq, if_neg (by omega), if_neg (by omega), if_neg (by omega), if_neg (by omega)]
    exact h.1 j hj
  · rw [nM_rsw] at ht
    rw [fld_rsw _ _ _ _ _ (by omega), fld_rsw _ _ _ _ _ (by omega), h.2 a ha 0 (by decide), h.2 b hb 0 (by decide), h.2 t ht 0 (by decide), h.2 t ht f hf]
theorem fld_rtu {R : gW} {a b c : Nat} (hd : a ≠ b ∧ b ≠ c ∧ a ≠ c) (t f : Nat) (hf : f < 10) : fld (rtu R a b c) t f = if f = 0 then (if t = c then fld R a 0 else if t = b then fld R c 0 else if t = a then fld R b 0 else fld R t 0) else fld R t f := by
  unfold fld
  rw [rtu_eq hd]
  by_cases h0 : f = 0
  · subst h0
    rw [if_pos rfl]
    by_cases hc : t = c
    · rw [if_pos hc, if_pos (by omega)]; rfl
    · rw [if_neg hc, if_neg (by omega)]
      by_cases hb : t = b
      · rw [if_pos hb, if_pos (by omega)]; rfl
      · rw [if_neg hb, if_neg (by omega)]
        by_cases ha : t = a
        · rw [if_pos ha, if_pos (by omega)]; rfl
        · rw [if_neg ha, if_neg (by omega)]
  · rw [if_neg h0, if_neg (by omega), if_neg (by omega), if_neg (by omega)]
theorem agr_rtu {R S : gW} (h : agr R S) {a b c : Nat} (ha : a < nM R) (hb : b < nM R) (hc : c < nM R) (hd : a ≠ b ∧ b ≠ c ∧ a ≠ c) : agr (rtu R a b c) (rtu S a b c) := by
  refine ⟨fun j hj => ?_, fun t ht f hf => ?_⟩
  · rw [rtu_eq hd, rtu_eq hd, if_neg (by omega), if_neg (by omega), if_neg (by omega), if_neg (by omega), if_neg (by omega), if_neg (by omega)]
    exact h.1 j hj
  · rw [nM_rtu hd] at ht
    rw [fld_rtu hd _ _ (by omega), fld_rtu hd _ _ (by omega), h.2 a ha 0 (by decide), h.2 b hb 0 (by decide), h.2 c hc 0 (by decide), h.2 t ht 0 (by decide), h.2 t ht f hf]
theorem agr_Rise {R S : gW} (h : agr R S) {a b w : Nat} (ha : a < nM R) (hb : b < nM R) (hw : w < nM R) : fRise R a b w = fRise S a b w := by
  unfold fRise
  rw [agr_Jo (agr_rsw h ha hb) (by rw [nM_rsw]; exact hw), agr_Jo h hw]
theorem agr_RA {R S : gW} (h : agr R S) {a b : Nat} (ha : a < nM R) (hb : b < nM R) : fRA R a b = fRA S a b := by
  unfold fRA
  rw [agr_Ja (agr_rsw h ha hb), agr_Ja h]
theorem agr_Why {R S : gW} (h : agr R S) {a b : Nat} (ha : a < nM R) (hb : b < nM R) (x : Int32) : fWhy R a b x = fWhy S a b x := by
  unfold fWhy
  rw [agr_Rise h ha hb ha, agr_Rise h ha hb hb, h.2 a ha 0 (by decide), h.2 b hb 0 (by decide), h.2 a ha 7 (by decide)]
  simp only [agr_May h ha, agr_May h hb]
theorem agr_WhyM {R S : gW} (h : agr R S) {t : Nat} (ht : t < nM R) (x : Int32) : fWhyM R t x = fWhyM S t x := by
  unfold fWhyM
  rw [agr_Who h, agr_Joy h ht, agr_Jo h ht]
  simp only [agr_May h ht]
theorem agr_RR {R S : gW} (h : agr R S) {a b c w : Nat} (ha : a < nM R) (hb : b < nM R) (hc : c < nM R) (hd : a ≠ b ∧ b ≠ c ∧ a ≠ c) (hw : w < nM R) : fRR R a b c w = fRR S a b c w := by
  unfold fRR
  rw [agr_Jo (agr_rtu h ha hb hc hd) (by rw [nM_rtu hd]; exact hw), agr_Jo h hw]
theorem agr_ROR {R S : gW} (h : agr R S) {a b c : Nat} (ha : a < nM R) (hb : b < nM R) (hc : c < nM R) (hd : a ≠ b ∧ b ≠ c ∧ a ≠ c) : fROR R a b c = fROR S a b c := by
  unfold fROR
  rw [agr_RR h ha hb hc hd ha, agr_RR h ha hb hc hd hb, agr_RR h ha hb hc hd hc]
theorem agr_WhyR {R S : gW} (h : agr R S) {a b c : Nat} (ha : a < nM R) (hb : b < nM R) (hc : c < nM R) (hd : a ≠ b ∧ b ≠ c ∧ a ≠ c) : fWhyR R a b c = fWhyR S a b c := by
  unfold fWhyR
  rw [agr_RR h ha hb hc hd ha, agr_RR h ha hb hc hd hb, agr_RR h ha hb hc hd hc, h.2 a ha 0 (by decide), h.2 b hb 0 (by decide), h.2 c hc 0 (by decide)]
  simp only [agr_May h ha, agr_May h hb, agr_May h hc]
theorem nfold_congr {α : Type} {f g : Nat → α → α} {s : α} : ∀ {n : Nat}, (∀ k s, k < n → f k s = g k s) → nfold f n s = nfold g n s
  | 0, _ => rfl
  | n + 1, h => by
    show f n (nfold f n s) = g n (nfold g n s)
    rw [nfold_congr (fun k s hk => h k s (by omega)), h n _ (by omega)]
theorem agr_Best {R S : gW} (h : agr R S) : fBest R = fBest S := by
  unfold fBest
  rw [← agr_n h]
  congr 1
  refine nfold_congr (fun a s ha => ?_)
  unfold bsR
  rw [← agr_n h]
  refine nfold_congr (fun b s hb => ?_)
  unfold bsS
  rw [agr_Why h ha hb, agr_RA h ha hb]
theorem agr_St : ∀ {d : Nat} {R S : gW}, (0 ≤ R 3 ∧ R 3 ≤ 20) → agr R S → (fSt d R).1 = (fSt d S).1 ∧ agr (fSt d R).2 (fSt d S).2
  | 0, R, S, _, h => ⟨rfl, h⟩
  | d + 1, R, S, hR, h => by
    by_cases hb : fBest R < 0
    · rw [fSt_lt hb, fSt_lt (by rw [← agr_Best h]; exact hb)]
      exact ⟨rfl, h⟩
    · rw [fSt_ge hb, fSt_ge (by rw [← agr_Best h]; exact hb)]
      have hn := (nM_of hR).2
      have h2 : agr (fNx R) (fNx S) := by
        rcases fBest_of R with q | ⟨a, b, ha, hb2, q⟩
        · rw [q] at hb; exact absurd (by decide) hb
        · obtain ⟨d1, d2, -⟩ := dm100 a (by omega) b (by omega)
          have x1 : fNx S = rsw S a b := by
            unfold fNx
            rw [← agr_Best h, q, d2, d1, iN_nat (by omega), iN_nat (by omega)]
          have x2 : fNx R = rsw R a b := by
            unfold fNx
            rw [q, d2, d1, iN_nat (by omega), iN_nat (by omega)]
          rw [x1, x2]
          exact agr_rsw h ha hb2
      obtain ⟨i1, i2⟩ := agr_St (d := d) (by rw [fNx_3]; exact hR) h2
      exact ⟨by show _ + 1 = _ + 1; rw [i1], i2⟩
-- text 28
/-! THE CLASS: the log, copies -/
noncomputable def gpcl_l : List (Nat × gD) := (86, f86) :: (87, f87) :: (88, f88) :: (90, f90) :: (93, f93) :: gpck_l
noncomputable def gpcl : gP := gpl0 gpcl_l
theorem gpcl_ok : gPok gpcl := gpl0_cons ok86 (gpl0_cons ok87 (gpl0_cons ok88 (gpl0_cons ok90 (gpl0_cons ok93 (gpck_ok)))))
theorem xor_40 : ∀ k, k < 100 → ¬ (iN k ^^^ 40) < 0 ∧ ¬ (iN k ^^^ 8) < 0 := by decide +kernel
theorem l100 {x : Int32} (h : 0 ≤ x ∧ x < 100) : x = iN x.toNatClampNeg ∧ x.toNatClampNeg < 100 := by
  obtain ⟨e, l⟩ := iN_of h.1
  refine ⟨e, ?_⟩
  have h2 := h.2
  rw [e] at h2
  exact (iN_lt (m := 100) l (by decide)).mp h2
set_option maxRecDepth 20000 in
theorem w269 {σ : gS} {K : gK} {x m : Int32} (h : m ≠ 0 ∧ ((¬ (x ^^^ m) < 0 → K (some (.int (x - x / m * m))) σ) ∧ ((x ^^^ m) < 0 → (((x - x / m * m) = 0 → K (some (.int (x - x / m * m))) σ) ∧ (¬ (x - x / m * m) = 0 → K (some (.int ((x - x / m * m) + m))) σ))))) : gE 269 0 [some (.int x), some (.int m), none] [] σ K :=
  gw_run (cy := 269) (cuts := []) (inl := []) (pf := gpcl) gpcl_ok 400 (by decide) h
theorem s269 {σ : gS} {K : gK} {x m : Int32} (hc : (0 ≤ x ∧ x < 100) ∧ (m = 40 ∨ m = 8)) (hK : K (some (.int (x - x / m * m))) σ) : gE 269 0 [some (.int x), some (.int m), none] [] σ K := by
  obtain ⟨hx, hm⟩ := hc
  obtain ⟨e, l⟩ := l100 hx
  obtain ⟨x1, x2⟩ := xor_40 _ l
  rw [← e] at x1 x2
  refine w269 ⟨?_, fun _ => hK, fun h => ?_⟩
  · rcases hm with rfl | rfl <;> decide
  · rcases hm with rfl | rfl
    · exact absurd h x1
    · exact absurd h x2
noncomputable def f269 : gD := fun Lv σ => match Lv with
  | [some (.int x), some (.int m), none] => some (some ((0 ≤ x ∧ x < 100) ∧ (m = 40 ∨ m = 8)), some (.int (x - x / m * m)), σ)
  | _ => none
theorem ok269 : gFok 269 f269 := by
  intro Lv σ q h hc K hK
  unfold f269 at h
  split at h
  · rename_i x m
    cases h
    exact s269 (hc _ rfl) hK
  · cases h
noncomputable def gpcm_l : List (Nat × gD) := (269, f269) :: gpcl_l
noncomputable def gpcm : gP := gpl0 gpcm_l
theorem gpcm_ok : gPok gpcm := gpl0_cons ok269 (gpcl_ok)
set_option maxRecDepth 20000 in
theorem w3 {σ : gS} {K : gK} {i w : Int32} (h : ((0 ≤ ((σ 30 1) + i) ∧ ((σ 30 1) + i) < 100) ∧ ((40 : Int32) = 40 ∨ (40 : Int32) = 8)) ∧ K (some (.int (((((σ 30 1) + i) - ((σ 30 1) + i) / (40 : Int32) * (40 : Int32)) * 3) + w))) σ) : gE 3 0 [some (.ref 30), some (.int i), some (.int w)] [] σ K :=
  gw_run (cy := 3) (cuts := []) (inl := []) (pf := gpcm) gpcm_ok 400 (by decide) h
theorem s3 {σ : gS} {K : gK} {i w : Int32} (hc : 0 ≤ σ 30 1 + i ∧ σ 30 1 + i < 100) (hK : K (some (.int (((σ 30 1 + i) - (σ 30 1 + i) / 40 * 40) * 3 + w))) σ) : gE 3 0 [some (.ref 30), some (.int i), some (.int w)] [] σ K := by
  exact w3 ⟨⟨hc, Or.inl rfl⟩, hK⟩
noncomputable def f3 : gD := fun Lv σ => match Lv with
  | [some (.ref q0), some (.int i), some (.int w)] => cond (Nat.beq q0 30) (some (some (0 ≤ σ 30 1 + i ∧ σ 30 1 + i < 100), some (.int (((σ 30 1 + i) - (σ 30 1 + i) / 40 * 40) * 3 + w)), σ)) none
  | _ => none
theorem ok3 : gFok 3 f3 := by
  intro Lv σ q h hc K hK
  unfold f3 at h
  split at h
  · rename_i q0 i w
    obtain ⟨hb, h⟩ := c_no h
    have hb0 := hb
    have e0 := b_eq hb0
    subst e0
    cases h
    exact s3 (hc _ rfl) hK
  · cases h
set_option maxRecDepth 20000 in
theorem w4 {σ : gS} {K : gK} {i w : Int32} (h : ((i < 0 → K none σ) ∧ (¬ i < 0 → ((¬ i < 120 → K none σ) ∧ (i < 120 → (0 ≤ i ∧ i < 120) ∧ K none (gup σ 31 i.toNatClampNeg w)))))) : gE 4 0 [some (.ref 30), some (.int i), some (.int w)] [] σ K :=
  gw_run (cy := 4) (cuts := []) (inl := []) (pf := gpcm) gpcm_ok 400 (by decide) h
theorem s4 {σ : gS} {K : gK} {i w : Int32} (hc : 0 ≤ i ∧ i < 120) (hK : K none (gup σ 31 i.toNatClampNeg w)) : gE 4 0 [some (.ref 30), some (.int i), some (.int w)] [] σ K := by
  refine w4 ?_
  grind
noncomputable def f4 : gD := fun Lv σ => match Lv with
  | [some (.ref q0), some (.int i), some (.int w)] => cond (Nat.beq q0 30) (some (some (0 ≤ i ∧ i < 120), none, gup σ 31 i.toNatClampNeg w)) none
  | _ => none
theorem ok4 : gFok 4 f4 := by
  intro Lv σ q h hc K hK
  unfold f4 at h
  split at h
  · rename_i q0 i w
    obtain ⟨hb, h⟩ := c_no h
    have hb0 := hb
    have e0 := b_eq hb0
    subst e0
    cases h
    exact s4 (hc _ rfl) hK
  · cases h
noncomputable def gpcn_l : List (Nat × gD) := (3, f3) :: (4, f4) :: gpcm_l
noncomputable def gpcn : gP := gpl0 gpcn_l
theorem gpcn_ok : gPok gpcn := gpl0_cons ok3 (gpl0_cons ok4 (gpcm_ok))
/-- the place of the entry that comes next -/
def cNx (σ : gS) : Nat := 3 * (((σ 30 1).toNatClampNeg + (σ 30 2).toNatClampNeg) % 40)
def cAd3 (σ : gS) (w a b : Int32) : gS := gup (gup (gup σ 31 (cNx σ) w) 31 (cNx σ + 1) a) 31 (cNx σ + 2) b
def cAdd (σ : gS) (w a b : Int32) : gS := if σ 30 2 < 40 then gup (cAd3 σ w a b) 30 2 (σ 30 2 + 1) else gup (cAd3 σ w a b) 30 1 (iN (((σ 30 1).toNatClampNeg + 1) % 40))
abbrev bLg (σ : gS) (l : Nat) : Prop := (0 ≤ σ l 1 ∧ σ l 1 < 40) ∧ (0 ≤ σ l 2 ∧ σ l 2 ≤ 40)
theorem l40 {x : Int32} (h : 0 ≤ x ∧ x ≤ 40) : x = iN x.toNatClampNeg ∧ x.toNatClampNeg ≤ 40 := by
  obtain ⟨e, l⟩ := iN_of h.1
  refine ⟨e, ?_⟩
  have h2 := h.2
  rw [e] at h2
  exact (iN_le (m := 40) l (by decide)).mp h2
theorem lg_i {o s c : Nat} (ho : o < 40) (hs : s ≤ 40) (hc : c < 3) : ((iN o + iN s) - (iN o + iN s) / 40 * 40) * 3 + iN c = iN (3 * ((o + s) % 40) + c) ∧ (0 ≤ iN (3 * ((o + s) % 40) + c) ∧ iN (3 * ((o + s) % 40) + c) < 120) ∧ (0 ≤ iN o + iN s ∧ iN o + iN s < 100) := by
  have e1 : (iN o + iN s) - (iN o + iN s) / 40 * 40 = iN ((o + s) % 40) := by
    rw [iN_add]
    exact iN_mod (d := 40) (by omega) (by decide)
  have e2 : iN ((o + s) % 40) * 3 + iN c = iN (3 * ((o + s) % 40) + c) := by
    show iN ((o + s) % 40) * iN 3 + iN c = _
    rw [iN_mul, iN_add, Nat.mul_comm]
  have hm : (o + s) % 40 < 40 := Nat.mod_lt _ (by decide)
  rw [e1, e2]
  refine ⟨rfl, ⟨(iN_le (k := 0) (by decide) (by omega)).mpr (by omega), (iN_lt (m := 120) (by omega) (by decide)).mpr (by omega)⟩, ?_⟩
  rw [iN_add]
  exact ⟨(iN_le (k := 0) (by decide) (by omega)).mpr (by omega), (iN_lt (m := 100) (by omega) (by decide)).mpr (by omega)⟩
set_option maxRecDepth 20000 in
theorem w5 {σ : gS} {K : gK} {w a b : Int32} (h : (0 ≤ σ 30 1 + (σ 30 2) ∧ σ 30 1 + (σ 30 2) < 100) ∧ (0 ≤ (((σ 30 1 + (σ 30 2)) - (σ 30 1 + (σ 30 2)) / 40 * 40) * 3 + (0 : Int32)) ∧ (((σ 30 1 + (σ 30 2)) - (σ 30 1 + (σ 30 2)) / 40 * 40) * 3 + (0 : Int32)) < 120) ∧ gE 5 14 [some (.ref 30), some (.int w), some (.int a), some (.int b)] [] (gup σ 31 (((σ 30 1 + (σ 30 2)) - (σ 30 1 + (σ 30 2)) / 40 * 40) * 3 + (0 : Int32)).toNatClampNeg w) K) : gE 5 0 [some (.ref 30), some (.int w), some (.int a), some (.int b)] [] σ K :=
  gw_run (cy := 5) (cuts := [14, 28, 42]) (inl := []) (pf := gpcn) gpcn_ok 400 (by decide) h
set_option maxRecDepth 20000 in
theorem c5_14 {σ : gS} {K : gK} {l1 l2 l3 : Int32} (h : (0 ≤ σ 30 1 + (σ 30 2) ∧ σ 30 1 + (σ 30 2) < 100) ∧ (0 ≤ (((σ 30 1 + (σ 30 2)) - (σ 30 1 + (σ 30 2)) / 40 * 40) * 3 + (1 : Int32)) ∧ (((σ 30 1 + (σ 30 2)) - (σ 30 1 + (σ 30 2)) / 40 * 40) * 3 + (1 : Int32)) < 120) ∧ gE 5 28 [some (.ref 30), some (.int l1), some (.int l2), some (.int l3)] [] (gup σ 31 (((σ 30 1 + (σ 30 2)) - (σ 30 1 + (σ 30 2)) / 40 * 40) * 3 + (1 : Int32)).toNatClampNeg l2) K) : gE 5 14 [some (.ref 30), some (.int l1), some (.int l2), some (.int l3)] [] σ K :=
  gw_run (cy := 5) (cuts := [14, 28, 42]) (inl := []) (pf := gpcn) gpcn_ok 400 (by decide) h
set_option maxRecDepth 20000 in
theorem c5_28 {σ : gS} {K : gK} {l1 l2 l3 : Int32} (h : (0 ≤ σ 30 1 + (σ 30 2) ∧ σ 30 1 + (σ 30 2) < 100) ∧ (0 ≤ (((σ 30 1 + (σ 30 2)) - (σ 30 1 + (σ 30 2)) / 40 * 40) * 3 + (2 : Int32)) ∧ (((σ 30 1 + (σ 30 2)) - (σ 30 1 + (σ 30 2)) / 40 * 40) * 3 + (2 : Int32)) < 120) ∧ gE 5 42 [some (.ref 30), some (.int l1), some (.int l2), some (.int l3)] [] (gup σ 31 (((σ 30 1 + (σ 30 2)) - (σ 30 1 + (σ 30 2)) / 40 * 40) * 3 + (2 : Int32)).toNatClampNeg l3) K) : gE 5 28 [some (.ref 30), some (.int l1), some (.int l2), some (.int l3)] [] σ K :=
  gw_run (cy := 5) (cuts := [14, 28, 42]) (inl := []) (pf := gpcn) gpcn_ok 400 (by decide) h
set_option maxRecDepth 20000 in
theorem c5_42 {σ : gS} {K : gK} {l1 l2 l3 : Int32} (h : ((¬ (σ 30 2) < 40 → (40 : Int32) ≠ 0 ∧ K none (gup σ 30 1 (((σ 30 1) + 1) - ((σ 30 1) + 1) / 40 * 40))) ∧ ((σ 30 2) < 40 → K none (gup σ 30 2 ((σ 30 2) + 1))))) : gE 5 42 [some (.ref 30), some (.int l1), some (.int l2), some (.int l3)] [] σ K :=
  gw_run (cy := 5) (cuts := [14, 28, 42]) (inl := []) (pf := gpcn) gpcn_ok 400 (by decide) h
theorem s5 {σ : gS} {K : gK} {w a b : Int32} (hc : bLg σ 30) (hK : K none (cAdd σ w a b)) : gE 5 0 [some (.ref 30), some (.int w), some (.int a), some (.int b)] [] σ K := by
  obtain ⟨ho, hs⟩ := hc
  obtain ⟨eo, lo⟩ := l40 ⟨ho.1, by have := ho.2; grind⟩
  obtain ⟨es, ls⟩ := l40 hs
  obtain ⟨O, hO⟩ : ∃ O, (σ 30 1).toNatClampNeg = O := ⟨_, rfl⟩
  obtain ⟨S, hS⟩ : ∃ S, (σ 30 2).toNatClampNeg = S := ⟨_, rfl⟩
  rw [hO] at eo lo
  rw [hS] at es ls
  have lo : O < 40 := by
    have h := ho.2
    rw [eo] at h
    exact (iN_lt (m := 40) (by omega) (by decide)).mp h
  obtain ⟨i0, b0, bb⟩ := lg_i (c := 0) lo ls (by decide)
  obtain ⟨i1, b1, -⟩ := lg_i (c := 1) lo ls (by decide)
  obtain ⟨i2, b2, -⟩ := lg_i (c := 2) lo ls (by decide)
  have i0 : ((iN O + iN S) - (iN O + iN S) / 40 * 40) * 3 + (0 : Int32) = iN (3 * ((O + S) % 40)) := i0
  have i1 : ((iN O + iN S) - (iN O + iN S) / 40 * 40) * 3 + (1 : Int32) = iN (3 * ((O + S) % 40) + 1) := i1
  have i2 : ((iN O + iN S) - (iN O + iN S) / 40 * 40) * 3 + (2 : Int32) = iN (3 * ((O + S) % 40) + 2) := i2
  have hm : (O + S) % 40 < 40 := Nat.mod_lt _ (by decide)
  have en : cNx σ = 3 * ((O + S) % 40) := by unfold cNx; rw [hO, hS]
  have r1 : ∀ i x, gup σ 31 i x 30 1 = iN O := fun i x => by rw [gup_ne (by omega)]; exact eo
  have r2 : ∀ i x, gup σ 31 i x 30 2 = iN S := fun i x => by rw [gup_ne (by omega)]; exact es
  have r3 : ∀ i x j y, gup (gup σ 31 i x) 31 j y 30 1 = iN O := fun i x j y => by rw [gup_ne (by omega)]; exact r1 i x
  have r4 : ∀ i x j y, gup (gup σ 31 i x) 31 j y 30 2 = iN S := fun i x j y => by rw [gup_ne (by omega)]; exact r2 i x
  have r5 : ∀ i x j y k z, gup (gup (gup σ 31 i x) 31 j y) 31 k z 30 1 = iN O := fun i x j y k z => by rw [gup_ne (by omega)]; exact r3 i x j y
  have r6 : ∀ i x j y k z, gup (gup (gup σ 31 i x) 31 j y) 31 k z 30 2 = iN S := fun i x j y k z => by rw [gup_ne (by omega)]; exact r4 i x j y
  unfold cAdd cAd3 at hK
  rw [en, hO, es] at hK
  refine w5 ?_
  rw [eo, es, i0, iN_nat (by omega)]
  refine ⟨bb, b0, c5_14 ?_⟩
  rw [r1, r2, i1, iN_nat (by omega)]
  refine ⟨bb, b1, c5_28 ?_⟩
  rw [r3, r4, i2, iN_nat (by omega)]
  refine ⟨bb, b2, c5_42 ?_⟩
  rw [r5, r6]
  refine ⟨fun h => ⟨by decide, ?_⟩, fun h => ?_⟩
  · rw [if_neg h] at hK
    rw [iN_one, show (40 : Int32) = iN 40 from rfl, iN_mod (by omega) (by decide)]
    exact hK
  · rw [if_pos h] at hK
    exact hK
noncomputable def f5 : gD := fun Lv σ => match Lv with
  | [some (.ref q0), some (.int w), some (.int a), some (.int b)] => cond (Nat.beq q0 30) (some (some (bLg σ 30), none, cAdd σ w a b)) none
  | _ => none
theorem ok5 : gFok 5 f5 := by
  intro Lv σ q h hc K hK
  unfold f5 at h
  split at h
  · rename_i q0 w a b
    obtain ⟨hb, h⟩ := c_no h
    have hb0 := hb
    have e0 := b_eq hb0
    subst e0
    cases h
    exact s5 (hc _ rfl) hK
  · cases h
noncomputable def gpco_l : List (Nat × gD) := (5, f5) :: gpcn_l
noncomputable def gpco : gP := gpl0 gpco_l
theorem gpco_ok : gPok gpco := gpl0_cons ok5 (gpcn_ok)
/-- a traveller's numbers from another: the first k -/
def cTk (σ : gS) (a b k : Nat) : gS := fun q j => if q = a ∧ j < k then σ b j else σ q j
theorem cTk_0 (σ : gS) (a b : Nat) : cTk σ a b 0 = σ := by funext q j; unfold cTk; rw [if_neg (by omega)]
theorem cTk_s (σ : gS) (a b k : Nat) : gup (cTk σ a b k) a k (cTk σ a b k b k) = cTk σ a b (k + 1) := by
  funext q j
  unfold gup cTk
  by_cases h : q = a ∧ j = k
  · rw [if_pos h, h.2, if_neg (show ¬ (b = a ∧ k < k) by omega), if_pos (show q = a ∧ k < k + 1 from ⟨h.1, by omega⟩)]
  · rw [if_neg h]
    by_cases h2 : q = a ∧ j < k
    · rw [if_pos h2, if_pos (by omega)]
    · rw [if_neg h2, if_neg (by omega)]
def cTv (σ : gS) (a b : Nat) : gS := cTk σ a b 10
theorem cTk_1 (σ : gS) (a b : Nat) : gup σ a 0 (σ b 0) = cTk σ a b 1 := by
  have := cTk_s σ a b 0
  rw [cTk_0] at this
  exact this
set_option maxRecDepth 20000 in
theorem w103 {σ : gS} {K : gK} {a b : Nat} (h : gTv b ∧ gTv a ∧ gE 103 8 [some (.ref a), some (.ref b)] [] (gup σ a 0 (σ b 0)) K) : gE 103 0 [some (.ref a), some (.ref b)] [] σ K :=
  gw_run (cy := 103) (cuts := [8, 16, 24, 32, 40, 48, 56, 64, 72]) (inl := []) (pf := gpco) gpco_ok 400 (by decide) h
set_option maxRecDepth 20000 in
theorem c103_8 {σ : gS} {K : gK} {l0 l1 : Nat} (h : gTv l1 ∧ gTv l0 ∧ gE 103 16 [some (.ref l0), some (.ref l1)] [] (gup σ l0 1 (σ l1 1)) K) : gE 103 8 [some (.ref l0), some (.ref l1)] [] σ K :=
  gw_run (cy := 103) (cuts := [8, 16, 24, 32, 40, 48, 56, 64, 72]) (inl := []) (pf := gpco) gpco_ok 400 (by decide) h
set_option maxRecDepth 20000 in
theorem c103_16 {σ : gS} {K : gK} {l0 l1 : Nat} (h : gTv l1 ∧ gTv l0 ∧ gE 103 24 [some (.ref l0), some (.ref l1)] [] (gup σ l0 2 (σ l1 2)) K) : gE 103 16 [some (.ref l0), some (.ref l1)] [] σ K :=
  gw_run (cy := 103) (cuts := [8, 16, 24, 32, 40, 48, 56, 64, 72]) (inl := []) (pf := gpco) gpco_ok 400 (by decide) h
set_option maxRecDepth 20000 in
theorem c103_24 {σ : gS} {K : gK} {l0 l1 : Nat} (h : gTv l1 ∧ gTv l0 ∧ gE 103 32 [some (.ref l0), some (.ref l1)] [] (gup σ l0 3 (σ l1 3)) K) : gE 103 24 [some (.ref l0), some (.ref l1)] [] σ K :=
  gw_run (cy := 103) (cuts := [8, 16, 24, 32, 40, 48, 56, 64, 72]) (inl := []) (pf := gpco) gpco_ok 400 (by decide) h
set_option maxRecDepth 20000 in
theorem c103_32 {σ : gS} {K : gK} {l0 l1 : Nat} (h : gTv l1 ∧ gTv l0 ∧ gE 103 40 [some (.ref l0), some (.ref l1)] [] (gup σ l0 4 (σ l1 4)) K) : gE 103 32 [some (.ref l0), some (.ref l1)] [] σ K :=
  gw_run (cy := 103) (cuts := [8, 16, 24, 32, 40, 48, 56, 64, 72]) (inl := []) (pf := gpco) gpco_ok 400 (by decide) h
set_option maxRecDepth 20000 in
theorem c103_40 {σ : gS} {K : gK} {l0 l1 : Nat} (h : gTv l1 ∧ gTv l0 ∧ gE 103 48 [some (.ref l0), some (.ref l1)] [] (gup σ l0 5 (σ l1 5)) K) : gE 103 40 [some (.ref l0), some (.ref l1)] [] σ K :=
  gw_run (cy := 103) (cuts := [8, 16, 24, 32, 40, 48, 56, 64, 72]) (inl := []) (pf := gpco) gpco_ok 400 (by decide) h
set_option maxRecDepth 20000 in
theorem c103_48 {σ : gS} {K : gK} {l0 l1 : Nat} (h : gTv l1 ∧ gTv l0 ∧ gE 103 56 [some (.ref l0), some (.ref l1)] [] (gup σ l0 6 (σ l1 6)) K) : gE 103 48 [some (.ref l0), some (.ref l1)] [] σ K :=
  gw_run (cy := 103) (cuts := [8, 16, 24, 32, 40, 48, 56, 64, 72]) (inl := []) (pf := gpco) gpco_ok 400 (by decide) h
set_option maxRecDepth 20000 in
theorem c103_56 {σ : gS} {K : gK} {l0 l1 : Nat} (h : gTv l1 ∧ gTv l0 ∧ gE 103 64 [some (.ref l0), some (.ref l1)] [] (gup σ l0 7 (σ l1 7)) K) : gE 103 56 [some (.ref l0), some (.ref l1)] [] σ K :=
  gw_run (cy := 103) (cuts := [8, 16, 24, 32, 40, 48, 56, 64, 72]) (inl := []) (pf := gpco) gpco_ok 400 (by decide) h
set_option maxRecDepth 20000 in
theorem c103_64 {σ : gS} {K : gK} {l0 l1 : Nat} (h : gTv l1 ∧ gTv l0 ∧ gE 103 72 [some (.ref l0), some (.ref l1)] [] (gup σ l0 8 (σ l1 8)) K) : gE 103 64 [some (.ref l0), some (.ref l1)] [] σ K :=
  gw_run (cy := 103) (cuts := [8, 16, 24, 32, 40, 48, 56, 64, 72]) (inl := []) (pf := gpco) gpco_ok 400 (by decide) h
set_option maxRecDepth 20000 in
theorem c103_72 {σ : gS} {K : gK} {l0 l1 : Nat} (h : gTv l1 ∧ gTv l0 ∧ K none (gup σ l0 9 (σ l1 9))) : gE 103 72 [some (.ref l0), some (.ref l1)] [] σ K :=
  gw_run (cy := 103) (cuts := [8, 16, 24, 32, 40, 48, 56, 64, 72]) (inl := []) (pf := gpco) gpco_ok 400 (by decide) h
theorem s103 {σ : gS} {K : gK} {a b : Nat} (hc : gTv a ∧ gTv b) (hK : K none (cTv σ a b)) : gE 103 0 [some (.ref a), some (.ref b)] [] σ K := by
  obtain ⟨ha, hb⟩ := hc
  unfold cTv at hK
  refine w103 ⟨hb, ha, ?_⟩
  rw [cTk_1]
  refine c103_8 ⟨hb, ha, ?_⟩
  rw [cTk_s]
  refine c103_16 ⟨hb, ha, ?_⟩
  rw [cTk_s]
  refine c103_24 ⟨hb, ha, ?_⟩
  rw [cTk_s]
  refine c103_32 ⟨hb, ha, ?_⟩
  rw [cTk_s]
  refine c103_40 ⟨hb, ha, ?_⟩
  rw [cTk_s]
  refine c103_48 ⟨hb, ha, ?_⟩
  rw [cTk_s]
  refine c103_56 ⟨hb, ha, ?_⟩
  rw [cTk_s]
  refine c103_64 ⟨hb, ha, ?_⟩
  rw [cTk_s]
  refine c103_72 ⟨hb, ha, ?_⟩
  rw [cTk_s]
  exact hK
noncomputable def f103 : gD := fun Lv σ => match Lv with
  | [some (.ref a), some (.ref b)] => some (some (gTv a ∧ gTv b), none, cTv σ a b)
  | _ => none
theorem ok103 : gFok 103 f103 := by
  intro Lv σ q h hc K hK
  unfold f103 at h
  split at h
  · rename_i a b
    cases h
    exact s103 (hc _ rfl) hK
  · cases h
/-- a train's travellers, the first k, from another train -/
def cT1 (σ : gS) (p q k : Nat) : gS := fun b j => if p + 2 ≤ b ∧ b < p + 2 + k ∧ j < 10 then σ (q + (b - p)) j else σ b j
theorem cT1_0 (σ : gS) (p q : Nat) : cT1 σ p q 0 = σ := by funext b j; unfold cT1; rw [if_neg (by omega)]
theorem cT1_s {σ : gS} {p q k : Nat} (h : q + 26 ≤ p ∨ p + 26 ≤ q) (hk : k < 20) : cTv (cT1 σ p q k) (p + 2 + k) (q + 2 + k) = cT1 σ p q (k + 1) := by
  funext b j
  unfold cTv cTk cT1
  by_cases h1 : b = p + 2 + k ∧ j < 10
  · rw [if_pos h1, if_neg (by omega), if_pos (by omega), h1.1, show q + (p + 2 + k - p) = q + 2 + k by omega]
  · rw [if_neg h1]
    by_cases h2 : p + 2 ≤ b ∧ b < p + 2 + k ∧ j < 10
    · rw [if_pos h2, if_pos (by omega)]
    · rw [if_neg h2, if_neg (by omega)]
/-- the first k numbers of place d from place s -/
def cA1 (σ : gS) (d s k : Nat) : gS := fun b j => if b = d ∧ j < k then σ s j else σ b j
theorem cA1_0 (σ : gS) (d s : Nat) : cA1 σ d s 0 = σ := by funext b j; unfold cA1; rw [if_neg (by omega)]
theorem cA1_s {σ : gS} {d s k : Nat} (h : ¬ d = s) : gup (cA1 σ d s k) d k (cA1 σ d s k s k) = cA1 σ d s (k + 1) := by
  funext b j
  unfold gup cA1
  by_cases h1 : b = d ∧ j = k
  · rw [if_pos h1, h1.2, if_neg (show ¬ (s = d ∧ k < k) by omega), if_pos (show b = d ∧ k < k + 1 from ⟨h1.1, by omega⟩)]
  · rw [if_neg h1]
    by_cases h2 : b = d ∧ j < k
    · rw [if_pos h2, if_pos (by omega)]
    · rw [if_neg h2, if_neg (by omega)]
/-- a log from another -/
def cLc (σ : gS) (d s : Nat) : gS := gup (gup (cA1 σ (d + 1) (s + 1) 120) d 1 (σ s 1)) d 2 (σ s 2)
