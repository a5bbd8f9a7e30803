/-! ROWS THAT AGREE but for counts -/
def agf (R S : gW) : Prop := (∀ j, j < 9 → (j = 0 ∨ j = 1 ∨ j = 3) → R j = S j) ∧ ∀ t, t < nM R → ∀ f, f < 9 → fld R t f = fld S t f
theorem agf_n {R S : gW} (h : agf R S) : nM R = nM S := by unfold nM; rw [h.1 3 (by decide) (by decide)]
theorem agf_refl (R : gW) : agf R R := ⟨fun _ _ _ => rfl, fun _ _ _ _ => rfl⟩
theorem agf_symm {R S : gW} (h : agf R S) : agf S R := ⟨fun j hj hk => (h.1 j hj hk).symm, fun t ht f hf => (h.2 t (by rw [agf_n h]; exact ht) f hf).symm⟩
theorem agf_trans {R S T : gW} (h : agf R S) (h2 : agf S T) : agf R T := ⟨fun j hj hk => (h.1 j hj hk).trans (h2.1 j hj hk), fun t ht f hf => (h.2 t ht f hf).trans (h2.2 t (by rw [← agf_n h]; exact ht) f hf)⟩
theorem agf_Who {R S : gW} (h : agf R S) (x : Int32) : fWho R x = fWho S x := by
  unfold fWho
  rw [← agf_n h]
  exact fnd_congr (fun j hj => by rw [h.2 j hj 0 (by decide)])
theorem agf_kin {R S : gW} (h : agf R S) {t : Nat} (ht : t < nM R) (b : Int32) : kin R t b = kin S t b := by
  unfold kin
  rw [← agf_n h]
  congr 1
  refine cnt_congr (fun j hj => ?_)
  unfold kinP
  rw [h.2 j hj 0 (by decide), h.2 j hj 2 (by decide), h.2 t ht 2 (by decide)]
theorem agf_Joy {R S : gW} (h : agf R S) {t : Nat} (ht : t < nM R) (x : Int32) : fJoy R t x = fJoy S t x := by
  unfold fJoy
  rw [agf_kin h ht, h.2 t ht 3 (by decide), h.2 t ht 4 (by decide), h.2 t ht 5 (by decide), h.2 t ht 6 (by decide)]
theorem agf_Jo {R S : gW} (h : agf R S) {t : Nat} (ht : t < nM R) : fJo R t = fJo S t := by
  unfold fJo
  rw [agf_Joy h ht, h.2 t ht 0 (by decide)]
theorem agf_Ja {R S : gW} (h : agf R S) : fJa R = fJa S := by
  unfold fJa
  rw [← agf_n h]
  exact sm_congr (fun j hj => agf_Jo h hj)
theorem agf_Gr {R S : gW} (h : agf R S) : fGr R = fGr S := by
  unfold fGr
  rw [← agf_n h]
  congr 1
  exact cnt_congr (fun j hj => by rw [agf_Jo h hj])
theorem agf_Bar {R S : gW} (h : agf R S) (f : Int32) : fBar R f = fBar S f := by
  unfold fBar
  rw [← agf_n h]
  congr 1
  exact cnt_congr (fun j hj => by rw [h.2 j hj 1 (by decide), h.2 j hj 0 (by decide)])
theorem agf_May {R S : gW} (h : agf R S) {t : Nat} (ht : t < nM R) (x : Int32) : fMay R t x ↔ fMay S t x := by
  unfold fMay
  rw [h.2 t ht 1 (by decide), h.1 1 (by decide) (by decide)]
theorem agf_rsw {R S : gW} (h : agf R S) {a b : Nat} (ha : a < nM R) (hb : b < nM R) : agf (rsw R a b) (rsw S a b) := by
  refine ⟨fun j hj hk => ?_, fun t ht f hf => ?_⟩
  · rw [rsw_eq, rsw_eq, if_neg (by omega), if_neg (by omega), if_neg (by omega), if_neg (by omega)]
    exact h.1 j hj hk
  · rw [nM_rsw] at ht
    rw [fld_rsw _ _ _ _ _ (by omega), fld_rsw _ _ _ _ _ (by omega), h.2 a ha 0 (by decide), h.2 b hb 0 (by decide), h.2 t ht 0 (by decide), h.2 t ht f hf]
theorem agf_rtu {R S : gW} (h : agf R S) {a b c : Nat} (ha : a < nM R) (hb : b < nM R) (hc : c < nM R) (hd : a ≠ b ∧ b ≠ c ∧ a ≠ c) : agf (rtu R a b c) (rtu S a b c) := by
  refine ⟨fun j hj hk => ?_, fun t ht f hf => ?_⟩
  · rw [rtu_eq hd, rtu_eq hd, if_neg (by omega), if_neg (by omega), if_neg (by omega), if_neg (by omega), if_neg (by omega), if_neg (by omega)]
    exact h.1 j hj hk
  · rw [nM_rtu hd] at ht
    rw [fld_rtu hd _ _ (by omega), fld_rtu hd _ _ (by omega), h.2 a ha 0 (by decide), h.2 b hb 0 (by decide), h.2 c hc 0 (by decide), h.2 t ht 0 (by decide), h.2 t ht f hf]
theorem agf_Rise {R S : gW} (h : agf R S) {a b w : Nat} (ha : a < nM R) (hb : b < nM R) (hw : w < nM R) : fRise R a b w = fRise S a b w := by
  unfold fRise
  rw [agf_Jo (agf_rsw h ha hb) (by rw [nM_rsw]; exact hw), agf_Jo h hw]
theorem agf_RA {R S : gW} (h : agf R S) {a b : Nat} (ha : a < nM R) (hb : b < nM R) : fRA R a b = fRA S a b := by
  unfold fRA
  rw [agf_Ja (agf_rsw h ha hb), agf_Ja h]
theorem agf_Why {R S : gW} (h : agf R S) {a b : Nat} (ha : a < nM R) (hb : b < nM R) (x : Int32) : fWhy R a b x = fWhy S a b x := by
  unfold fWhy
  rw [agf_Rise h ha hb ha, agf_Rise h ha hb hb, h.2 a ha 0 (by decide), h.2 b hb 0 (by decide), h.2 a ha 7 (by decide)]
  simp only [agf_May h ha, agf_May h hb]
theorem agf_WhyM {R S : gW} (h : agf R S) {t : Nat} (ht : t < nM R) (x : Int32) : fWhyM R t x = fWhyM S t x := by
  unfold fWhyM
  rw [agf_Who h, agf_Joy h ht, agf_Jo h ht]
  simp only [agf_May h ht]
theorem agf_RR {R S : gW} (h : agf R S) {a b c w : Nat} (ha : a < nM R) (hb : b < nM R) (hc : c < nM R) (hd : a ≠ b ∧ b ≠ c ∧ a ≠ c) (hw : w < nM R) : fRR R a b c w = fRR S a b c w := by
  unfold fRR
  rw [agf_Jo (agf_rtu h ha hb hc hd) (by rw [nM_rtu hd]; exact hw), agf_Jo h hw]
theorem agf_ROR {R S : gW} (h : agf R S) {a b c : Nat} (ha : a < nM R) (hb : b < nM R) (hc : c < nM R) (hd : a ≠ b ∧ b ≠ c ∧ a ≠ c) : fROR R a b c = fROR S a b c := by
  unfold fROR
  rw [agf_RR h ha hb hc hd ha, agf_RR h ha hb hc hd hb, agf_RR h ha hb hc hd hc]
theorem agf_WhyR {R S : gW} (h : agf R S) {a b c : Nat} (ha : a < nM R) (hb : b < nM R) (hc : c < nM R) (hd : a ≠ b ∧ b ≠ c ∧ a ≠ c) : fWhyR R a b c = fWhyR S a b c := by
  unfold fWhyR
  rw [agf_RR h ha hb hc hd ha, agf_RR h ha hb hc hd hb, agf_RR h ha hb hc hd hc, h.2 a ha 0 (by decide), h.2 b hb 0 (by decide), h.2 c hc 0 (by decide)]
  simp only [agf_May h ha, agf_May h hb, agf_May h hc]
theorem agf_Best {R S : gW} (h : agf R S) : fBest R = fBest S := by
  unfold fBest
  rw [← agf_n h]
  congr 1
  refine nfold_congr (fun a s ha => ?_)
  unfold bsR
  rw [← agf_n h]
  refine nfold_congr (fun b s hb => ?_)
  unfold bsS
  rw [agf_Why h ha hb, agf_RA h ha hb]
theorem agf_St : ∀ {d : Nat} {R S : gW}, (0 ≤ R 3 ∧ R 3 ≤ 20) → agf R S → (fSt d R).1 = (fSt d S).1 ∧ agf (fSt d R).2 (fSt d S).2
  | 0, R, S, _, h => ⟨rfl, h⟩
  | d + 1, R, S, hR, h => by
    by_cases hb : fBest R < 0
    · rw [fSt_lt hb, fSt_lt (by rw [← agf_Best h]; exact hb)]
      exact ⟨rfl, h⟩
    · rw [fSt_ge hb, fSt_ge (by rw [← agf_Best h]; exact hb)]
      have hn := (nM_of hR).2
      have h2 : agf (fNx R) (fNx S) := by
        rcases fBest_of R with q | ⟨a, b, ha, hb2, q⟩
        · rw [q] at hb; exact absurd (by decide) hb
        · obtain ⟨d1, d2, -⟩ := dm100 a (by omega) b (by omega)
          have x1 : fNx S = rsw S a b := by
            unfold fNx
            rw [← agf_Best h, q, d2, d1, iN_nat (by omega), iN_nat (by omega)]
          have x2 : fNx R = rsw R a b := by
            unfold fNx
            rw [q, d2, d1, iN_nat (by omega), iN_nat (by omega)]
          rw [x1, x2]
          exact agf_rsw h ha hb2
      obtain ⟨i1, i2⟩ := agf_St (d := d) (by rw [fNx_3]; exact hR) h2
      exact ⟨by show _ + 1 = _ + 1; rw [i1], i2⟩
/-! THE CLASS: the log, copies -/
def agj (R S : gW) : Prop := (∀ j, j < 9 → (j = 0 ∨ j = 1 ∨ j = 3) → R j = S j) ∧ ∀ t, t < nM R → ∀ f, f < 7 → fld R t f = fld S t f
theorem agj_n {R S : gW} (h : agj R S) : nM R = nM S := by unfold nM; rw [h.1 3 (by decide) (by decide)]
theorem agj_refl (R : gW) : agj R R := ⟨fun _ _ _ => rfl, fun _ _ _ _ => rfl⟩
theorem agj_symm {R S : gW} (h : agj R S) : agj S R := ⟨fun j hj hk => (h.1 j hj hk).symm, fun t ht f hf => (h.2 t (by rw [agj_n h]; exact ht) f hf).symm⟩
theorem agj_trans {R S T : gW} (h : agj R S) (h2 : agj S T) : agj R T := ⟨fun j hj hk => (h.1 j hj hk).trans (h2.1 j hj hk), fun t ht f hf => (h.2 t ht f hf).trans (h2.2 t (by rw [← agj_n h]; exact ht) f hf)⟩
theorem agj_Who {R S : gW} (h : agj R S) (x : Int32) : fWho R x = fWho S x := by
  unfold fWho
  rw [← agj_n h]
  exact fnd_congr (fun j hj => by rw [h.2 j hj 0 (by decide)])
theorem agj_kin {R S : gW} (h : agj R S) {t : Nat} (ht : t < nM R) (b : Int32) : kin R t b = kin S t b := by
  unfold kin
  rw [← agj_n h]
  congr 1
  refine cnt_congr (fun j hj => ?_)
  unfold kinP
  rw [h.2 j hj 0 (by decide), h.2 j hj 2 (by decide), h.2 t ht 2 (by decide)]
theorem agj_Joy {R S : gW} (h : agj R S) {t : Nat} (ht : t < nM R) (x : Int32) : fJoy R t x = fJoy S t x := by
  unfold fJoy
  rw [agj_kin h ht, h.2 t ht 3 (by decide), h.2 t ht 4 (by decide), h.2 t ht 5 (by decide), h.2 t ht 6 (by decide)]
theorem agj_Jo {R S : gW} (h : agj R S) {t : Nat} (ht : t < nM R) : fJo R t = fJo S t := by
  unfold fJo
  rw [agj_Joy h ht, h.2 t ht 0 (by decide)]
theorem agj_Ja {R S : gW} (h : agj R S) : fJa R = fJa S := by
  unfold fJa
  rw [← agj_n h]
  exact sm_congr (fun j hj => agj_Jo h hj)
theorem agj_Gr {R S : gW} (h : agj R S) : fGr R = fGr S := by
  unfold fGr
  rw [← agj_n h]
  congr 1
  exact cnt_congr (fun j hj => by rw [agj_Jo h hj])
theorem agj_Bar {R S : gW} (h : agj R S) (f : Int32) : fBar R f = fBar S f := by
  unfold fBar
  rw [← agj_n h]
  congr 1
  exact cnt_congr (fun j hj => by rw [h.2 j hj 1 (by decide), h.2 j hj 0 (by decide)])
theorem agj_May {R S : gW} (h : agj R S) {t : Nat} (ht : t < nM R) (x : Int32) : fMay R t x ↔ fMay S t x := by
  unfold fMay
  rw [h.2 t ht 1 (by decide), h.1 1 (by decide) (by decide)]
theorem agj_rsw {R S : gW} (h : agj R S) {a b : Nat} (ha : a < nM R) (hb : b < nM R) : agj (rsw R a b) (rsw S a b) := by
  refine ⟨fun j hj hk => ?_, fun t ht f hf => ?_⟩
  · rw [rsw_eq, rsw_eq, if_neg (by omega), if_neg (by omega), if_neg (by omega), if_neg (by omega)]
    exact h.1 j hj hk
  · rw [nM_rsw] at ht
    rw [fld_rsw _ _ _ _ _ (by omega), fld_rsw _ _ _ _ _ (by omega), h.2 a ha 0 (by decide), h.2 b hb 0 (by decide), h.2 t ht 0 (by decide), h.2 t ht f hf]
theorem agj_rtu {R S : gW} (h : agj R S) {a b c : Nat} (ha : a < nM R) (hb : b < nM R) (hc : c < nM R) (hd : a ≠ b ∧ b ≠ c ∧ a ≠ c) : agj (rtu R a b c) (rtu S a b c) := by
  refine ⟨fun j hj hk => ?_, fun t ht f hf => ?_⟩
  · rw [rtu_eq hd, rtu_eq hd, if_neg (by omega), if_neg (by omega), if_neg (by omega), if_neg (by omega), if_neg (by omega), if_neg (by omega)]
    exact h.1 j hj hk
  · rw [nM_rtu hd] at ht
    rw [fld_rtu hd _ _ (by omega), fld_rtu hd _ _ (by omega), h.2 a ha 0 (by decide), h.2 b hb 0 (by decide), h.2 c hc 0 (by decide), h.2 t ht 0 (by decide), h.2 t ht f hf]
theorem agf.j {R S : gW} (h : agf R S) : agj R S := ⟨h.1, fun t ht f hf => h.2 t ht f (by omega)⟩
