/-! ROWS THAT AGREE in what counts -/
/-- the same numbers, and the same travellers but for names -/
def agr (R S : gW) : Prop := (∀ j, j < 9 → R j = S j) ∧ ∀ t, t < nM R → ∀ f, f < 9 → fld R t f = fld S t f
theorem agr_n {R S : gW} (h : agr R S) : nM R = nM S := by unfold nM; rw [h.1 3 (by decide)]
theorem agr_refl (R : gW) : agr R R := ⟨fun _ _ => rfl, fun _ _ _ _ => rfl⟩
theorem agr_symm {R S : gW} (h : agr R S) : agr S R := ⟨fun j hj => (h.1 j hj).symm, fun t ht f hf => (h.2 t (by rw [agr_n h]; exact ht) f hf).symm⟩
theorem agr_trans {R S T : gW} (h : agr R S) (h2 : agr S T) : agr R T := ⟨fun j hj => (h.1 j hj).trans (h2.1 j hj), fun t ht f hf => (h.2 t ht f hf).trans (h2.2 t (by rw [← agr_n h]; exact ht) f hf)⟩
theorem agr_Who {R S : gW} (h : agr R S) (x : Int32) : fWho R x = fWho S x := by
  unfold fWho
  rw [← agr_n h]
  exact fnd_congr (fun j hj => by rw [h.2 j hj 0 (by decide)])
theorem agr_kin {R S : gW} (h : agr R S) {t : Nat} (ht : t < nM R) (b : Int32) : kin R t b = kin S t b := by
  unfold kin
  rw [← agr_n h]
  congr 1
  refine cnt_congr (fun j hj => ?_)
  unfold kinP
  rw [h.2 j hj 0 (by decide), h.2 j hj 2 (by decide), h.2 t ht 2 (by decide)]
theorem agr_Joy {R S : gW} (h : agr R S) {t : Nat} (ht : t < nM R) (x : Int32) : fJoy R t x = fJoy S t x := by
  unfold fJoy
  rw [agr_kin h ht, h.2 t ht 3 (by decide), h.2 t ht 4 (by decide), h.2 t ht 5 (by decide), h.2 t ht 6 (by decide)]
theorem agr_Jo {R S : gW} (h : agr R S) {t : Nat} (ht : t < nM R) : fJo R t = fJo S t := by
  unfold fJo
  rw [agr_Joy h ht, h.2 t ht 0 (by decide)]
theorem agr_Ja {R S : gW} (h : agr R S) : fJa R = fJa S := by
  unfold fJa
  rw [← agr_n h]
  exact sm_congr (fun j hj => agr_Jo h hj)
theorem agr_Gr {R S : gW} (h : agr R S) : fGr R = fGr S := by
  unfold fGr
  rw [← agr_n h]
  congr 1
  exact cnt_congr (fun j hj => by rw [agr_Jo h hj])
theorem agr_Bar {R S : gW} (h : agr R S) (f : Int32) : fBar R f = fBar S f := by
  unfold fBar
  rw [← agr_n h]
  congr 1
  exact cnt_congr (fun j hj => by rw [h.2 j hj 1 (by decide), h.2 j hj 0 (by decide)])
theorem agr_May {R S : gW} (h : agr R S) {t : Nat} (ht : t < nM R) (x : Int32) : fMay R t x ↔ fMay S t x := by
  unfold fMay
  rw [h.2 t ht 1 (by decide), h.1 1 (by decide)]
theorem fld_rsw (R : gW) (a b t f : Nat) (hf : f < 10) : fld (rsw R a b) t f = if f = 0 then (if t = b then fld R a 0 else if t = a then fld R b 0 else fld R t 0) else fld R t f := by
  unfold fld
  rw [rsw_eq]
  by_cases h0 : f = 0
  · subst h0
    rw [if_pos rfl]
    by_cases hb : t = b
    · rw [if_pos hb, if_pos (by omega)]; rfl
    · rw [if_neg hb, if_neg (by omega)]
      by_cases ha : t = a
      · rw [if_pos ha, if_pos (by omega)]; rfl
      · rw [if_neg ha, if_neg (by omega)]
  · rw [if_neg h0, if_neg (by omega), if_neg (by omega)]
theorem agr_rsw {R S : gW} (h : agr R S) {a b : Nat} (ha : a < nM R) (hb : b < nM R) : agr (rsw R a b) (rsw S a b) := by
  refine ⟨fun j hj => ?_, fun t ht f hf => ?_⟩
  · rw [rsw_eq, rsw_eq, if_neg (by omega), if_neg (by omega), if_neg (by omega), if_neg (by omega)]
    exact h.1 j hj
  · rw [nM_rsw] at ht
    rw [fld_rsw _ _ _ _ _ (by omega), fld_rsw _ _ _ _ _ (by omega), h.2 a ha 0 (by decide), h.2 b hb 0 (by decide), h.2 t ht 0 (by decide), h.2 t ht f hf]
theorem fld_rtu {R : gW} {a b c : Nat} (hd : a ≠ b ∧ b ≠ c ∧ a ≠ c) (t f : Nat) (hf : f < 10) : fld (rtu R a b c) t f = if f = 0 then (if t = c then fld R a 0 else if t = b then fld R c 0 else if t = a then fld R b 0 else fld R t 0) else fld R t f := by
  unfold fld
  rw [rtu_eq hd]
  by_cases h0 : f = 0
  · subst h0
    rw [if_pos rfl]
    by_cases hc : t = c
    · rw [if_pos hc, if_pos (by omega)]; rfl
    · rw [if_neg hc, if_neg (by omega)]
      by_cases hb : t = b
      · rw [if_pos hb, if_pos (by omega)]; rfl
      · rw [if_neg hb, if_neg (by omega)]
        by_cases ha : t = a
        · rw [if_pos ha, if_pos (by omega)]; rfl
        · rw [if_neg ha, if_neg (by omega)]
  · rw [if_neg h0, if_neg (by omega), if_neg (by omega), if_neg (by omega)]
theorem agr_rtu {R S : gW} (h : agr R S) {a b c : Nat} (ha : a < nM R) (hb : b < nM R) (hc : c < nM R) (hd : a ≠ b ∧ b ≠ c ∧ a ≠ c) : agr (rtu R a b c) (rtu S a b c) := by
  refine ⟨fun j hj => ?_, fun t ht f hf => ?_⟩
  · rw [rtu_eq hd, rtu_eq hd, if_neg (by omega), if_neg (by omega), if_neg (by omega), if_neg (by omega), if_neg (by omega), if_neg (by omega)]
    exact h.1 j hj
  · rw [nM_rtu hd] at ht
    rw [fld_rtu hd _ _ (by omega), fld_rtu hd _ _ (by omega), h.2 a ha 0 (by decide), h.2 b hb 0 (by decide), h.2 c hc 0 (by decide), h.2 t ht 0 (by decide), h.2 t ht f hf]
theorem agr_Rise {R S : gW} (h : agr R S) {a b w : Nat} (ha : a < nM R) (hb : b < nM R) (hw : w < nM R) : fRise R a b w = fRise S a b w := by
  unfold fRise
  rw [agr_Jo (agr_rsw h ha hb) (by rw [nM_rsw]; exact hw), agr_Jo h hw]
theorem agr_RA {R S : gW} (h : agr R S) {a b : Nat} (ha : a < nM R) (hb : b < nM R) : fRA R a b = fRA S a b := by
  unfold fRA
  rw [agr_Ja (agr_rsw h ha hb), agr_Ja h]
theorem agr_Why {R S : gW} (h : agr R S) {a b : Nat} (ha : a < nM R) (hb : b < nM R) (x : Int32) : fWhy R a b x = fWhy S a b x := by
  unfold fWhy
  rw [agr_Rise h ha hb ha, agr_Rise h ha hb hb, h.2 a ha 0 (by decide), h.2 b hb 0 (by decide), h.2 a ha 7 (by decide)]
  simp only [agr_May h ha, agr_May h hb]
theorem agr_WhyM {R S : gW} (h : agr R S) {t : Nat} (ht : t < nM R) (x : Int32) : fWhyM R t x = fWhyM S t x := by
  unfold fWhyM
  rw [agr_Who h, agr_Joy h ht, agr_Jo h ht]
  simp only [agr_May h ht]
theorem agr_RR {R S : gW} (h : agr R S) {a b c w : Nat} (ha : a < nM R) (hb : b < nM R) (hc : c < nM R) (hd : a ≠ b ∧ b ≠ c ∧ a ≠ c) (hw : w < nM R) : fRR R a b c w = fRR S a b c w := by
  unfold fRR
  rw [agr_Jo (agr_rtu h ha hb hc hd) (by rw [nM_rtu hd]; exact hw), agr_Jo h hw]
theorem agr_ROR {R S : gW} (h : agr R S) {a b c : Nat} (ha : a < nM R) (hb : b < nM R) (hc : c < nM R) (hd : a ≠ b ∧ b ≠ c ∧ a ≠ c) : fROR R a b c = fROR S a b c := by
  unfold fROR
  rw [agr_RR h ha hb hc hd ha, agr_RR h ha hb hc hd hb, agr_RR h ha hb hc hd hc]
theorem agr_WhyR {R S : gW} (h : agr R S) {a b c : Nat} (ha : a < nM R) (hb : b < nM R) (hc : c < nM R) (hd : a ≠ b ∧ b ≠ c ∧ a ≠ c) : fWhyR R a b c = fWhyR S a b c := by
  unfold fWhyR
  rw [agr_RR h ha hb hc hd ha, agr_RR h ha hb hc hd hb, agr_RR h ha hb hc hd hc, h.2 a ha 0 (by decide), h.2 b hb 0 (by decide), h.2 c hc 0 (by decide)]
  simp only [agr_May h ha, agr_May h hb, agr_May h hc]
theorem nfold_congr {α : Type} {f g : Nat → α → α} {s : α} : ∀ {n : Nat}, (∀ k s, k < n → f k s = g k s) → nfold f n s = nfold g n s
  | 0, _ => rfl
  | n + 1, h => by
    show f n (nfold f n s) = g n (nfold g n s)
    rw [nfold_congr (fun k s hk => h k s (by omega)), h n _ (by omega)]
theorem agr_Best {R S : gW} (h : agr R S) : fBest R = fBest S := by
  unfold fBest
  rw [← agr_n h]
  congr 1
  refine nfold_congr (fun a s ha => ?_)
  unfold bsR
  rw [← agr_n h]
  refine nfold_congr (fun b s hb => ?_)
  unfold bsS
  rw [agr_Why h ha hb, agr_RA h ha hb]
theorem agr_St : ∀ {d : Nat} {R S : gW}, (0 ≤ R 3 ∧ R 3 ≤ 20) → agr R S → (fSt d R).1 = (fSt d S).1 ∧ agr (fSt d R).2 (fSt d S).2
  | 0, R, S, _, h => ⟨rfl, h⟩
  | d + 1, R, S, hR, h => by
    by_cases hb : fBest R < 0
    · rw [fSt_lt hb, fSt_lt (by rw [← agr_Best h]; exact hb)]
      exact ⟨rfl, h⟩
    · rw [fSt_ge hb, fSt_ge (by rw [← agr_Best h]; exact hb)]
      have hn := (nM_of hR).2
      have h2 : agr (fNx R) (fNx S) := by
        rcases fBest_of R with q | ⟨a, b, ha, hb2, q⟩
        · rw [q] at hb; exact absurd (by decide) hb
        · obtain ⟨d1, d2, -⟩ := dm100 a (by omega) b (by omega)
          have x1 : fNx S = rsw S a b := by
            unfold fNx
            rw [← agr_Best h, q, d2, d1, iN_nat (by omega), iN_nat (by omega)]
          have x2 : fNx R = rsw R a b := by
            unfold fNx
            rw [q, d2, d1, iN_nat (by omega), iN_nat (by omega)]
          rw [x1, x2]
          exact agr_rsw h ha hb2
      obtain ⟨i1, i2⟩ := agr_St (d := d) (by rw [fNx_3]; exact hR) h2
      exact ⟨by show _ + 1 = _ + 1; rw [i1], i2⟩
