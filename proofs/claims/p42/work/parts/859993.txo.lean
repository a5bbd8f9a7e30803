/-! THE TRAIN'S OWN TEXT: what load takes, and what is read again -/
def RJ (R : gW) : Prop := bW R ∧ ∀ t, t < nM R → ∃ c, nmR c (fld R t 9)
theorem XP.rj {B n : Nat} {ρ : gS} {h : jv_H} (hx : XP B n ρ h) : RJ (ρ 324) := by
  obtain ⟨-, σ, -, ⟨bd, -, -, g, -⟩, q⟩ := hx
  rw [← q.2.1]
  exact ⟨g.2.1.2.1, fun t ht => ⟨_, g.1.2.2.2 t ht⟩⟩
theorem tok_of {ρ : gS} (i : RI ρ) (sy : SY (ρ 324)) (rj : RJ (ρ 324)) (h7 : ∀ t, t < nM (ρ 324) → fld (ρ 324) t 7 ≤ 99) (t : Nat) (ht : t < nM (ρ 324)) : tOk (ρ 324) t := by
  obtain ⟨-, -, -, -, hF, hT, hN⟩ := i
  obtain ⟨t1, t0, t2⟩ := hT t ht
  obtain ⟨f3, f4, f5, f6⟩ := hF t ht
  obtain ⟨n0, n1⟩ := hN t ht
  exact ⟨⟨t0, t1, t2⟩, ⟨f3, f4⟩, ⟨f5, f6⟩, ⟨rj.1 t ht, h7 t ht⟩, (sy t ht).1, n0, n1, rj.2 t ht⟩
theorem txo_of {R : gW} {m F : Nat} (h0 : R 0 = iN m) (h1 : R 1 = iN F) (hm : 2 ≤ m ∧ m ≤ 10) (hF : F ≤ m) (h20 : nM R ≤ 20) (si : SI R) (sy : SY R) (tk : ∀ t, t < nM R → tOk R t) : TxO m F (tvL R (nM R) 0) := by
  refine ⟨⟨hm, hF, by rw [tvL_len]; exact h20⟩, fun s hs => ?_, tvL_nd (fun a b ha hb e => ?_) (nM R) 0 (by omega)⟩
  · obtain ⟨i, -, hi, rfl⟩ := tvL_mem R (nM R) 0 s hs
    have hi : i < nM R := by omega
    obtain ⟨sa, sb⟩ := si.1 i hi
    have sb : fld R i 0 < iN (4 * m) := by
      rw [h0, show (4 : Int32) = iN 4 from rfl, iN_mul] at sb
      exact sb
    refine ⟨tv_TV (tk i hi) hm.2 sb (by rw [← h0]; exact (sy i hi).2.1) (by omega) (sy i hi).2.2, ?_⟩
    show decide (fld R i 1 = 1) = true ∨ F ≤ (fld R i 0).toNatClampNeg / 4
    rcases si.2.2.1 i hi with e | e
    · exact Or.inl (decide_eq_true e)
    · right
      obtain ⟨e0, l0⟩ := nat_lt ⟨sa, sb⟩ (by omega)
      rw [← l0, h1, show (4 : Int32) = iN 4 from rfl, iN_div (by omega) (by decide)] at e
      exact (iN_le (by omega) (by omega)).mp e
  · have a0 := iN_of (si.1 a ha).1
    have b0 := iN_of (si.1 b hb).1
    exact si.2.1 a b ha hb (by rw [a0.1, b0.1, e])
/-- the train's numbers, as load has them -/
theorem row_m {ρ : gS} (i : RI ρ) (si : SI (ρ 324)) : ∃ m F : Nat, ρ 324 0 = iN m ∧ ρ 324 1 = iN F ∧ (2 ≤ m ∧ m ≤ 10) ∧ F ≤ m := by
  obtain ⟨-, -, -, ⟨l, u⟩, -⟩ := i
  have f0 := si.2.2.2
  have p0 : 0 ≤ ρ 324 0 := Int32.le_trans (by decide) l
  obtain ⟨e0, b0⟩ := iN_of p0
  obtain ⟨e1, b1⟩ := iN_of f0.1
  refine ⟨_, _, e0, e1, ⟨?_, ?_⟩, ?_⟩
  · rw [e0] at l
    exact (iN_le (k := 2) (by decide) b0).mp l
  · rw [e0] at u
    exact (iN_le (m := 10) b0 (by decide)).mp u
  · have f2 := f0.2
    rw [e0, e1] at f2
    exact (iN_le b1 b0).mp f2
theorem gRw_cg {R S : gW} {t : Nat} (h : ∀ f, f < 10 → fld R t f = fld S t f) : gRw R t = gRw S t := by
  unfold gRw
  rw [h 0 (by decide), h 9 (by decide), g55_cg (o := fun f => fld R t (f - 1)) (u := fun f => fld S t (f - 1)) (fun f h1 h2 => h _ (by omega))]
theorem gRs_cg {R S : gW} {n : Nat} (h : ∀ t f, t < n → f < 10 → fld R t f = fld S t f) : ∀ d t, t + d ≤ n → gRs R d t = gRs S d t
  | 0, _, _ => rfl
  | d + 1, t, ht => by
    show gRw R t ++ gRs R d (t + 1) = gRw S t ++ gRs S d (t + 1)
    rw [gRw_cg (fun f hf => h t f (by omega) hf), gRs_cg h d (t + 1) (by omega)]
theorem suT_cg {R S : gW} (h0 : R 0 = S 0) (h1 : R 1 = S 1) (h3 : R 3 = S 3) (h : ∀ t f, t < nM R → f < 10 → fld R t f = fld S t f) : suT R = suT S := by
  have e : nM S = nM R := by
    unfold nM
    rw [h3]
  unfold suT
  rw [e, h0, h1, gRs_cg h (nM R) 0 (by omega)]
theorem fSw_cg {R S : gW} (h3 : R 3 = S 3) (h : ∀ t f, t < nM R → f < 10 → fld R t f = fld S t f) : fSw R = fSw S := by
  have e : nM S = nM R := by
    unfold nM
    rw [h3]
  unfold fSw
  rw [e]
  exact sm_congr (fun j hj => h j 7 hj (by decide))
/-- the second SeatSwap tells the same -/
theorem LdF.tell {R : gW} {m F : Nat} {τ : gS} (h0 : R 0 = iN m) (h1 : R 1 = iN F) (h3 : R 3 = iN (nM R)) (h : ∀ t, t < nM R → tOk R t) (ld : LdF m F (tvL R (nM R) 0) τ) : suT (τ 324) = suT R ∧ fJa (τ 324) = fJa R ∧ fSw (τ 324) = fSw R ∧ τ 324 1 = R 1 := by
  obtain ⟨g, k⟩ := ld.agf h0 h1 h3 h
  have k2 : ∀ t f, t < nM R → f < 10 → fld R t f = fld (τ 324) t f := fun t f ht hf => (k t f ht hf).symm
  have e0 := g.1 0 (by decide) (by decide)
  have e1 := g.1 1 (by decide) (by decide)
  have e3 := g.1 3 (by decide) (by decide)
  exact ⟨(suT_cg e0 e1 e3 k2).symm, (agf_Ja g).symm, (fSw_cg e3 k2).symm, e1.symm⟩
