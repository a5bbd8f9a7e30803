/-! SEATS: what holds of every row besides; what an operation and its undo leave -/
/-- each traveller has a seat of its own, in the train, that the ticket allows -/
def SI (R : gW) : Prop := (∀ t, t < nM R → 0 ≤ fld R t 0 ∧ fld R t 0 < 4 * R 0) ∧ (∀ t o, t < nM R → o < nM R → fld R t 0 = fld R o 0 → t = o) ∧ (∀ t, t < nM R → fMay R t (fld R t 0)) ∧ (0 ≤ R 1 ∧ R 1 ≤ R 0)
theorem SI_agj {R S : gW} (h : agj R S) (s : SI R) : SI S := by
  obtain ⟨s1, s2, s3, s4⟩ := s
  have e := agj_n h
  refine ⟨fun t ht => ?_, fun t o ht ho q => ?_, fun t ht => ?_, by rw [← h.1 1 (by decide) (by decide), ← h.1 0 (by decide) (by decide)]; exact s4⟩
  · rw [← e] at ht
    rw [← h.2 t ht 0 (by decide), ← h.1 0 (by decide) (by decide)]
    exact s1 t ht
  · rw [← e] at ht ho
    rw [← h.2 t ht 0 (by decide), ← h.2 o ho 0 (by decide)] at q
    exact s2 t o ht ho q
  · rw [← e] at ht
    rw [← h.2 t ht 0 (by decide)]
    exact (agj_May h ht _).mp (s3 t ht)
theorem agf_row {R S : gW} (h3 : nM R ≤ 20) (hs : ∀ j, j < 330 → S j = R j) : agf R S :=
  ⟨fun j hj _ => (hs j (by omega)).symm, fun t ht f hf => (hs _ (by omega)).symm⟩
theorem SI_row {R S : gW} (h3 : nM R ≤ 20) (hs : ∀ j, j < 330 → S j = R j) (s : SI R) : SI S := SI_agj (agf_row h3 hs).j s
theorem nM_row {R S : gW} (hs : ∀ j, j < 330 → S j = R j) : nM S = nM R := by unfold nM; rw [hs 3 (by decide)]
/-- a property of rows that a row's copy has too -/
def RC (Q : gW → Prop) : Prop := ∀ R S : gW, Q R → (∀ j, j < 330 → S j = R j) → Q S
/-- it holds of the row now, of those that can come back by undo, of those in the slots -/
def SQ (Q : gW → Prop) (ρ : gS) : Prop := Q (ρ 324) ∧ (∀ u, u < (ρ 323 6).toNatClampNeg → Q (rowAt (ρ 327) u)) ∧ ∀ s, s < 2 → ¬ ρ 329 s = 0 → Q (rowAt (ρ 328) s)
def SIn (R : gW) : Prop := SI R ∧ nM R ≤ 20
theorem RC_SI : RC SIn := fun R S h hs => ⟨SI_row h.2 hs h.1, by rw [nM_row hs]; exact h.2⟩
/-- TIME is at most b -/
def TI (b : Nat) (R : gW) : Prop := ∃ k, k ≤ b ∧ R 2 = iN k
theorem RC_TI (b : Nat) : RC (TI b) := fun R S h hs => by
  obtain ⟨k, hk, e⟩ := h
  exact ⟨k, hk, by rw [hs 2 (by decide)]; exact e⟩
def SP (ρ : gS) : Prop := SQ SIn ρ
/-- the same but for what can be undone -/
def Sm (ρ τ : gS) : Prop := τ 324 = ρ 324 ∧ (τ 330 = ρ 330 ∧ τ 323 8 = ρ 323 8 ∧ τ 323 9 = ρ 323 9) ∧ (τ 328 = ρ 328 ∧ τ 329 = ρ 329) ∧ (∀ Q, RC Q → SQ Q ρ → SQ Q τ)
theorem Sm.sp {ρ τ : gS} (h : Sm ρ τ) (s : SP ρ) : SP τ := h.2.2.2 SIn RC_SI s
theorem Sm.rf {ρ : gS} : Sm ρ ρ := ⟨rfl, ⟨rfl, rfl, rfl⟩, ⟨rfl, rfl⟩, fun _ _ s => s⟩
theorem Sm.trans {ρ τ κ : gS} (a : Sm ρ τ) (b : Sm τ κ) : Sm ρ κ := ⟨b.1.trans a.1, ⟨b.2.1.1.trans a.2.1.1, b.2.1.2.1.trans a.2.1.2.1, b.2.1.2.2.trans a.2.1.2.2⟩, ⟨b.2.2.1.1.trans a.2.2.1.1, b.2.2.1.2.trans a.2.2.1.2⟩, fun Q hQ s => b.2.2.2 Q hQ (a.2.2.2 Q hQ s)⟩
theorem u8 {u : Int32} (h : 0 ≤ u ∧ u ≤ 8) : ∃ C, C ≤ 8 ∧ u = iN C ∧ fKu u = iN (if C = 8 then 8 else C + 1) := by
  obtain ⟨e, l⟩ := iN_of h.1
  have h2 := h.2
  rw [e] at h2
  have hC := (iN_le (m := 8) l (by decide)).mp h2
  refine ⟨_, hC, e, ?_⟩
  unfold fKu
  generalize u.toNatClampNeg = C at *
  subst e
  by_cases q : C = 8
  · rw [if_pos q, q, if_pos (show iN 8 = (8 : Int32) from rfl)]
    rfl
  · rw [if_neg q, if_neg (show ¬ iN C = (8 : Int32) from iN_eq (a := C) (b := 8) (by omega) (by decide) q), show iN C + 1 = iN (C + 1) from iN_add C 1]
section SIO
variable {ρ : gS} {g : Prop} {N : gW}
theorem hOp_t [Decidable g] (hg : g) : hOp ρ g N = grow (hKe ρ) 324 N := by unfold hOp; rw [if_pos hg]
theorem hOp_f [Decidable g] (hg : ¬ g) : hOp ρ g N = ρ := by unfold hOp; rw [if_neg hg]
theorem hOp_324 [Decidable g] (hg : g) : hOp ρ g N 324 = N := by rw [hOp_t hg, grow_at]
theorem hOp_6 [Decidable g] (hg : g) : hOp ρ g N 323 6 = fKu (ρ 323 6) := by rw [hOp_t hg, grow_ne (by decide), hKe_6, rup_at]
theorem hOp_327 [Decidable g] (hg : g) : hOp ρ g N 327 = fKe (ρ 324) (ρ 327) (ρ 323 6) := by
  rw [hOp_t hg, grow_ne (by decide)]
  unfold hKe
  rw [grow_ne (by decide), grow_at]
theorem hOp_323 [Decidable g] {j : Nat} (hj : ¬ j = 6) : hOp ρ g N 323 j = ρ 323 j := by
  by_cases hg : g
  · rw [hOp_t hg, grow_ne (by decide), hKe_6, rup_ne hj]
  · rw [hOp_f hg]
/-- an operation keeps what holds of the rows -/
theorem SQ_op [Decidable g] {Q : gW → Prop} (hQ : RC Q) (hi : RS ρ) (s : SQ Q ρ) (hN : g → Q N) : SQ Q (hOp ρ g N) := by
  by_cases hg : g
  · obtain ⟨s1, s2, s3⟩ := s
    obtain ⟨C, hC, eu, ek⟩ := u8 hi.2
    refine ⟨by rw [hOp_324 hg]; exact hN hg, fun u hu => ?_, fun s hs hz => ?_⟩
    · rw [hOp_6 hg, ek, iN_nat (by split <;> omega)] at hu
      rw [hOp_327 hg, eu]
      rcases fKe_row (N := ρ 324) (E := ρ 327) hC hu with ⟨j, hj, e⟩ | e
      · exact hQ _ _ (s2 j (by rw [eu, iN_nat (by omega)]; exact hj)) e
      · exact hQ _ _ s1 e
    · rw [hOp_far (by decide) (by decide) (by decide)] at hz
      rw [hOp_far (by decide) (by decide) (by decide)]
      exact s3 s hs hz
  · rw [hOp_f hg]
    exact s
/-- an operation that is undone -/
theorem un_op [Decidable g] (hi : RS ρ) (hz : zR (ρ 324)) (hg : g) : Sm ρ (hUn (hOp ρ g N)) ∧ ¬ hOp ρ g N 323 6 = 0 ∧ 0 ≤ hOp ρ g N 323 6 - 1 := by
  obtain ⟨C, hC, eu, ek⟩ := u8 hi.2
  obtain ⟨k, hk, ek2⟩ : ∃ k, k ≤ 7 ∧ (if C = 8 then 8 else C + 1) = k + 1 := by
    by_cases q : C = 8
    · exact ⟨7, by decide, by rw [if_pos q]⟩
    · exact ⟨C, by omega, by rw [if_neg q]⟩
  have e6 : hOp ρ g N 323 6 = iN (k + 1) := by rw [hOp_6 hg, ek, ek2]
  have n0 : ¬ iN (k + 1) = 0 := iN_eq (b := 0) (by omega) (by decide) (by omega)
  have e1 : iN (k + 1) - 1 = iN k := by rw [show (1 : Int32) = iN 1 from rfl, iN_sub (by omega) (by omega)]; rfl
  have u324 : hUn (hOp ρ g N) 324 = rowAt (fKe (ρ 324) (ρ 327) (iN C)) k := by
    unfold hUn
    rw [e6, if_neg n0, grow_at, hOp_327 hg, e1, iN_nat (by omega), eu]
  have er : ∀ x, x < 330 → rowAt (fKe (ρ 324) (ρ 327) (iN C)) k x = ρ 324 x := by
    intro x hx
    rw [rowAt_lt hx]
    unfold fKe
    by_cases q : C = 8
    · rw [if_pos (by rw [q]; rfl)]
      have : k = 7 := by rw [if_pos q] at ek2; omega
      rw [this]
      exact rla_in (b := 2310) hx
    · rw [if_neg (show ¬ iN C = (8 : Int32) from iN_eq (a := C) (b := 8) (by omega) (by decide) q), iN_nat (by omega)]
      have : k = C := by rw [if_neg q] at ek2; omega
      rw [this]
      exact rla_in hx
  have e324 : hUn (hOp ρ g N) 324 = ρ 324 := by
    rw [u324]
    funext x
    by_cases hx : x < 330
    · exact er x hx
    · rw [hz x (by omega)]
      unfold rowAt
      rw [if_neg hx]
  have o : ∀ q, ¬ q = 323 → ¬ q = 324 → hUn (hOp ρ g N) q = hOp ρ g N q := by
    intro q q1 q2
    unfold hUn
    split
    · rfl
    · rw [grow_ne q2, grow_ne q1]
  have j : ∀ q, ¬ q = 6 → hUn (hOp ρ g N) 323 q = ρ 323 q := by
    intro q q1
    unfold hUn
    split
    · exact hOp_323 q1
    · rw [grow_ne (by decide), grow_at, rup_ne q1]
      exact hOp_323 q1
  have j6 : hUn (hOp ρ g N) 323 6 = iN k := by
    unfold hUn
    rw [e6, if_neg n0, grow_ne (by decide), grow_at, rup_at, e1]
  refine ⟨⟨e324, ⟨?_, j 8 (by decide), j 9 (by decide)⟩, ⟨?_, ?_⟩, fun Q hQ s => ?_⟩, by rw [e6]; exact n0, by rw [e6, e1]; exact (iN_le (k := 0) (by decide) (by omega)).mpr (Nat.zero_le _)⟩
  · rw [o _ (by decide) (by decide), hOp_far (by decide) (by decide) (by decide)]
  · rw [o _ (by decide) (by decide), hOp_far (by decide) (by decide) (by decide)]
  · rw [o _ (by decide) (by decide), hOp_far (by decide) (by decide) (by decide)]
  · obtain ⟨s1, s2, s3⟩ := s
    refine ⟨by rw [e324]; exact s1, fun u hu => ?_, fun s hs hz => ?_⟩
    · rw [j6, iN_nat (by omega)] at hu
      rw [o _ (by decide) (by decide), hOp_327 hg, eu]
      rcases fKe_row (N := ρ 324) (E := ρ 327) (i := u) hC (by rw [ek2]; omega) with ⟨j, hj, e⟩ | e
      · exact hQ _ _ (s2 j (by rw [eu, iN_nat (by omega)]; exact hj)) e
      · exact hQ _ _ s1 e
    · rw [o _ (by decide) (by decide), hOp_far (by decide) (by decide) (by decide)] at hz
      rw [o _ (by decide) (by decide), hOp_far (by decide) (by decide) (by decide)]
      exact s3 s hs hz
end SIO
/-! rows behind operations, and plain ones -/
theorem agf_te {R : gW} {w a b : Int32} (h9 : 0 ≤ R 209 ∧ R 209 ≤ 40) (h3 : nM R ≤ 20) : agf (fTe R w a b) R := by
  have e : nM (fTe R w a b) = nM R := by unfold nM; rw [fTe_ne h9 (Or.inl (by decide))]
  refine ⟨fun j hj _ => fTe_ne h9 (Or.inl (by omega)), fun t ht f hf => ?_⟩
  rw [e] at ht
  unfold fld
  exact fTe_ne h9 (Or.inl (by omega))
theorem agf_rad {R : gW} {k : Nat} {x : Int32} (hk : k < 9) (h : ¬ (k = 0 ∨ k = 1 ∨ k = 3)) : agf (radd R k x) R :=
  ⟨fun j hj hj2 => radd_ne (by omega), fun t ht f hf => fld_radd hk⟩
theorem agj_ra7 {R : gW} {t : Nat} {x : Int32} : agj (radd R (9 + 10 * t + 7) x) R := by
  refine ⟨fun j hj hj2 => radd_ne (by omega), fun s hs f hf => ?_⟩
  unfold fld
  exact radd_ne (by omega)
section SIR
variable {R : gW}
theorem agf_mov {a : Nat} {x : Int32} (h9 : 0 ≤ R 209 ∧ R 209 ≤ 40) (h3 : nM R ≤ 20) (ha : a < nM R) : agf (nMov R (iN a) x) (rup R (9 + 10 * a + 0) x) := by
  unfold nMov
  rw [iN_nat (by omega)]
  refine agf_trans (agf_te ?_ ?_) (agf_rad (by decide) (by decide))
  · rw [radd_ne (by decide), rup_ne (by omega)]
    exact h9
  · rw [nM_radd (by decide), nM_rup]
    exact h3
theorem agf_rin {a b c : Nat} (h9 : 0 ≤ R 209 ∧ R 209 ≤ 40) (h3 : nM R ≤ 20) (ha : a < nM R) (hb : b < nM R) (hc : c < nM R) (hd : a ≠ b ∧ b ≠ c ∧ a ≠ c) : agf (nRin R (iN a) (iN b) (iN c)) (rtu R a b c) := by
  unfold nRin
  rw [iN_nat (by omega), iN_nat (by omega), iN_nat (by omega)]
  refine agf_trans (agf_te ?_ ?_) (agf_rad (by decide) (by decide))
  · rw [radd_ne (by decide), rtu_eq hd, if_neg (by omega), if_neg (by omega), if_neg (by omega)]
    exact h9
  · rw [nM_radd (by decide), nM_rtu hd]
    exact h3
theorem agj_swa {a b : Nat} {x : Int32} (h9 : 0 ≤ R 209 ∧ R 209 ≤ 40) (h3 : nM R ≤ 20) (ha : a < nM R) (hb : b < nM R) : agj (nSwa R (iN a) (iN b) x) (rsw R a b) := by
  unfold nSwa
  rw [iN_nat (by omega), iN_nat (by omega)]
  refine agj_trans (agf_te ?_ ?_).j (agj_trans (agf_rad (by decide) (by decide)).j (agj_trans (agf_rad (by decide) (by decide)).j (agj_trans agj_ra7 agj_ra7)))
  · rw [radd_ne (by decide), radd_ne (by decide), radd_ne (by omega), radd_ne (by omega), rsw_eq, if_neg (by omega), if_neg (by omega)]
    exact h9
  · rw [nM_radd (by decide), nM_radd (by decide), nM_radd (by omega), nM_radd (by omega), nM_rsw]
    exact h3
end SIR
