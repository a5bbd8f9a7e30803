/-! ROWS: what the law's operations keep -/
/-- stops and rows are in their range, no name is a keyword -/
def SY (R : gW) : Prop := ∀ t, t < nM R → (1 ≤ fld R t 8 ∧ fld R t 8 ≤ 99) ∧ fld R t 5 < R 0 ∧ ¬ isKey (fld R t 9)
def RP (b : Nat) (R : gW) : Prop := SIn R ∧ TI b R ∧ SY R
theorem SY_cg {R N : gW} (hn : nM N = nM R) (h0 : N 0 = R 0) (hf : ∀ t, t < nM R → fld N t 8 = fld R t 8 ∧ fld N t 5 = fld R t 5 ∧ fld N t 9 = fld R t 9) (h : SY R) : SY N := by
  intro t ht
  rw [hn] at ht
  obtain ⟨f1, f2, f3⟩ := hf t ht
  rw [f1, f2, f3, h0]
  exact h t ht
theorem RC_RP (b : Nat) : RC (RP b) := fun R S h hs => by
  obtain ⟨h1, h2, h3⟩ := h
  have l := h1.2
  exact ⟨RC_SI R S h1 hs, RC_TI b R S h2 hs, SY_cg (nM_row hs) (hs 0 (by decide)) (fun t ht => ⟨hs _ (by omega), hs _ (by omega), hs _ (by omega)⟩) h3⟩
theorem TI_le {b c : Nat} {R : gW} (h : TI b R) (hb : b ≤ c) : TI c R := by
  obtain ⟨k, hk, e⟩ := h
  exact ⟨k, by omega, e⟩
theorem RP_le {b c : Nat} {R : gW} (h : RP b R) (hb : b ≤ c) : RP c R := ⟨h.1, TI_le h.2.1 hb, h.2.2⟩
theorem SQ_mono {P Q : gW → Prop} {ρ : gS} (h : SQ P ρ) (hp : ∀ R, P R → Q R) : SQ Q ρ := ⟨hp _ h.1, fun u hu => hp _ (h.2.1 u hu), fun s hs hz => hp _ (h.2.2 s hs hz)⟩
theorem SQ_le {b c : Nat} {ρ : gS} (h : SQ (RP b) ρ) (hb : b ≤ c) : SQ (RP c) ρ := SQ_mono h (fun _ q => RP_le q hb)
theorem SQ_SP {b : Nat} {ρ : gS} (h : SQ (RP b) ρ) : SP ρ := SQ_mono h (fun _ q => q.1)
section RPS
variable {R N : gW} {b : Nat}
/-- the seats are others' -/
theorem SI_pi (p : Nat → Nat) (hn : nM N = nM R) (h0 : N 0 = R 0) (h1 : N 1 = R 1) (hs : ∀ t, t < nM R → fld N t 0 = fld R (p t) 0 ∧ fld N t 1 = fld R t 1) (hp : ∀ t, t < nM R → p t < nM R) (hi : ∀ t o, t < nM R → o < nM R → p t = p o → t = o) (hm : ∀ t, t < nM R → fMay R t (fld R (p t) 0)) (s : SI R) : SI N := by
  obtain ⟨s1, s2, s3, s4⟩ := s
  refine ⟨fun t ht => ?_, fun t o ht ho q => ?_, fun t ht => ?_, by rw [h1, h0]; exact s4⟩
  · rw [hn] at ht
    rw [(hs t ht).1, h0]
    exact s1 _ (hp t ht)
  · rw [hn] at ht ho
    rw [(hs t ht).1, (hs o ho).1] at q
    exact hi t o ht ho (s2 _ _ (hp t ht) (hp o ho) q)
  · rw [hn] at ht
    unfold fMay
    rw [(hs t ht).1, (hs t ht).2, h1]
    exact hm t ht
theorem RP_pi (p : Nat → Nat) (hn : nM N = nM R) (h0 : N 0 = R 0) (h1 : N 1 = R 1) (h2 : N 2 = R 2) (hs : ∀ t, t < nM R → fld N t 0 = fld R (p t) 0) (hf : ∀ t f, t < nM R → (f = 1 ∨ f = 5 ∨ f = 8 ∨ f = 9) → fld N t f = fld R t f) (hp : ∀ t, t < nM R → p t < nM R) (hi : ∀ t o, t < nM R → o < nM R → p t = p o → t = o) (hm : ∀ t, t < nM R → fMay R t (fld R (p t) 0)) (h : RP b R) : RP b N := by
  obtain ⟨⟨r1, r2⟩, ⟨k, hk, e⟩, r4⟩ := h
  exact ⟨⟨SI_pi p hn h0 h1 (fun t ht => ⟨hs t ht, hf t 1 ht (by omega)⟩) hp hi hm r1, by rw [hn]; exact r2⟩, ⟨k, hk, h2.trans e⟩, SY_cg hn h0 (fun t ht => ⟨hf t 8 ht (by omega), hf t 5 ht (by omega), hf t 9 ht (by omega)⟩) r4⟩
/-- nothing of it is another -/
theorem RP_id (hn : nM N = nM R) (h0 : N 0 = R 0) (h1 : N 1 = R 1) (h2 : N 2 = R 2) (hf : ∀ t f, t < nM R → (f = 0 ∨ f = 1 ∨ f = 5 ∨ f = 8 ∨ f = 9) → fld N t f = fld R t f) (h : RP b R) : RP b N :=
  RP_pi id hn h0 h1 h2 (fun t ht => hf t 0 ht (by omega)) (fun t f ht hz => hf t f ht (by omega)) (fun t ht => ht) (fun t o _ _ q => q) (fun t ht => h.1.1.2.2.1 t ht) h
def p2 (a b o : Nat) : Nat := if o = b then a else if o = a then b else o
def p3 (a b d o : Nat) : Nat := if o = d then a else if o = b then d else if o = a then b else o
theorem why_may {a c : Nat} {x : Int32} (h : ¬ 0 < fWhy R a c x) : fMay R a (fld R c 0) ∧ fMay R c (fld R a 0) := by
  have h0 : fWhy R a c x = 0 := Decidable.not_not.mp (fun z => h ((why_pos R a c x).mpr z))
  have hn : ¬ (¬ fMay R a (fld R c 0) ∨ ¬ fMay R c (fld R a 0)) := fun z => by
    unfold fWhy at h0
    rw [if_pos z] at h0
    exact absurd h0 (by decide)
  exact ⟨Decidable.not_not.mp (fun z => hn (Or.inl z)), Decidable.not_not.mp (fun z => hn (Or.inr z))⟩
theorem whyR_may {a c d : Nat} (h : ¬ 0 < fWhyR R a c d) : fMay R a (fld R c 0) ∧ fMay R c (fld R d 0) ∧ fMay R d (fld R a 0) := by
  have hn : ¬ (¬ fMay R a (fld R c 0) ∨ ¬ fMay R c (fld R d 0) ∨ ¬ fMay R d (fld R a 0)) := fun z => h (by unfold fWhyR; rw [if_pos z]; decide)
  exact ⟨Decidable.not_not.mp (fun z => hn (Or.inl z)), Decidable.not_not.mp (fun z => hn (Or.inr (Or.inl z))), Decidable.not_not.mp (fun z => hn (Or.inr (Or.inr z)))⟩
/-- a row whose travellers a and c have exchanged their seats -/
theorem RP_ex {a c : Nat} {x : Int32} (ha : a < nM R) (hc : c < nM R) (hne : a ≠ c) (hw : ¬ 0 < fWhy R a c x) (hn : nM N = nM R) (h0 : N 0 = R 0) (h1 : N 1 = R 1) (h2 : N 2 = R 2) (hs : ∀ t, t < nM R → fld N t 0 = fld (rsw R a c) t 0) (hf : ∀ t f, t < nM R → (f = 1 ∨ f = 5 ∨ f = 8 ∨ f = 9) → fld N t f = fld R t f) (h : RP b R) : RP b N := by
  obtain ⟨m1, m2⟩ := why_may hw
  refine RP_pi (p2 a c) hn h0 h1 h2 (fun t ht => ?_) hf (fun t ht => ?_) (fun t o ht ho q => ?_) (fun t ht => ?_) h
  · rw [hs t ht, fld_rsw _ _ _ _ _ (by decide), if_pos rfl]
    unfold p2
    split
    · rfl
    · split <;> rfl
  · unfold p2
    split
    · exact ha
    · split
      · exact hc
      · exact ht
  · unfold p2 at q
    split at q <;> split at q <;> (try split at q) <;> (try split at q) <;> omega
  · unfold p2
    split
    · rename_i e
      rw [e]
      exact m2
    · split
      · rename_i e
        rw [e]
        exact m1
      · exact h.1.1.2.2.1 t ht
theorem RP_rsw {a c : Nat} {x : Int32} (ha : a < nM R) (hc : c < nM R) (hne : a ≠ c) (hw : ¬ 0 < fWhy R a c x) (h : RP b R) : RP b (rsw R a c) :=
  RP_ex ha hc hne hw nM_rsw (by rw [rsw_eq, if_neg (by omega), if_neg (by omega)]) (by rw [rsw_eq, if_neg (by omega), if_neg (by omega)]) (by rw [rsw_eq, if_neg (by omega), if_neg (by omega)]) (fun t ht => rfl) (fun t f ht hz => by rw [fld_rsw _ _ _ _ _ (by omega), if_neg (by omega)]) h
theorem RP_tu {a c d : Nat} (ha : a < nM R) (hc : c < nM R) (hd : d < nM R) (hne : a ≠ c ∧ c ≠ d ∧ a ≠ d) (hw : ¬ 0 < fWhyR R a c d) (hn : nM N = nM R) (h0 : N 0 = R 0) (h1 : N 1 = R 1) (h2 : N 2 = R 2) (hs : ∀ t, t < nM R → fld N t 0 = fld (rtu R a c d) t 0) (hf : ∀ t f, t < nM R → (f = 1 ∨ f = 5 ∨ f = 8 ∨ f = 9) → fld N t f = fld R t f) (h : RP b R) : RP b N := by
  obtain ⟨m1, m2, m3⟩ := whyR_may hw
  refine RP_pi (p3 a c d) hn h0 h1 h2 (fun t ht => ?_) hf (fun t ht => ?_) (fun t o ht ho q => ?_) (fun t ht => ?_) h
  · rw [hs t ht, fld_rtu hne t 0 (by decide), if_pos rfl]
    unfold p3
    split
    · rfl
    · split
      · rfl
      · split <;> rfl
  · unfold p3
    split
    · exact ha
    · split
      · exact hd
      · split
        · exact hc
        · exact ht
  · unfold p3 at q
    split at q <;> split at q <;> (try split at q) <;> (try split at q) <;> (try split at q) <;> (try split at q) <;> omega
  · unfold p3
    split
    · rename_i e
      rw [e]
      exact m3
    · split
      · rename_i e
        rw [e]
        exact m2
      · split
        · rename_i e
          rw [e]
          exact m1
        · exact h.1.1.2.2.1 t ht
/-! operations -/
theorem te_base {w u v : Int32} {S : gW} (h9 : 0 ≤ S 209 ∧ S 209 ≤ 40) {j : Nat} (hj : j < 209) : fTe S w u v j = S j := fTe_ne h9 (Or.inl hj)
theorem RP_swa {a c : Nat} {x : Int32} (h9 : 0 ≤ R 209 ∧ R 209 ≤ 40) (ha : a < nM R) (hc : c < nM R) (hne : a ≠ c) (hw : ¬ 0 < fWhy R a c x) (h : RP b R) : RP b (nSwa R (iN a) (iN c) x) := by
  have l := h.1.2
  have base : ∀ j, j < 209 → ¬ (∃ t, j = 9 + 10 * t + 7) → ¬ j = 4 → ¬ j = 7 → nSwa R (iN a) (iN c) x j = rsw R a c j := fun j hj h7 j4 j7 => by
    unfold nSwa
    rw [iN_nat (by omega), iN_nat (by omega), te_base ?_ hj, radd_ne j4, radd_ne j7, radd_ne (fun z => h7 ⟨_, z⟩), radd_ne (fun z => h7 ⟨_, z⟩)]
    rw [radd_ne (by decide), radd_ne (by decide), radd_ne (by omega), radd_ne (by omega), rsw_eq, if_neg (by omega), if_neg (by omega)]
    exact h9
  have hd : ∀ j, j < 9 → ¬ j = 4 → ¬ j = 7 → nSwa R (iN a) (iN c) x j = R j := fun j hj j4 j7 => by
    rw [base j (by omega) (fun ⟨t, z⟩ => by omega) j4 j7, rsw_eq, if_neg (by omega), if_neg (by omega)]
  refine RP_ex ha hc hne hw (by unfold nM; rw [hd 3 (by decide) (by decide) (by decide)]) (hd 0 (by decide) (by decide) (by decide)) (hd 1 (by decide) (by decide) (by decide)) (hd 2 (by decide) (by decide) (by decide)) (fun t ht => ?_) (fun t f ht hz => ?_) h
  · exact base _ (by omega) (fun ⟨s, z⟩ => by omega) (by omega) (by omega)
  · have e : fld (nSwa R (iN a) (iN c) x) t f = fld (rsw R a c) t f := base _ (by omega) (fun ⟨s, z⟩ => by omega) (by omega) (by omega)
    rw [e, fld_rsw _ _ _ _ _ (by omega), if_neg (by omega)]
theorem RP_rin {a c d : Nat} (h9 : 0 ≤ R 209 ∧ R 209 ≤ 40) (ha : a < nM R) (hc : c < nM R) (hd : d < nM R) (hne : a ≠ c ∧ c ≠ d ∧ a ≠ d) (hw : ¬ 0 < fWhyR R a c d) (h : RP b R) : RP b (nRin R (iN a) (iN c) (iN d)) := by
  have l := h.1.2
  have base : ∀ j, j < 209 → ¬ j = 6 → nRin R (iN a) (iN c) (iN d) j = rtu R a c d j := fun j hj j6 => by
    unfold nRin
    rw [iN_nat (by omega), iN_nat (by omega), iN_nat (by omega), te_base ?_ hj, radd_ne j6]
    rw [radd_ne (by decide), rtu_eq hne, if_neg (by omega), if_neg (by omega), if_neg (by omega)]
    exact h9
  have hh : ∀ j, j < 9 → ¬ j = 6 → nRin R (iN a) (iN c) (iN d) j = R j := fun j hj j6 => by
    rw [base j (by omega) j6, rtu_eq hne, if_neg (by omega), if_neg (by omega), if_neg (by omega)]
  refine RP_tu ha hc hd hne hw (by unfold nM; rw [hh 3 (by decide) (by decide)]) (hh 0 (by decide) (by decide)) (hh 1 (by decide) (by decide)) (hh 2 (by decide) (by decide)) (fun t ht => base _ (by omega) (by omega)) (fun t f ht hz => ?_) h
  have e : fld (nRin R (iN a) (iN c) (iN d)) t f = fld (rtu R a c d) t f := base _ (by omega) (by omega)
  rw [e, fld_rtu hne t f (by omega), if_neg (by omega)]
theorem RP_mov {a : Nat} {x : Int32} (h9 : 0 ≤ R 209 ∧ R 209 ≤ 40) (ha : a < nM R) (hx : 0 ≤ x ∧ x < 4 * R 0) (hw : ¬ 0 < fWhyM R a x) (h : RP b R) : RP b (nMov R (iN a) x) := by
  have l := h.1.2
  have w0 := (mv_0le R a x).mp hw
  have hfree : ∀ o, o < nM R → ¬ fld R o 0 = x := by
    rcases who_c l x with ⟨-, z⟩ | ⟨o, ho, e, -⟩
    · exact z
    · unfold fWhyM at w0
      rw [e, if_pos (show (0 : Int32) ≤ iN o from (iN_le (k := 0) (by decide) (by omega)).mpr (Nat.zero_le _))] at w0
      exact absurd w0 (by decide)
  have hm : fMay R a x := by
    unfold fWhyM at w0
    by_cases q : 0 ≤ fWho R x
    · rw [if_pos q] at w0
      exact absurd w0 (by decide)
    · rw [if_neg q] at w0
      by_cases q2 : fMay R a x
      · exact q2
      · rw [if_pos q2] at w0
        exact absurd w0 (by decide)
  have base : ∀ j, j < 209 → ¬ j = 5 → nMov R (iN a) x j = rup R (9 + 10 * a + 0) x j := fun j hj j5 => by
    unfold nMov
    rw [iN_nat (by omega), te_base ?_ hj, radd_ne j5]
    rw [radd_ne (by decide), rup_ne (by omega)]
    exact h9
  have hh : ∀ j, j < 9 → ¬ j = 5 → nMov R (iN a) x j = R j := fun j hj j5 => by rw [base j (by omega) j5, rup_ne (by omega)]
  have hn : nM (nMov R (iN a) x) = nM R := by unfold nM; rw [hh 3 (by decide) (by decide)]
  obtain ⟨⟨r1, r2⟩, ⟨k, hk, e⟩, r4⟩ := h
  refine ⟨⟨SI_agj (agj_symm (agf_mov h9 l ha).j) (SI_seat r1 hx hfree hm), by rw [hn]; exact r2⟩, ⟨k, hk, (hh 2 (by decide) (by decide)).trans e⟩, SY_cg hn (hh 0 (by decide) (by decide)) (fun t ht => ⟨?_, ?_, ?_⟩) r4⟩
  · exact (base _ (by omega) (by omega)).trans (rup_ne (by omega))
  · exact (base _ (by omega) (by omega)).trans (rup_ne (by omega))
  · exact (base _ (by omega) (by omega)).trans (rup_ne (by omega))
theorem st_P {P : gW → Prop} (hP : ∀ R a c, (0 ≤ R 3 ∧ R 3 ≤ 20) → a < nM R → c < nM R → a ≠ c → ¬ 0 < fWhy R a c 0 → P R → P (rsw R a c)) : ∀ (d : Nat) (R : gW), (0 ≤ R 3 ∧ R 3 ≤ 20) → P R → P (fSt d R).2
  | 0, R, _, h => h
  | d + 1, R, h3, h => by
    by_cases q : fBest R < 0
    · rw [fSt_lt q]
      exact h
    · rw [fSt_ge q]
      rcases bst_inv R h3 with ⟨e, -⟩ | ⟨a, c, ha, hc, e, hp, hne, hw⟩
      · rw [e] at q
        exact absurd (by decide) q
      · have l20 := (nM_of h3).2
        obtain ⟨d1, d2, -⟩ := dm100 a (by omega) c (by omega)
        have eN : fNx R = rsw R a c := by
          unfold fNx
          rw [e, d2, d1, iN_nat (by omega), iN_nat (by omega)]
        show P (fSt d (fNx R)).2
        rw [eN]
        exact st_P hP d (rsw R a c) (by rw [rsw_3]; exact h3) (hP R a c h3 ha hc hne (by rw [hw]; decide) h)
theorem RP_stl (h3 : 0 ≤ R 3 ∧ R 3 ≤ 20) (h9 : 0 ≤ R 209 ∧ R 209 ≤ 40) (h : RP b R) : RP b (nStl R) := by
  have hS : RP b (fSt 99 R).2 := st_P (fun R a c _ ha hc hne hw h => RP_rsw ha hc hne hw h) 99 R h3 h
  have l := hS.1.2
  have e9 : (fSt 99 R).2 209 = R 209 := fSt_9 h3
  have base : ∀ j, j < 209 → ¬ j = 4 → nStl R j = (fSt 99 R).2 j := fun j hj j4 => by
    unfold nStl
    rw [te_base ?_ hj, radd_ne j4]
    rw [radd_ne (by decide), e9]
    exact h9
  exact RP_id (by unfold nM; rw [base 3 (by decide) (by decide)]) (base 0 (by decide) (by decide)) (base 1 (by decide) (by decide)) (base 2 (by decide) (by decide)) (fun t f ht hz => base _ (by omega) (by omega)) hS
theorem RP_fir {f : Int32} (h9 : 0 ≤ R 209 ∧ R 209 ≤ 40) (hf : 0 ≤ f ∧ f ≤ R 0) (hb : ¬ 0 < fBar R f) (h : RP b R) : RP b (nFir R f) := by
  have l := h.1.2
  have base : ∀ j, j < 209 → nFir R f j = rup R 1 f j := fun j hj => by
    unfold nFir
    refine te_base ?_ hj
    rw [rup_ne (by decide)]
    exact h9
  have hh : ∀ j, j < 209 → ¬ j = 1 → nFir R f j = R j := fun j hj j1 => by rw [base j hj, rup_ne j1]
  have h1 : nFir R f 1 = f := by rw [base 1 (by decide), rup_at]
  have hn : nM (nFir R f) = nM R := by unfold nM; rw [hh 3 (by decide) (by decide)]
  have c0 : cnt (fun t => decide (¬ (fld R t 1 = 1 ∨ f ≤ fld R t 0 / 4))) (nM R) = 0 := by
    have hle := cnt_le (fun t => decide (¬ (fld R t 1 = 1 ∨ f ≤ fld R t 0 / 4))) (nM R)
    rcases Nat.eq_zero_or_pos (cnt (fun t => decide (¬ (fld R t 1 = 1 ∨ f ≤ fld R t 0 / 4))) (nM R)) with z | z
    · exact z
    · exact absurd ((iN_lt (k := 0) (by decide) (by omega)).mpr z) hb
  have hfl : ∀ t g, t < nM R → g < 10 → fld (nFir R f) t g = fld R t g := fun t g ht hg => hh _ (by omega) (by omega)
  obtain ⟨⟨⟨s1, s2, s3, s4⟩, r2⟩, ⟨k, hk, e⟩, r4⟩ := h
  refine ⟨⟨⟨fun t ht => ?_, fun t o ht ho q => ?_, fun t ht => ?_, by rw [h1, hh 0 (by decide) (by decide)]; exact hf⟩, by rw [hn]; exact r2⟩, ⟨k, hk, (hh 2 (by decide) (by decide)).trans e⟩, SY_cg hn (hh 0 (by decide) (by decide)) (fun t ht => ⟨hfl t 8 ht (by decide), hfl t 5 ht (by decide), hfl t 9 ht (by decide)⟩) r4⟩
  · rw [hn] at ht
    rw [hfl t 0 ht (by decide), hh 0 (by decide) (by decide)]
    exact s1 t ht
  · rw [hn] at ht ho
    rw [hfl t 0 ht (by decide), hfl o 0 ho (by decide)] at q
    exact s2 t o ht ho q
  · rw [hn] at ht
    unfold fMay
    rw [hfl t 0 ht (by decide), hfl t 1 ht (by decide), h1]
    exact Decidable.not_not.mp (of_decide_eq_false (cnt_zero _ c0 t ht))
theorem RP_set {t : Nat} {w v : Int32} (h9 : 0 ≤ R 209 ∧ R 209 ≤ 40) (ht : t < nM R) (hw : inR R w v) (hm : ¬ (w = 4 ∧ ¬ (v = 1 ∨ R 1 ≤ fld R t 0 / 4))) (h : RP b R) : RP b (nSet R (iN t) w v) := by
  have l := h.1.2
  have base : ∀ j, j < 209 → nSet R (iN t) w v j = rup R (9 + 10 * t + fof w) v j := fun j hj => by
    unfold nSet
    rw [iN_nat (by omega)]
    refine te_base ?_ hj
    rw [rup_ne ?_]
    · exact h9
    · have hf : fof w < 8 := by
        unfold fof
        split
        · decide
        · rcases hw with ⟨z, -⟩ | ⟨z, -⟩ | ⟨z, -⟩ | ⟨z, -⟩
          · rcases z with z | z <;> rw [z] <;> decide
          · rw [z]; decide
          · rw [z]; decide
          · rw [z]; decide
      omega
  have hfo : (w = 4 ∧ fof w = 1) ∨ (¬ w = 4 ∧ 3 ≤ fof w ∧ fof w ≤ 6 ∧ (fof w = 5 → 0 ≤ v ∧ v ≤ R 0 - 1)) := by
    unfold fof
    by_cases q : w = 4
    · exact Or.inl ⟨q, if_pos q⟩
    · rw [if_neg q]
      right
      rcases hw with ⟨z, -⟩ | ⟨z, y⟩ | ⟨z, -⟩ | ⟨z, -⟩
      · rcases z with z | z
        · rw [z]; exact ⟨by decide, by decide, by decide, fun y => absurd y (by decide)⟩
        · rw [z]; exact ⟨by decide, by decide, by decide, fun y => absurd y (by decide)⟩
      · rw [z]; exact ⟨by decide, by decide, by decide, fun _ => y⟩
      · rw [z]; exact ⟨by decide, by decide, by decide, fun y => absurd y (by decide)⟩
      · exact absurd z q
  have hh : ∀ j, j < 9 → nSet R (iN t) w v j = R j := fun j hj => by rw [base j (by omega), rup_ne (by omega)]
  have hn : nM (nSet R (iN t) w v) = nM R := by unfold nM; rw [hh 3 (by decide)]
  have f10 : fof w < 10 := by rcases hfo with ⟨-, z⟩ | ⟨-, -, z, -⟩ <;> omega
  have hfl : ∀ s g, s < nM R → g < 10 → fld (nSet R (iN t) w v) s g = if s = t ∧ g = fof w then v else fld R s g := fun s g hs hg => by
    have e : fld (nSet R (iN t) w v) s g = fld (rup R (9 + 10 * t + fof w) v) s g := base _ (by omega)
    rw [e, fld_rup f10 hg]
  obtain ⟨⟨⟨s1, s2, s3, s4⟩, r2⟩, ⟨k, hk, e⟩, r4⟩ := h
  have h0 : ∀ s, s < nM R → fld (nSet R (iN t) w v) s 0 = fld R s 0 := fun s hs => by rw [hfl s 0 hs (by decide), if_neg (by rcases hfo with ⟨-, z⟩ | ⟨-, z, -⟩ <;> omega)]
  refine ⟨⟨⟨fun s hs => ?_, fun s o hs ho q => ?_, fun s hs => ?_, by rw [hh 1 (by decide), hh 0 (by decide)]; exact s4⟩, by rw [hn]; exact r2⟩, ⟨k, hk, (hh 2 (by decide)).trans e⟩, fun s hs => ?_⟩
  · rw [hn] at hs
    rw [h0 s hs, hh 0 (by decide)]
    exact s1 s hs
  · rw [hn] at hs ho
    rw [h0 s hs, h0 o ho] at q
    exact s2 s o hs ho q
  · rw [hn] at hs
    unfold fMay
    rw [h0 s hs, hfl s 1 hs (by decide), hh 1 (by decide)]
    by_cases q : s = t ∧ 1 = fof w
    · rw [if_pos q, q.1]
      rcases hfo with ⟨z, -⟩ | ⟨-, z, -⟩
      · exact Decidable.not_not.mp (fun y => hm ⟨z, y⟩)
      · omega
    · rw [if_neg q]
      exact s3 s hs
  · rw [hn] at hs
    obtain ⟨y1, y2, y3⟩ := r4 s hs
    refine ⟨?_, ?_, ?_⟩
    · rw [hfl s 8 hs (by decide), if_neg (by rcases hfo with ⟨-, z⟩ | ⟨-, -, z, -⟩ <;> omega)]
      exact y1
    · rw [hfl s 5 hs (by decide), hh 0 (by decide)]
      by_cases q : s = t ∧ 5 = fof w
      · rw [if_pos q]
        rcases hfo with ⟨-, z⟩ | ⟨-, -, -, z⟩
        · omega
        · obtain ⟨z1, z2⟩ := z q.2.symm
          have := s4
          grind
      · rw [if_neg q]
        exact y2
    · rw [hfl s 9 hs (by decide), if_neg (by rcases hfo with ⟨-, z⟩ | ⟨-, -, z, -⟩ <;> omega)]
      exact y3
/-! stations -/
theorem off_h {t j : Nat} (hb : bN R) (hj : j < 9) (h3 : ¬ j = 3) (h8 : ¬ j = 8) : fOff R t j = R j := by
  unfold fOff
  rw [radd_ne h8, csh_lo (by omega), radd_ne h3, fTe_ne hb.2 (by omega)]
def RS0 (R : gW) : Prop := SIn R ∧ SY R
theorem RS0_off {t : Nat} (hb : bN R) (ht : t < nM R) (h : RS0 R) : RS0 (fOff R t) := by
  obtain ⟨⟨⟨s1, s2, s3, s4⟩, r2⟩, r4⟩ := h
  have hn := off_n hb ht
  have lo : ∀ s, s < nM R - 1 → (if s < t then s else s + 1) < nM R := fun s hs => by split <;> omega
  have e : ∀ s f, s < nM R - 1 → f < 10 → fld (fOff R t) s f = fld R (if s < t then s else s + 1) f := fun s f hs hf => fOff_f hb ht hs hf
  have e0 : fOff R t 0 = R 0 := off_h hb (by decide) (by decide) (by decide)
  have e1 : fOff R t 1 = R 1 := off_h hb (by decide) (by decide) (by decide)
  refine ⟨⟨⟨fun s hs => ?_, fun s o hs ho q => ?_, fun s hs => ?_, by rw [e1, e0]; exact s4⟩, by rw [hn]; omega⟩, fun s hs => ?_⟩
  · rw [hn] at hs
    rw [e s 0 hs (by decide), e0]
    exact s1 _ (lo s hs)
  · rw [hn] at hs ho
    rw [e s 0 hs (by decide), e o 0 ho (by decide)] at q
    have := s2 _ _ (lo s hs) (lo o ho) q
    split at this <;> split at this <;> omega
  · rw [hn] at hs
    unfold fMay
    rw [e s 0 hs (by decide), e s 1 hs (by decide), e1]
    exact s3 _ (lo s hs)
  · rw [hn] at hs
    rw [e s 8 hs (by decide), e s 5 hs (by decide), e s 9 hs (by decide), e0]
    exact r4 _ (lo s hs)
theorem RS0_stpN : ∀ (k : Nat) (R : gW), bN R → k ≤ nM R → RS0 R → RS0 (stpN k R)
  | 0, R, _, _, h => h
  | k + 1, R, hb, hk, h => by
    obtain ⟨b1, b2⟩ := stp1_b hb (k := k) (by omega)
    have g : RS0 (stp1 R k) := by
      unfold stp1
      split
      · exact RS0_off hb (by omega) h
      · exact h
    exact RS0_stpN k (stp1 R k) b1 b2 g
theorem RS0_stm (hb : bN R) (h : RS0 R) : ∀ k, RS0 (stm k R)
  | 0 => h
  | k + 1 => by
    have i := RS0_stm hb h k
    have bk := stm_b hb k
    have b2 : bN (radd (stm k R) 2 1) := ⟨by rw [radd_ne (by decide)]; exact bk.1, by rw [radd_ne (by decide)]; exact bk.2⟩
    have en : nM (radd (stm k R) 2 1) = nM (stm k R) := nM_radd2 _ _
    have g : RS0 (radd (stm k R) 2 1) := by
      obtain ⟨⟨i1, i2⟩, i3⟩ := i
      refine ⟨⟨SI_agj (agj_symm (agf_rad (by decide) (by decide)).j) i1, by rw [en]; exact i2⟩, SY_cg en (radd_ne (by decide)) (fun t ht => ⟨radd_ne (by omega), radd_ne (by omega), radd_ne (by omega)⟩) i3⟩
    exact RS0_stpN _ _ b2 (by rw [en]; exact Nat.le_refl _) g
theorem RP_stm {k : Nat} (hb : bN R) (hk : b + k < 2147483648) (h : RP b R) : RP (b + k) (stm k R) := by
  obtain ⟨h1, ⟨T, hT, e⟩, h3⟩ := h
  obtain ⟨g1, g2⟩ := RS0_stm hb ⟨h1, h3⟩ k
  exact ⟨g1, ⟨T + k, by omega, (stm_c hb e k (by omega)).1⟩, g2⟩
/-! a traveller comes -/
theorem RP_com {x k f w s nm : Int32} (h3 : 0 ≤ R 3 ∧ R 3 ≤ 20) (h9 : 0 ≤ R 209 ∧ R 209 ≤ 40) (h20 : ¬ R 3 = 20) (hx : 0 ≤ x ∧ x < 4 * R 0) (hR0 : 2 ≤ R 0 ∧ R 0 ≤ 10) (hf : fWho R x < 0) (hm : k = 1 ∨ R 1 ≤ x / 4) (hs : 1 ≤ s ∧ s ≤ 99) (hk : ¬ isKey nm) (h : RP b R) : RP b (nCom R x k f w s nm) := by
  obtain ⟨n, hN⟩ : ∃ n, nM R = n := ⟨_, rfl⟩
  have e3 : R 3 = iN n := by rw [← hN]; exact (nM_of h3).1
  have l20 : n ≤ 20 := by rw [← hN]; exact (nM_of h3).2
  have n20 : n < 20 := by
    rcases Nat.lt_or_ge n 20 with z | z
    · exact z
    · exact absurd (by rw [e3, show n = 20 by omega]; rfl) h20
  have base : ∀ j, j < 209 → nCom R x k f w s nm j = radd (rup (rup (rup (rup (fNew R x nm) (9 + 10 * n + 1) k) (9 + 10 * n + 2) f) (9 + 10 * n + 7) w) (9 + 10 * n + 8) s) 3 1 j := fun j hj => by
    unfold nCom
    rw [hN]
    refine te_base ?_ hj
    rw [radd_ne (by decide), rup_ne (by omega), rup_ne (by omega), rup_ne (by omega), rup_ne (by omega), fNew_ne (by omega)]
    exact h9
  have hh : ∀ j, j < 9 + 10 * n → ¬ j = 3 → nCom R x k f w s nm j = R j := fun j hj j3 => by
    rw [base j (by omega), radd_ne j3, rup_ne (by omega), rup_ne (by omega), rup_ne (by omega), rup_ne (by omega), fNew_ne (by omega)]
  have e33 : nCom R x k f w s nm 3 = iN (n + 1) := by
    rw [base 3 (by decide), radd_at, rup_ne (by omega), rup_ne (by omega), rup_ne (by omega), rup_ne (by omega), fNew_ne (by omega), e3]
    exact iN_add n 1
  have hn : nM (nCom R x k f w s nm) = n + 1 := nM_iN e33 (by omega)
  have old : ∀ t g, t < n → g < 10 → fld (nCom R x k f w s nm) t g = fld R t g := fun t g ht hg => hh _ (by omega) (by omega)
  have new : ∀ g, g < 10 → fld (nCom R x k f w s nm) n g = if g = 8 then s else if g = 7 then w else if g = 2 then f else if g = 1 then k else fNew R x nm (9 + 10 * n + g) := fun g hg => by
    unfold fld
    rw [base _ (by omega), radd_ne (by omega)]
    unfold rup
    by_cases q8 : g = 8
    · rw [if_pos (by omega), if_pos q8]
    · rw [if_neg (by omega), if_neg q8]
      by_cases q7 : g = 7
      · rw [if_pos (by omega), if_pos q7]
      · rw [if_neg (by omega), if_neg q7]
        by_cases q2 : g = 2
        · rw [if_pos (by omega), if_pos q2]
        · rw [if_neg (by omega), if_neg q2]
          by_cases q1 : g = 1
          · rw [if_pos (by omega), if_pos q1]
          · rw [if_neg (by omega), if_neg q1]
  have s0 : fld (nCom R x k f w s nm) n 0 = x := by rw [new 0 (by decide)]; exact fNew_v hN (f := 0) (by decide)
  have s1' : fld (nCom R x k f w s nm) n 1 = k := by rw [new 1 (by decide)]; rfl
  have s5 : fld (nCom R x k f w s nm) n 5 = 0 := by rw [new 5 (by decide)]; exact fNew_v hN (f := 5) (by decide)
  have s8 : fld (nCom R x k f w s nm) n 8 = s := by rw [new 8 (by decide)]; rfl
  have s9 : fld (nCom R x k f w s nm) n 9 = nm := by rw [new 9 (by decide)]; exact fNew_9 hN
  have hfree : ∀ o, o < n → ¬ fld R o 0 = x := by
    rcases who_c (R := R) (by rw [hN]; omega) x with ⟨-, z⟩ | ⟨o, ho, e, -⟩
    · rw [hN] at z
      exact z
    · rw [e] at hf
      exact absurd ((iN_lt (m := 0) (by omega) (by decide)).mp hf) (Nat.not_lt_zero _)
  have e0 := hh 0 (by omega) (by decide)
  have e1 := hh 1 (by omega) (by decide)
  obtain ⟨⟨⟨s1, s2, s3, s4⟩, r2⟩, ⟨T, hT, e2⟩, r4⟩ := h
  rw [hN] at s1 s2 s3
  refine ⟨⟨⟨fun t ht => ?_, fun t o ht ho q => ?_, fun t ht => ?_, by rw [e1, e0]; exact s4⟩, by rw [hn]; omega⟩, ⟨T, hT, (hh 2 (by omega) (by decide)).trans e2⟩, fun t ht => ?_⟩
  · rw [hn] at ht
    rw [e0]
    by_cases z : t = n
    · rw [z, s0]
      exact hx
    · rw [old t 0 (by omega) (by decide)]
      exact s1 t (by omega)
  · rw [hn] at ht ho
    by_cases z1 : t = n
    · by_cases z2 : o = n
      · rw [z1, z2]
      · rw [z1, s0, old o 0 (by omega) (by decide)] at q
        exact absurd q.symm (hfree o (by omega))
    · by_cases z2 : o = n
      · rw [z2, s0, old t 0 (by omega) (by decide)] at q
        exact absurd q (hfree t (by omega))
      · rw [old t 0 (by omega) (by decide), old o 0 (by omega) (by decide)] at q
        exact s2 t o (by omega) (by omega) q
  · rw [hn] at ht
    unfold fMay
    rw [e1]
    by_cases z : t = n
    · rw [z, s0, s1']
      exact hm
    · rw [old t 0 (by omega) (by decide), old t 1 (by omega) (by decide)]
      exact s3 t (by omega)
  · rw [hn] at ht
    rw [e0]
    by_cases z : t = n
    · rw [z, s8, s5, s9]
      refine ⟨hs, ?_, hk⟩
      have := hR0.1
      grind
    · rw [old t 8 (by omega) (by decide), old t 5 (by omega) (by decide), old t 9 (by omega) (by decide)]
      exact r4 t (by rw [hN]; omega)
end RPS
