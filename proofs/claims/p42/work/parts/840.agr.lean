/-! THE CLASS'S ANSWERS by the row (as in p17 to p38) -/
theorem agr_Sw {R S : gW} (h : agr R S) : fSw R = fSw S := by
  unfold fSw
  rw [← agr_n h]
  exact sm_congr (fun j hj => h.2 j hj 7 (by decide))
theorem agr_Pl {R S : gW} (h : agr R S) {t : Nat} (ht : t < nM R) : fPl R t = fPl S t := by
  unfold fPl
  rw [← agr_n h]
  congr 1
  refine cnt_congr (fun j hj => ?_)
  unfold plP
  rw [agr_Jo h ht, agr_Jo h hj]
theorem agr_Rk {R S : gW} (h : agr R S) (x : Int32) : fRk R x = fRk S x := by
  unfold fRk
  rw [← agr_n h]
  exact fnd_congr (fun j hj => by rw [agr_Pl h hj])
theorem agr_Ac {R S : gW} (h : agr R S) (b : Int32) : fAc R b = fAc S b := by
  unfold fAc
  rw [← agr_n h]
  congr 1
  exact cnt_congr (fun j hj => by rw [h.2 j hj 0 (by decide)])
theorem agr_Ag {R S : gW} (h : agr R S) (b : Int32) : fAg R b = fAg S b := by
  unfold fAg
  rw [← agr_n h]
  congr 1
  exact cnt_congr (fun j hj => by rw [h.2 j hj 0 (by decide), agr_Jo h hj])
theorem agr_Aj {R S : gW} (h : agr R S) (b : Int32) : fAj R b = fAj S b := by
  unfold fAj
  rw [← agr_n h]
  exact sm_congr (fun j hj => by rw [h.2 j hj 0 (by decide), agr_Jo h hj])
theorem agr_JF {R S : gW} (h : agr R S) (f : Int32) : fJF R f = fJF S f := by
  unfold fJF
  rw [← agr_n h]
  exact sm_congr (fun j hj => by rw [h.2 j hj 2 (by decide), agr_Jo h hj])
theorem agr_MF {R S : gW} (h : agr R S) (f : Int32) : fMF R f = fMF S f := by
  unfold fMF
  rw [← agr_n h]
  congr 1
  exact cnt_congr (fun j hj => by rw [h.2 j hj 2 (by decide)])
theorem agr_of {R S : gW} (h3 : b3R R) (h : agr R S) {rel rel' : Int32} (t w : Int32) (hr : isT R t → rel = rel') : aOf R rel t w = aOf S rel' t w := by
  unfold aOf
  by_cases q : isT R t
  · have ht := isT_nn h3 q
    rw [if_pos q, if_pos ((agr_isT h t).mp q), hr q]
    unfold aOf0
    rw [h.2 _ ht 0 (by decide), h.2 _ ht 1 (by decide), h.2 _ ht 2 (by decide), h.2 _ ht 3 (by decide), h.2 _ ht 4 (by decide), h.2 _ ht 5 (by decide), h.2 _ ht 6 (by decide), h.2 _ ht 7 (by decide), h.2 _ ht 8 (by decide), agr_Jo h ht, agr_Pl h ht]
  · rw [if_neg q, if_neg (fun z => q ((agr_isT h t).mpr z))]
theorem agr_rk {R S : gW} (h : agr R S) (x : Int32) : (if x < 0 then -1 else fRk R x) = (if x < 0 then -1 else fRk S x) := by rw [agr_Rk h]
theorem agr_Pa {R S : gW} (h : agr R S) {a : Nat} (ha : a < nM R) : fPa R a = fPa S a := by
  unfold fPa
  rw [← agr_n h]
  congr 1
  refine nfold_congr (fun k s hk => ?_)
  unfold paS
  rw [agr_Why h ha hk 0, agr_Rise h ha hk ha]
theorem agr_pa {R S : gW} (h3 : b3R R) (h : agr R S) (t : Int32) : (if isT R t then fPa R t.toNatClampNeg else -1) = (if isT S t then fPa S t.toNatClampNeg else -1) := by
  by_cases q : isT R t
  · rw [if_pos q, if_pos ((agr_isT h t).mp q), agr_Pa h (isT_nn h3 q)]
  · rw [if_neg q, if_neg (fun z => q ((agr_isT h t).mpr z))]
theorem agr_Ri {R S : gW} (h : agr R S) : fRi R = fRi S := by
  unfold fRi
  rw [← agr_n h]
  congr 1
  refine nfold_congr (fun a s ha => ?_)
  unfold rgA
  rw [← agr_n h]
  refine nfold_congr (fun i s hi => ?_)
  unfold rgB
  rw [← agr_n h]
  refine nfold_congr (fun j s hj => ?_)
  unfold rgC
  by_cases q : a + 1 + i = a + 1 + j
  · rw [if_neg (fun z => z.1 q), if_neg (fun z => z.1 q)]
  · have hd : a ≠ a + 1 + i ∧ a + 1 + i ≠ a + 1 + j ∧ a ≠ a + 1 + j := ⟨by omega, q, by omega⟩
    rw [agr_WhyR h ha (by omega) (by omega) hd, agr_ROR h ha (by omega) (by omega) hd]
theorem nn_lt {i c : Int32} (h : 0 ≤ i) (h2 : i < c) : i.toNatClampNeg < c.toNatClampNeg := by
  have hc : 0 ≤ c := by grind
  obtain ⟨e1, l1⟩ := iN_of h
  obtain ⟨e2, l2⟩ := iN_of hc
  rw [e1, e2] at h2
  exact (iN_lt l1 l2).mp h2
/-- the travellers of a family, table by table -/
theorem mem_part {R : gW} {f : Int32} : ∀ n, (∀ t, t < n → 0 ≤ fld R t 0 ∧ fld R t 0 < 40) → cnt (memP R (iN 0) f) n + cnt (memP R (iN 1) f) n + cnt (memP R (iN 2) f) n + cnt (memP R (iN 3) f) n + cnt (memP R (iN 4) f) n = cnt (fun t => decide (fld R t 2 = f)) n
  | 0, _ => rfl
  | n + 1, h => by
    have ih := mem_part (R := R) (f := f) n (fun t ht => h t (by omega))
    obtain ⟨k, hk, e⟩ := i8 (h n (by omega))
    have m : ∀ a, a < 5 → (if memP R (iN a) f n = true then 1 else 0) = (if a = k ∧ fld R n 2 = f then 1 else 0) := by
      intro a ha
      have e2 : (fld R n 0 / 8 = iN a ∧ fld R n 2 = f) ↔ (a = k ∧ fld R n 2 = f) := by
        rw [e]
        exact ⟨fun z => ⟨((iN_inj (by omega) (by omega)).mp z.1).symm, z.2⟩, fun z => ⟨by rw [z.1], z.2⟩⟩
      unfold memP
      by_cases q : a = k ∧ fld R n 2 = f
      · rw [if_pos q, if_pos (decide_eq_true (e2.mpr q))]
      · rw [if_neg q, if_neg (fun z => q (e2.mp (of_decide_eq_true z)))]
    have m2 : (if decide (fld R n 2 = f) = true then 1 else 0) = (if fld R n 2 = f then 1 else 0) := by
      by_cases q : fld R n 2 = f
      · rw [if_pos q, if_pos (decide_eq_true q)]
      · rw [if_neg q, if_neg (fun z => q (of_decide_eq_true z))]
    show (cnt _ n + _) + (cnt _ n + _) + (cnt _ n + _) + (cnt _ n + _) + (cnt _ n + _) = cnt _ n + _
    rw [m 0 (by omega), m 1 (by omega), m 2 (by omega), m 3 (by omega), m 4 (by omega), m2, ← ih]
    by_cases q : fld R n 2 = f
    · rw [if_pos q]
      have hk5 : k = 0 ∨ k = 1 ∨ k = 2 ∨ k = 3 ∨ k = 4 := by omega
      rcases hk5 with rfl | rfl | rfl | rfl | rfl <;> simp [q] <;> omega
    · rw [if_neg q]
      simp [q]
theorem TC_seat {σ : gS} (h : TC σ 6) : ∀ t, t < nM (cR σ 6) → 0 ≤ fld (cR σ 6) t 0 ∧ fld (cR σ 6) t 0 < 40 := fun t ht => (h.2.1 t ht).2.1
theorem cFm_e {σ : gS} {R : gW} (hc : TC σ 6) (h : agr (cR σ 6) R) {k : Nat} (hk : k < 10) : cFm σ (iN k) = fMF R (iN k) := by
  rw [← agr_MF h]
  unfold cFm fMF
  rw [← mem_part _ (TC_seat hc)]
  have e : ∀ a, a < 5 → cMa σ 6 (iN a) (iN k) = iN (mem (cR σ 6) (iN a) (iN k)) := fun a ha => by
    rw [cMa_of ha hk]
    exact hc.2.2 a ha k hk
  show ((((0 + cMa σ 6 (iN 0) (iN k)) + cMa σ 6 (iN 1) (iN k)) + cMa σ 6 (iN 2) (iN k)) + cMa σ 6 (iN 3) (iN k)) + cMa σ 6 (iN 4) (iN k) = _
  rw [e 0 (by decide), e 1 (by decide), e 2 (by decide), e 3 (by decide), e 4 (by decide), show (0 : Int32) = iN 0 from rfl, iN_add, iN_add, iN_add, iN_add, iN_add, Nat.zero_add]
  rfl
theorem agr_vl {R S : gW} (h : agr R S) {m m' : Int32 → Int32} {lg lg' un un' : Int32} (hm : ∀ k, k < 10 → m (iN k) = m' (iN k)) (hl : lg = lg') (hu : un = un') (w : Int32) : aVl R m lg un w = aVl S m' lg' un' w := by
  have e : fFs m = fFs m' := by
    unfold fFs
    congr 1
    exact cnt_congr (fun j hj => by rw [hm (j + 1) (by omega)])
  unfold aVl
  rw [h.1 0 (by decide), h.1 1 (by decide), h.1 2 (by decide), h.1 3 (by decide), h.1 4 (by decide), h.1 5 (by decide), h.1 6 (by decide), h.1 7 (by decide), h.1 8 (by decide), agr_Ja h, agr_Gr h, agr_Sw h, e, hl, hu]
theorem i5 {m b : Int32} (h0 : 2 ≤ m ∧ m ≤ 10) (h : 0 ≤ b ∧ b ≤ (m + 1) / 2 - 1) : ∃ a, a < 5 ∧ b = iN a := by
  obtain ⟨r, r1, r2, e1, e2⟩ := rw_n h0
  obtain ⟨eb, l⟩ := iN_of h.1
  refine ⟨b.toNatClampNeg, ?_, eb⟩
  have h2 := h.2
  rw [e2, show (1 : Int32) = iN 1 from rfl, iN_sub (by omega) (by omega), eb] at h2
  have := (iN_le l (by omega)).mp h2
  omega
theorem agr_tb {R S : gW} (h0 : 2 ≤ R 0 ∧ R 0 ≤ 10) (h : agr R S) {m m' : Int32 → Int32} (b w : Int32) (hm : ∀ a, a < 5 → b = iN a → ∀ k, k < 10 → m (iN k) = m' (iN k)) : aTb R m b w = aTb S m' b w := by
  unfold aTb
  rw [← h.1 0 (by decide)]
  by_cases q : 0 ≤ b ∧ b ≤ (R 0 + 1) / 2 - 1
  · obtain ⟨a, ha, eb⟩ := i5 h0 q
    have hm := hm a ha eb
    have e : gfA m = gfA m' := by
      unfold gfA
      congr 1
      refine nfold_congr (fun j s hj => ?_)
      unfold gfS
      rw [hm (j + 1) (by omega)]
    rw [if_pos q, if_pos q, agr_Ac h, agr_Ag h, agr_Aj h, e]
  · rw [if_neg q, if_neg q]
theorem why_0 (R : gW) (t : Nat) (x : Int32) : (0 < fWhyM R t x ↔ ¬ fWhyM R t x = 0) := by
  unfold fWhyM
  split
  · exact ⟨fun _ => by decide, fun _ => by decide⟩
  · split
    · exact ⟨fun _ => by decide, fun _ => by decide⟩
    · split
      · exact ⟨fun _ => by decide, fun _ => by decide⟩
      · exact ⟨fun z => absurd z (by decide), fun z => absurd rfl z⟩
theorem bst_e (R : gW) (t : Nat) : ∀ n, n ≤ 1000 → (nfold (bcS R t) n (-2, 0)).1 = nfold (brS R t) n (-2) ∧ ((nfold (bcS R t) n (-2, 0)).1 = -2 ∨ ∃ k, k < n ∧ (nfold (bcS R t) n (-2, 0)).1 = iN k ∧ (nfold (bcS R t) n (-2, 0)).2 = fJoy R t (iN k))
  | 0, _ => ⟨rfl, Or.inl rfl⟩
  | n + 1, hn => by
    obtain ⟨e, i⟩ := bst_e R t n (by omega)
    show (bcS R t n (nfold (bcS R t) n (-2, 0))).1 = brS R t n (nfold (brS R t) n (-2)) ∧ ((bcS R t n (nfold (bcS R t) n (-2, 0))).1 = -2 ∨ ∃ k, k < n + 1 ∧ (bcS R t n (nfold (bcS R t) n (-2, 0))).1 = iN k ∧ (bcS R t n (nfold (bcS R t) n (-2, 0))).2 = fJoy R t (iN k))
    rw [← e]
    obtain ⟨p, hp⟩ : ∃ p, nfold (bcS R t) n (-2, 0) = p := ⟨_, rfl⟩
    rw [hp] at i ⊢
    unfold bcS brS
    by_cases w : fWhyM R t (iN n) = 0
    · rw [if_neg (fun z => (why_0 R t (iN n)).mp z w)]
      rcases i with i | ⟨k, hk, i1, i2⟩
      · rw [if_pos ⟨w, Or.inl i⟩, i, if_pos (by decide)]
        exact ⟨rfl, Or.inr ⟨n, by omega, rfl, rfl⟩⟩
      · have h0 : ¬ p.1 < 0 := by
          rw [i1]
          intro z
          exact absurd ((iN_lt (m := 0) (by omega) (by decide)).mp z) (by omega)
        have h2 : ¬ p.1 = -2 := by rw [i1]; exact iN_ne (by omega)
        rw [if_neg h0]
        by_cases q : p.2 < fJoy R t (iN n)
        · rw [if_pos ⟨w, Or.inr q⟩, if_pos (by rw [i1, ← i2]; exact q)]
          exact ⟨rfl, Or.inr ⟨n, by omega, rfl, rfl⟩⟩
        · rw [if_neg (fun z => z.2.elim h2 q), if_neg (by rw [i1, ← i2]; exact q)]
          exact ⟨rfl, Or.inr ⟨k, by omega, i1, i2⟩⟩
    · rw [if_neg (fun z => w z.1), if_pos ((why_0 R t (iN n)).mpr w)]
      refine ⟨rfl, ?_⟩
      rcases i with i | ⟨k, hk, i1, i2⟩
      · exact Or.inl i
      · exact Or.inr ⟨k, by omega, i1, i2⟩
theorem agr_bs {R S : gW} (h3 : b3R R) (h0 : 2 ≤ S 0 ∧ S 0 ≤ 10) (h : agr R S) (t : Int32) : (if isT R t then fBs R t.toNatClampNeg else -1) = (if isT S t then rBs S t.toNatClampNeg else -1) := by
  by_cases q : isT R t
  · have ht := isT_nn h3 q
    obtain ⟨m, m1, m2, m3⟩ := row_n h0
    rw [if_pos q, if_pos ((agr_isT h t).mp q)]
    unfold fBs rBs
    rw [h.1 0 (by decide), (bst_e R _ _ (by omega)).1]
    refine nfold_congr (fun k s hk => ?_)
    unfold brS
    rw [agr_WhyM h ht, agr_Joy h ht, agr_Joy h ht]
  · rw [if_neg q, if_neg (fun z => q ((agr_isT h t).mpr z))]
theorem cSx_e {B : Nat} {σ : gS} (g : GR B σ) (w : Int32) : cSx σ w = aSt (σ 324) w := by
  have s := cCo_ok (p := 32) (q := 6) (by omega) g.1
  obtain ⟨e1, e2, -, -⟩ := cSt_ok (d := 99) s g.2.1.1 g.2.1.2.1
  unfold cSx aSt
  rw [e1, agr_Ja e2.1, agr_Gr e2.1]
