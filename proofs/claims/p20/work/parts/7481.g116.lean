-- text 116
/-! THE LAW: pairs of queries, equal answers -/
theorem agr_Sw {R S : gW} (h : agr R S) : fSw R = fSw S := by
  unfold fSw
  rw [← agr_n h]
  exact sm_congr (fun j hj => h.2 j hj 7 (by decide))
theorem agr_Pl {R S : gW} (h : agr R S) {t : Nat} (ht : t < nM R) : fPl R t = fPl S t := by
  unfold fPl
  rw [← agr_n h]
  congr 1
  refine cnt_congr (fun j hj => ?_)
  unfold plP
  rw [agr_Jo h ht, agr_Jo h hj]
theorem agr_Rk {R S : gW} (h : agr R S) (x : Int32) : fRk R x = fRk S x := by
  unfold fRk
  rw [← agr_n h]
  exact fnd_congr (fun j hj => by rw [agr_Pl h hj])
theorem agr_Ac {R S : gW} (h : agr R S) (b : Int32) : fAc R b = fAc S b := by
  unfold fAc
  rw [← agr_n h]
  congr 1
  exact cnt_congr (fun j hj => by rw [h.2 j hj 0 (by decide)])
theorem agr_Ag {R S : gW} (h : agr R S) (b : Int32) : fAg R b = fAg S b := by
  unfold fAg
  rw [← agr_n h]
  congr 1
  exact cnt_congr (fun j hj => by rw [h.2 j hj 0 (by decide), agr_Jo h hj])
theorem agr_Aj {R S : gW} (h : agr R S) (b : Int32) : fAj R b = fAj S b := by
  unfold fAj
  rw [← agr_n h]
  exact sm_congr (fun j hj => by rw [h.2 j hj 0 (by decide), agr_Jo h hj])
theorem agr_JF {R S : gW} (h : agr R S) (f : Int32) : fJF R f = fJF S f := by
  unfold fJF
  rw [← agr_n h]
  exact sm_congr (fun j hj => by rw [h.2 j hj 2 (by decide), agr_Jo h hj])
theorem agr_MF {R S : gW} (h : agr R S) (f : Int32) : fMF R f = fMF S f := by
  unfold fMF
  rw [← agr_n h]
  congr 1
  exact cnt_congr (fun j hj => by rw [h.2 j hj 2 (by decide)])
theorem agr_of {R S : gW} (h3 : b3R R) (h : agr R S) {rel rel' : Int32} (t w : Int32) (hr : isT R t → rel = rel') : aOf R rel t w = aOf S rel' t w := by
  unfold aOf
  by_cases q : isT R t
  · have ht := isT_nn h3 q
    rw [if_pos q, if_pos ((agr_isT h t).mp q), hr q]
    unfold aOf0
    rw [h.2 _ ht 0 (by decide), h.2 _ ht 1 (by decide), h.2 _ ht 2 (by decide), h.2 _ ht 3 (by decide), h.2 _ ht 4 (by decide), h.2 _ ht 5 (by decide), h.2 _ ht 6 (by decide), h.2 _ ht 7 (by decide), h.2 _ ht 8 (by decide), agr_Jo h ht, agr_Pl h ht]
  · rw [if_neg q, if_neg (fun z => q ((agr_isT h t).mpr z))]
theorem agr_rk {R S : gW} (h : agr R S) (x : Int32) : (if x < 0 then -1 else fRk R x) = (if x < 0 then -1 else fRk S x) := by rw [agr_Rk h]
theorem agr_Pa {R S : gW} (h : agr R S) {a : Nat} (ha : a < nM R) : fPa R a = fPa S a := by
  unfold fPa
  rw [← agr_n h]
  congr 1
  refine nfold_congr (fun k s hk => ?_)
  unfold paS
  rw [agr_Why h ha hk 0, agr_Rise h ha hk ha]
theorem agr_pa {R S : gW} (h3 : b3R R) (h : agr R S) (t : Int32) : (if isT R t then fPa R t.toNatClampNeg else -1) = (if isT S t then fPa S t.toNatClampNeg else -1) := by
  by_cases q : isT R t
  · rw [if_pos q, if_pos ((agr_isT h t).mp q), agr_Pa h (isT_nn h3 q)]
  · rw [if_neg q, if_neg (fun z => q ((agr_isT h t).mpr z))]
theorem agr_Ri {R S : gW} (h : agr R S) : fRi R = fRi S := by
  unfold fRi
  rw [← agr_n h]
  congr 1
  refine nfold_congr (fun a s ha => ?_)
  unfold rgA
  rw [← agr_n h]
  refine nfold_congr (fun i s hi => ?_)
  unfold rgB
  rw [← agr_n h]
  refine nfold_congr (fun j s hj => ?_)
  unfold rgC
  by_cases q : a + 1 + i = a + 1 + j
  · rw [if_neg (fun z => z.1 q), if_neg (fun z => z.1 q)]
  · have hd : a ≠ a + 1 + i ∧ a + 1 + i ≠ a + 1 + j ∧ a ≠ a + 1 + j := ⟨by omega, q, by omega⟩
    rw [agr_WhyR h ha (by omega) (by omega) hd, agr_ROR h ha (by omega) (by omega) hd]
theorem nn_lt {i c : Int32} (h : 0 ≤ i) (h2 : i < c) : i.toNatClampNeg < c.toNatClampNeg := by
  have hc : 0 ≤ c := by grind
  obtain ⟨e1, l1⟩ := iN_of h
  obtain ⟨e2, l2⟩ := iN_of hc
  rw [e1, e2] at h2
  exact (iN_lt l1 l2).mp h2
theorem LR_log {σ : gS} {R : gW} (h : LR σ 30 R) (i c : Int32) : (if ¬ i < 0 ∧ (0 ≤ c ∧ c ≤ 2) then (if i < σ 30 2 then σ 31 (3 * (((σ 30 1).toNatClampNeg + i.toNatClampNeg) % 40) + c.toNatClampNeg) else -2) else -1) = (if ¬ i < 0 ∧ (0 ≤ c ∧ c ≤ 2) then (if i < R 209 then R (210 + 3 * i.toNatClampNeg + c.toNatClampNeg) else -2) else -1) := by
  obtain ⟨h1, h2, h3⟩ := h
  by_cases q : ¬ i < 0 ∧ (0 ≤ c ∧ c ≤ 2)
  · rw [if_pos q, if_pos q, ← h2]
    by_cases q2 : i < σ 30 2
    · rw [if_pos q2, if_pos q2]
      have hi : 0 ≤ i := by have := q.1; grind
      have hc : c.toNatClampNeg < 3 := nn_lt (c := 3) q.2.1 (by have := q.2.2; grind)
      exact h3 _ (nn_lt hi q2) _ hc
    · rw [if_neg q2, if_neg q2]
  · rw [if_neg q, if_neg q]
/-- the travellers of a family, table by table -/
theorem mem_part {R : gW} {f : Int32} : ∀ n, (∀ t, t < n → 0 ≤ fld R t 0 ∧ fld R t 0 < 40) → cnt (memP R (iN 0) f) n + cnt (memP R (iN 1) f) n + cnt (memP R (iN 2) f) n + cnt (memP R (iN 3) f) n + cnt (memP R (iN 4) f) n = cnt (fun t => decide (fld R t 2 = f)) n
  | 0, _ => rfl
  | n + 1, h => by
    have ih := mem_part (R := R) (f := f) n (fun t ht => h t (by omega))
    obtain ⟨k, hk, e⟩ := i8 (h n (by omega))
    have m : ∀ a, a < 5 → (if memP R (iN a) f n = true then 1 else 0) = (if a = k ∧ fld R n 2 = f then 1 else 0) := by
      intro a ha
      have e2 : (fld R n 0 / 8 = iN a ∧ fld R n 2 = f) ↔ (a = k ∧ fld R n 2 = f) := by
        rw [e]
        exact ⟨fun z => ⟨((iN_inj (by omega) (by omega)).mp z.1).symm, z.2⟩, fun z => ⟨by rw [z.1], z.2⟩⟩
      unfold memP
      by_cases q : a = k ∧ fld R n 2 = f
      · rw [if_pos q, if_pos (decide_eq_true (e2.mpr q))]
      · rw [if_neg q, if_neg (fun z => q (e2.mp (of_decide_eq_true z)))]
    have m2 : (if decide (fld R n 2 = f) = true then 1 else 0) = (if fld R n 2 = f then 1 else 0) := by
      by_cases q : fld R n 2 = f
      · rw [if_pos q, if_pos (decide_eq_true q)]
      · rw [if_neg q, if_neg (fun z => q (of_decide_eq_true z))]
    show (cnt _ n + _) + (cnt _ n + _) + (cnt _ n + _) + (cnt _ n + _) + (cnt _ n + _) = cnt _ n + _
    rw [m 0 (by omega), m 1 (by omega), m 2 (by omega), m 3 (by omega), m 4 (by omega), m2, ← ih]
    by_cases q : fld R n 2 = f
    · rw [if_pos q]
      have hk5 : k = 0 ∨ k = 1 ∨ k = 2 ∨ k = 3 ∨ k = 4 := by omega
      rcases hk5 with rfl | rfl | rfl | rfl | rfl <;> simp [q] <;> omega
    · rw [if_neg q]
      simp [q]
theorem TC_seat {σ : gS} (h : TC σ 6) : ∀ t, t < nM (cR σ 6) → 0 ≤ fld (cR σ 6) t 0 ∧ fld (cR σ 6) t 0 < 40 := fun t ht => (h.2.1 t ht).2.1
theorem cFm_e {σ : gS} {R : gW} (hc : TC σ 6) (h : agr (cR σ 6) R) {k : Nat} (hk : k < 10) : cFm σ (iN k) = fMF R (iN k) := by
  rw [← agr_MF h]
  unfold cFm fMF
  rw [← mem_part _ (TC_seat hc)]
  have e : ∀ a, a < 5 → cMa σ 6 (iN a) (iN k) = iN (mem (cR σ 6) (iN a) (iN k)) := fun a ha => by
    rw [cMa_of ha hk]
    exact hc.2.2 a ha k hk
  show ((((0 + cMa σ 6 (iN 0) (iN k)) + cMa σ 6 (iN 1) (iN k)) + cMa σ 6 (iN 2) (iN k)) + cMa σ 6 (iN 3) (iN k)) + cMa σ 6 (iN 4) (iN k) = _
  rw [e 0 (by decide), e 1 (by decide), e 2 (by decide), e 3 (by decide), e 4 (by decide), show (0 : Int32) = iN 0 from rfl, iN_add, iN_add, iN_add, iN_add, iN_add, Nat.zero_add]
  rfl
theorem agr_vl {R S : gW} (h : agr R S) {m m' : Int32 → Int32} {lg lg' un un' : Int32} (hm : ∀ k, k < 10 → m (iN k) = m' (iN k)) (hl : lg = lg') (hu : un = un') (w : Int32) : aVl R m lg un w = aVl S m' lg' un' w := by
  have e : fFs m = fFs m' := by
    unfold fFs
    congr 1
    exact cnt_congr (fun j hj => by rw [hm (j + 1) (by omega)])
  unfold aVl
  rw [h.1 0 (by decide), h.1 1 (by decide), h.1 2 (by decide), h.1 3 (by decide), h.1 4 (by decide), h.1 5 (by decide), h.1 6 (by decide), h.1 7 (by decide), h.1 8 (by decide), agr_Ja h, agr_Gr h, agr_Sw h, e, hl, hu]
theorem i5 {m b : Int32} (h0 : 2 ≤ m ∧ m ≤ 10) (h : 0 ≤ b ∧ b ≤ (m + 1) / 2 - 1) : ∃ a, a < 5 ∧ b = iN a := by
  obtain ⟨r, r1, r2, e1, e2⟩ := rw_n h0
  obtain ⟨eb, l⟩ := iN_of h.1
  refine ⟨b.toNatClampNeg, ?_, eb⟩
  have h2 := h.2
  rw [e2, show (1 : Int32) = iN 1 from rfl, iN_sub (by omega) (by omega), eb] at h2
  have := (iN_le l (by omega)).mp h2
  omega
theorem agr_tb {R S : gW} (h0 : 2 ≤ R 0 ∧ R 0 ≤ 10) (h : agr R S) {m m' : Int32 → Int32} (b w : Int32) (hm : ∀ a, a < 5 → b = iN a → ∀ k, k < 10 → m (iN k) = m' (iN k)) : aTb R m b w = aTb S m' b w := by
  unfold aTb
  rw [← h.1 0 (by decide)]
  by_cases q : 0 ≤ b ∧ b ≤ (R 0 + 1) / 2 - 1
  · obtain ⟨a, ha, eb⟩ := i5 h0 q
    have hm := hm a ha eb
    have e : gfA m = gfA m' := by
      unfold gfA
      congr 1
      refine nfold_congr (fun j s hj => ?_)
      unfold gfS
      rw [hm (j + 1) (by omega)]
    rw [if_pos q, if_pos q, agr_Ac h, agr_Ag h, agr_Aj h, e]
  · rw [if_neg q, if_neg q]
theorem why_0 (R : gW) (t : Nat) (x : Int32) : (0 < fWhyM R t x ↔ ¬ fWhyM R t x = 0) := by
  unfold fWhyM
  split
  · exact ⟨fun _ => by decide, fun _ => by decide⟩
  · split
    · exact ⟨fun _ => by decide, fun _ => by decide⟩
    · split
      · exact ⟨fun _ => by decide, fun _ => by decide⟩
      · exact ⟨fun z => absurd z (by decide), fun z => absurd rfl z⟩
theorem bst_e (R : gW) (t : Nat) : ∀ n, n ≤ 1000 → (nfold (bcS R t) n (-2, 0)).1 = nfold (brS R t) n (-2) ∧ ((nfold (bcS R t) n (-2, 0)).1 = -2 ∨ ∃ k, k < n ∧ (nfold (bcS R t) n (-2, 0)).1 = iN k ∧ (nfold (bcS R t) n (-2, 0)).2 = fJoy R t (iN k))
  | 0, _ => ⟨rfl, Or.inl rfl⟩
  | n + 1, hn => by
    obtain ⟨e, i⟩ := bst_e R t n (by omega)
    show (bcS R t n (nfold (bcS R t) n (-2, 0))).1 = brS R t n (nfold (brS R t) n (-2)) ∧ ((bcS R t n (nfold (bcS R t) n (-2, 0))).1 = -2 ∨ ∃ k, k < n + 1 ∧ (bcS R t n (nfold (bcS R t) n (-2, 0))).1 = iN k ∧ (bcS R t n (nfold (bcS R t) n (-2, 0))).2 = fJoy R t (iN k))
    rw [← e]
    obtain ⟨p, hp⟩ : ∃ p, nfold (bcS R t) n (-2, 0) = p := ⟨_, rfl⟩
    rw [hp] at i ⊢
    unfold bcS brS
    by_cases w : fWhyM R t (iN n) = 0
    · rw [if_neg (fun z => (why_0 R t (iN n)).mp z w)]
      rcases i with i | ⟨k, hk, i1, i2⟩
      · rw [if_pos ⟨w, Or.inl i⟩, i, if_pos (by decide)]
        exact ⟨rfl, Or.inr ⟨n, by omega, rfl, rfl⟩⟩
      · have h0 : ¬ p.1 < 0 := by
          rw [i1]
          intro z
          exact absurd ((iN_lt (m := 0) (by omega) (by decide)).mp z) (by omega)
        have h2 : ¬ p.1 = -2 := by rw [i1]; exact iN_ne (by omega)
        rw [if_neg h0]
        by_cases q : p.2 < fJoy R t (iN n)
        · rw [if_pos ⟨w, Or.inr q⟩, if_pos (by rw [i1, ← i2]; exact q)]
          exact ⟨rfl, Or.inr ⟨n, by omega, rfl, rfl⟩⟩
        · rw [if_neg (fun z => z.2.elim h2 q), if_neg (by rw [i1, ← i2]; exact q)]
          exact ⟨rfl, Or.inr ⟨k, by omega, i1, i2⟩⟩
    · rw [if_neg (fun z => w z.1), if_pos ((why_0 R t (iN n)).mpr w)]
      refine ⟨rfl, ?_⟩
      rcases i with i | ⟨k, hk, i1, i2⟩
      · exact Or.inl i
      · exact Or.inr ⟨k, by omega, i1, i2⟩
theorem agr_bs {R S : gW} (h3 : b3R R) (h0 : 2 ≤ S 0 ∧ S 0 ≤ 10) (h : agr R S) (t : Int32) : (if isT R t then fBs R t.toNatClampNeg else -1) = (if isT S t then rBs S t.toNatClampNeg else -1) := by
  by_cases q : isT R t
  · have ht := isT_nn h3 q
    obtain ⟨m, m1, m2, m3⟩ := row_n h0
    rw [if_pos q, if_pos ((agr_isT h t).mp q)]
    unfold fBs rBs
    rw [h.1 0 (by decide), (bst_e R _ _ (by omega)).1]
    refine nfold_congr (fun k s hk => ?_)
    unfold brS
    rw [agr_WhyM h ht, agr_Joy h ht, agr_Joy h ht]
  · rw [if_neg q, if_neg (fun z => q ((agr_isT h t).mpr z))]
theorem cSx_e {B : Nat} {σ : gS} (g : GR B σ) (w : Int32) : cSx σ w = aSt (σ 324) w := by
  have s := cCo_ok (p := 32) (q := 6) (by omega) g.1
  obtain ⟨e1, e2, -, -⟩ := cSt_ok (d := 99) s g.2.1.1 g.2.1.2.1
  unfold cSx aSt
  rw [e1, agr_Ja e2.1, agr_Gr e2.1]
theorem pr_at {n : Nat} {σ : gS} {Q : Int32 → gS → Prop} {x : Int32} (h : GI n σ) (k : Pr n σ 231 [some (.ref 323), some (.int x)] Q) : gXi 126 [some (.ref 0), some (.int x)] σ Q := by
  have h' := h
  obtain ⟨B, b1, b2, g, tb⟩ := h'
  obtain ⟨hc, hF⟩ := GR_SC g
  obtain ⟨rs, rt, rz, h0, rF, rT, nG⟩ := GR_rf g
  exact s126 hc ⟨_, rfl, k _ σ (Sc_r σ) (fun Q2 h2 => s231 rs ⟨_, congrArg (fun v => some (Value.int v)) (agr_at g.1.1 x).symm, h2 σ (GI_up h) (Sc_r σ)⟩)⟩
theorem pr_why {n : Nat} {σ : gS} {Q : Int32 → gS → Prop} {a b x : Int32} (h : GI n σ) (k : Pr n σ 240 [some (.ref 323), some (.int a), some (.int b), some (.int x)] Q) : gXi 130 [some (.ref 0), some (.int a), some (.int b), some (.int x)] σ Q := by
  have h' := h
  obtain ⟨B, b1, b2, g, tb⟩ := h'
  obtain ⟨hc, hF⟩ := GR_SC g
  obtain ⟨rs, rt, rz, h0, rF, rT, nG⟩ := GR_rf g
  exact s130 hc ⟨_, rfl, k _ σ (Sc_r σ) (fun Q2 h2 => s240 rs ⟨_, congrArg (fun v => some (Value.int v)) (agr_wy hc.1.1 g.1.1 a b x).symm, h2 σ (GI_up h) (Sc_r σ)⟩)⟩
theorem pr_whyMove {n : Nat} {σ : gS} {Q : Int32 → gS → Prop} {t x : Int32} (h : GI n σ) (k : Pr n σ 241 [some (.ref 323), some (.int t), some (.int x)] Q) : gXi 131 [some (.ref 0), some (.int t), some (.int x)] σ Q := by
  have h' := h
  obtain ⟨B, b1, b2, g, tb⟩ := h'
  obtain ⟨hc, hF⟩ := GR_SC g
  obtain ⟨rs, rt, rz, h0, rF, rT, nG⟩ := GR_rf g
  exact s131 hc ⟨_, rfl, k _ σ (Sc_r σ) (fun Q2 h2 => s241 rs ⟨_, congrArg (fun v => some (Value.int v)) (agr_wm hc.1.1 g.1.1 t x).symm, h2 σ (GI_up h) (Sc_r σ)⟩)⟩
theorem pr_joyAt {n : Nat} {σ : gS} {Q : Int32 → gS → Prop} {t x : Int32} (h : GI n σ) (k : Pr n σ 242 [some (.ref 323), some (.int t), some (.int x)] Q) : gXi 132 [some (.ref 0), some (.int t), some (.int x)] σ Q := by
  have h' := h
  obtain ⟨B, b1, b2, g, tb⟩ := h'
  obtain ⟨hc, hF⟩ := GR_SC g
  obtain ⟨rs, rt, rz, h0, rF, rT, nG⟩ := GR_rf g
  exact s132 hc ⟨_, rfl, k _ σ (Sc_r σ) (fun Q2 h2 => s242 rs ⟨_, congrArg (fun v => some (Value.int v)) (agr_ja hc.1.1 g.1.1 t x).symm, h2 σ (GI_up h) (Sc_r σ)⟩)⟩
theorem pr_ifSwapped {n : Nat} {σ : gS} {Q : Int32 → gS → Prop} {a b w : Int32} (h : GI n σ) (k : Pr n σ 243 [some (.ref 323), some (.int a), some (.int b), some (.int w)] Q) : gXi 133 [some (.ref 0), some (.int a), some (.int b), some (.int w)] σ Q := by
  have h' := h
  obtain ⟨B, b1, b2, g, tb⟩ := h'
  obtain ⟨hc, hF⟩ := GR_SC g
  obtain ⟨rs, rt, rz, h0, rF, rT, nG⟩ := GR_rf g
  exact s133 hc ⟨_, rfl, k _ σ (Sc_r σ) (fun Q2 h2 => s243 rs ⟨_, congrArg (fun v => some (Value.int v)) (agr_is hc.1.1 g.1.1 a b w).symm, h2 σ (GI_up h) (Sc_r σ)⟩)⟩
theorem pr_leastPrice {n : Nat} {σ : gS} {Q : Int32 → gS → Prop} {a b : Int32} (h : GI n σ) (k : Pr n σ 244 [some (.ref 323), some (.int a), some (.int b), none] Q) : gXi 134 [some (.ref 0), some (.int a), some (.int b), none] σ Q := by
  have h' := h
  obtain ⟨B, b1, b2, g, tb⟩ := h'
  obtain ⟨hc, hF⟩ := GR_SC g
  obtain ⟨rs, rt, rz, h0, rF, rT, nG⟩ := GR_rf g
  exact s134 hc ⟨_, rfl, k _ σ (Sc_r σ) (fun Q2 h2 => s244 rs ⟨_, congrArg (fun v => some (Value.int v)) (agr_le hc.1.1 g.1.1 a b).symm, h2 σ (GI_up h) (Sc_r σ)⟩)⟩
theorem pr_ifFirst {n : Nat} {σ : gS} {Q : Int32 → gS → Prop} {x : Int32} (h : GI n σ) (k : Pr n σ 249 [some (.ref 323), some (.int x)] Q) : gXi 139 [some (.ref 0), some (.int x)] σ Q := by
  have h' := h
  obtain ⟨B, b1, b2, g, tb⟩ := h'
  obtain ⟨hc, hF⟩ := GR_SC g
  obtain ⟨rs, rt, rz, h0, rF, rT, nG⟩ := GR_rf g
  exact s139 hc ⟨_, rfl, k _ σ (Sc_r σ) (fun Q2 h2 => s249 rs ⟨_, congrArg (fun v => some (Value.int v)) (agr_if g.1.1 x).symm, h2 σ (GI_up h) (Sc_r σ)⟩)⟩
theorem pr_of {n : Nat} {σ : gS} {Q : Int32 → gS → Prop} {t w : Int32} (h : GI n σ) (k : Pr n σ 229 [some (.ref 323), some (.int t), some (.int w), none] Q) : gXi 124 [some (.ref 0), some (.int t), some (.int w), none] σ Q := by
  have h' := h
  obtain ⟨B, b1, b2, g, tb⟩ := h'
  obtain ⟨hc, hF⟩ := GR_SC g
  obtain ⟨rs, rt, rz, h0, rF, rT, nG⟩ := GR_rf g
  exact s124 hc ⟨_, rfl, k _ σ (Sc_r σ) (fun Q2 h2 => s229 rs ⟨_, congrArg (fun v => some (Value.int v)) ((agr_of hc.1.1 g.1.1 t w (fun q => (cRel_kin hc.1 (isT_nn hc.1.1 q) (TC_seat hc.1 _ (isT_nn hc.1.1 q))).trans (by rw [agr_kin g.1.1 (isT_nn hc.1.1 q), g.1.1.2 _ (isT_nn hc.1.1 q) 0 (by decide)])))).symm, h2 σ (GI_up h) (Sc_r σ)⟩)⟩
theorem pr_ranked {n : Nat} {σ : gS} {Q : Int32 → gS → Prop} {x : Int32} (h : GI n σ) (k : Pr n σ 239 [some (.ref 323), some (.int x), none] Q) : gXi 129 [some (.ref 0), some (.int x)] σ Q := by
  have h' := h
  obtain ⟨B, b1, b2, g, tb⟩ := h'
  obtain ⟨hc, hF⟩ := GR_SC g
  obtain ⟨rs, rt, rz, h0, rF, rT, nG⟩ := GR_rf g
  exact s129 hc ⟨_, rfl, k _ σ (Sc_r σ) (fun Q2 h2 => s239 rs ⟨_, congrArg (fun v => some (Value.int v)) (agr_rk g.1.1 x).symm, h2 σ (GI_up h) (Sc_r σ)⟩)⟩
theorem pr_partner {n : Nat} {σ : gS} {Q : Int32 → gS → Prop} {t : Int32} (h : GI n σ) (k : Pr n σ 246 [some (.ref 323), some (.int t), none, none, none, none] Q) : gXi 136 [some (.ref 0), some (.int t)] σ Q := by
  have h' := h
  obtain ⟨B, b1, b2, g, tb⟩ := h'
  obtain ⟨hc, hF⟩ := GR_SC g
  obtain ⟨rs, rt, rz, h0, rF, rT, nG⟩ := GR_rf g
  exact s136 hc ⟨_, rfl, k _ σ (Sc_r σ) (fun Q2 h2 => s246 rs ⟨_, congrArg (fun v => some (Value.int v)) (agr_pa hc.1.1 g.1.1 t).symm, h2 σ (GI_up h) (Sc_r σ)⟩)⟩
theorem pr_rings {n : Nat} {σ : gS} {Q : Int32 → gS → Prop} (h : GI n σ) (k : Pr n σ 247 [some (.ref 323), none, none, none, none] Q) : gXi 137 [some (.ref 0)] σ Q := by
  have h' := h
  obtain ⟨B, b1, b2, g, tb⟩ := h'
  obtain ⟨hc, hF⟩ := GR_SC g
  obtain ⟨rs, rt, rz, h0, rF, rT, nG⟩ := GR_rf g
  exact s137 ⟨hc, hF⟩ ⟨_, rfl, k _ σ (Sc_r σ) (fun Q2 h2 => s247 rs ⟨_, congrArg (fun v => some (Value.int v)) (agr_Ri g.1.1).symm, h2 σ (GI_up h) (Sc_r σ)⟩)⟩
theorem pr_log {n : Nat} {σ : gS} {Q : Int32 → gS → Prop} {i c : Int32} (h : GI n σ) (k : Pr n σ 250 [some (.ref 323), some (.int i), some (.int c)] Q) : gXi 140 [some (.ref 0), some (.int i), some (.int c)] σ Q := by
  have h' := h
  obtain ⟨B, b1, b2, g, tb⟩ := h'
  obtain ⟨hc, hF⟩ := GR_SC g
  obtain ⟨rs, rt, rz, h0, rF, rT, nG⟩ := GR_rf g
  exact s140 hc ⟨_, rfl, k _ σ (Sc_r σ) (fun Q2 h2 => s250 rs ⟨_, congrArg (fun v => some (Value.int v)) (LR_log g.1.2.2.1 i c).symm, h2 σ (GI_up h) (Sc_r σ)⟩)⟩
theorem pr_value {n : Nat} {σ : gS} {Q : Int32 → gS → Prop} {w : Int32} (h : GI n σ) (k : Pr n σ 227 [some (.ref 323), some (.int w)] Q) : gXi 123 [some (.ref 0), some (.int w)] σ Q := by
  have h' := h
  obtain ⟨B, b1, b2, g, tb⟩ := h'
  obtain ⟨hc, hF⟩ := GR_SC g
  obtain ⟨rs, rt, rz, h0, rF, rT, nG⟩ := GR_rf g
  exact s123 hc ⟨_, rfl, k _ σ (Sc_r σ) (fun Q2 h2 => s227 rs ⟨_, congrArg (fun v => some (Value.int v)) (agr_vl g.1.1 (fun k hk => cFm_e hc.1 g.1.1 hk) g.1.2.2.1.2.1 g.2.2.1.1.2.1 w).symm, h2 σ (GI_up h) (Sc_r σ)⟩)⟩
theorem pr_table {n : Nat} {σ : gS} {Q : Int32 → gS → Prop} {b w : Int32} (h : GI n σ) (k : Pr n σ 235 [some (.ref 323), some (.int b), some (.int w), none, none, none, none, none] Q) : gXi 127 [some (.ref 0), some (.int b), some (.int w)] σ Q := by
  have h' := h
  obtain ⟨B, b1, b2, g, tb⟩ := h'
  obtain ⟨hc, hF⟩ := GR_SC g
  obtain ⟨rs, rt, rz, h0, rF, rT, nG⟩ := GR_rf g
  exact s127 hc ⟨_, rfl, k _ σ (Sc_r σ) (fun Q2 h2 => s235 rs ⟨_, congrArg (fun v => some (Value.int v)) ((agr_tb hc.2.2.2 g.1.1 b w (fun a ha eb k hk => by rw [eb, cMa_of ha hk, hc.1.2.2 a ha k hk, mem_agr g.1.1]))).symm, h2 σ (GI_up h) (Sc_r σ)⟩)⟩
theorem pr_bestSeat {n : Nat} {σ : gS} {Q : Int32 → gS → Prop} {t : Int32} (h : GI n σ) (k : Pr n σ 245 [some (.ref 323), some (.int t), none, none] Q) : gXi 135 [some (.ref 0), some (.int t)] σ Q := by
  have h' := h
  obtain ⟨B, b1, b2, g, tb⟩ := h'
  obtain ⟨hc, hF⟩ := GR_SC g
  obtain ⟨rs, rt, rz, h0, rF, rT, nG⟩ := GR_rf g
  exact s135 hc ⟨_, rfl, k _ σ (Sc_r σ) (fun Q2 h2 => s245 ⟨rs, h0⟩ ⟨_, congrArg (fun v => some (Value.int v)) (agr_bs hc.1.1 h0 g.1.1 t).symm, h2 σ (GI_up h) (Sc_r σ)⟩)⟩
theorem pr_planLength {n : Nat} {σ : gS} {Q : Int32 → gS → Prop} (h : GI n σ) (k : Pr n σ 257 [some (.ref 323)] Q) : gXi 143 [some (.ref 0)] σ Q := by
  have h' := h
  obtain ⟨B, b1, b2, g, tb⟩ := h'
  obtain ⟨hc, hF⟩ := GR_SC g
  obtain ⟨rs, rt, rz, h0, rF, rT, nG⟩ := GR_rf g
  refine s143 ⟨_, rfl, k _ σ (Sc_r σ) (fun Q2 h2 => x257 rs.1.1 h0 nG (fun τ hw => ?_))⟩
  obtain ⟨i1, i2⟩ := GI_wf h hw
  rw [← g.1.1.1 0 (by decide)]
  exact h2 τ (GI_up i1) i2
theorem pr_ifSettled {n : Nat} {σ : gS} {Q : Int32 → gS → Prop} {w : Int32} (h : GI n σ) (k : Pr n σ 248 [some (.ref 323), some (.int w), none] Q) : gXi 138 [some (.ref 0), some (.int w), none] σ Q := by
  have h' := h
  obtain ⟨B, b1, b2, g, tb⟩ := h'
  obtain ⟨hc, hF⟩ := GR_SC g
  obtain ⟨rs, rt, rz, h0, rF, rT, nG⟩ := GR_rf g
  have ht := (GR_dr g.1).1
  have hi : ∀ q, q < 32 ∨ 58 ≤ q → clX σ w q = σ q := fun q hq => clX_hi hc ht hq
  have g1 : GR B (clX σ w) := GR_scr g (fun q q1 _ => hi q q1) (by rw [hi 326 (by decide)]; exact rz.2.2)
  obtain ⟨rs1, rt1, rz1, -⟩ := GR_rf g1
  have b3 := g1.2.2.2.2.2.2.1.1.1
  have e : aSt (clX σ w 324) w = cSx σ w := by rw [hi 324 (by decide), cSx_e g w]
  refine s138 ⟨hc, ht⟩ ⟨_, rfl, k _ (clX σ w) ⟨hi _ (by decide), hi _ (by decide)⟩ (fun Q2 h2 => s248 ⟨rs1, rz1⟩ ⟨_, congrArg (fun v => some (Value.int v)) e, h2 _ ⟨B, b1, by omega, ?_, ?_⟩ ⟨?_, ?_⟩⟩)⟩
  · refine GR_scr g1 (fun q q1 q2 => hSx_ne q2) ?_
    rw [hSx_e]
    split
    · rw [grow_at]
      exact fSt_z b3 rz1.1
    · exact rz1.2.2
  · exact TB_of tb (by rw [hSx_ne (by decide), hi 323 (by decide)]) (by rw [hSx_ne (by decide), hi 330 (by decide)])
  · rw [hSx_ne (by decide), hi _ (by decide)]
  · rw [hSx_ne (by decide), hi _ (by decide)]
