/-! THE CLASS: its calls, ring, set -/
/-- bounds of what a joy is made of -/
abbrev bF (R : gW) : Prop := ∀ t, t < nM R → ((-9 ≤ fld R t 3 ∧ fld R t 3 ≤ 9) ∧ (-9 ≤ fld R t 4 ∧ fld R t 4 ≤ 9) ∧ (0 ≤ fld R t 5 ∧ fld R t 5 ≤ 9) ∧ (0 ≤ fld R t 6 ∧ fld R t 6 ≤ 3))
theorem i4 {x : Int32} (h : 0 ≤ x ∧ x < 40) : 0 ≤ x / 4 ∧ x / 4 ≤ 9 := by
  obtain ⟨e, l⟩ := iN_of h.1
  have l2 : x.toNatClampNeg < 40 := by
    have h2 := h.2
    rw [e] at h2
    exact (iN_lt (m := 40) l (by decide)).mp h2
  rw [e, show (4 : Int32) = iN 4 from rfl, iN_div (by omega) (by decide)]
  exact ⟨(iN_le (k := 0) (by decide) (by omega)).mpr (by omega), (iN_le (m := 9) (by omega) (by decide)).mpr (by omega)⟩
theorem kin_b {R : gW} (h : 0 ≤ R 3 ∧ R 3 ≤ 20) (t : Nat) (b : Int32) : 0 ≤ kin R t b ∧ kin R t b ≤ 20 := by
  have hn := (nM_of h).2
  have hc := cnt_le (kinP R t b) (nM R)
  unfold kin
  exact ⟨(iN_le (k := 0) (by decide) (by omega)).mpr (by omega), (iN_le (m := 20) (by omega) (by decide)).mpr (by omega)⟩
theorem joy_ar {k w a r p y : Int32} {A B : Prop} [Decidable A] [Decidable B] (k1 : 0 ≤ k) (k2 : k ≤ 20) (w1 : -9 ≤ w) (w2 : w ≤ 9) (a1 : -9 ≤ a) (a2 : a ≤ 9) (r1 : 0 ≤ r) (r2 : r ≤ 9) (p1 : 0 ≤ p) (p2 : p ≤ 3) (x1 : 0 ≤ y) (x2 : y ≤ 9) : -100 ≤ 4 * k + (if A then w else 0) + (if B then a else 0) - p * (if y - r < 0 then -(y - r) else y - r) ∧ 4 * k + (if A then w else 0) + (if B then a else 0) - p * (if y - r < 0 then -(y - r) else y - r) ≤ 100 := by
  have hp : p = 0 ∨ p = 1 ∨ p = 2 ∨ p = 3 := by grind
  obtain ⟨d, hd, d1, d2⟩ : ∃ d, (if y - r < 0 then -(y - r) else y - r) = d ∧ 0 ≤ d ∧ d ≤ 9 := by
    refine ⟨_, rfl, ?_, ?_⟩ <;> grind
  obtain ⟨u, hu, u1, u2⟩ : ∃ u, (if A then w else 0) = u ∧ -9 ≤ u ∧ u ≤ 9 := by
    refine ⟨_, rfl, ?_, ?_⟩ <;> grind
  obtain ⟨v, hv, v1, v2⟩ : ∃ v, (if B then a else 0) = v ∧ -9 ≤ v ∧ v ≤ 9 := by
    refine ⟨_, rfl, ?_, ?_⟩ <;> grind
  rw [hd, hu, hv]
  rcases hp with h | h | h | h <;> rw [h] <;> grind
theorem fJoy_b {R : gW} {t : Nat} {x : Int32} (h : 0 ≤ R 3 ∧ R 3 ≤ 20) (hb : bF R) (ht : t < nM R) (hx : 0 ≤ x ∧ x < 40) : -100 ≤ fJoy R t x ∧ fJoy R t x ≤ 100 := by
  have q := hb t ht
  have k := kin_b h t (x / 8)
  have y := i4 hx
  exact joy_ar k.1 k.2 q.1.1 q.1.2 q.2.1.1 q.2.1.2 q.2.2.1.1 q.2.2.1.2 q.2.2.2.1 q.2.2.2.2 y.1 y.2
theorem fJo_b {R : gW} {t : Nat} (h : 0 ≤ R 3 ∧ R 3 ≤ 20) (hT : bT R) (hb : bF R) (ht : t < nM R) : -100 ≤ fJo R t ∧ fJo R t ≤ 100 := fJoy_b h hb ht (hT t ht).2.1
theorem lt_sub {a b : Int32} (ha : -100 ≤ a ∧ a ≤ 100) (hb : -100 ≤ b ∧ b ≤ 100) : a < b ↔ a - b < 0 := by grind
theorem bF_rtu {R : gW} {a b c : Nat} (hd : a ≠ b ∧ b ≠ c ∧ a ≠ c) (h : bF R) : bF (rtu R a b c) := by
  intro t ht
  rw [nM_rtu hd] at ht
  rw [fld_rtu hd _ _ (by decide), fld_rtu hd _ _ (by decide), fld_rtu hd _ _ (by decide), fld_rtu hd _ _ (by decide), if_neg (by decide), if_neg (by decide), if_neg (by decide), if_neg (by decide)]
  exact h t ht
theorem bF_rsw {R : gW} {a b : Nat} (h : bF R) : bF (rsw R a b) := by
  intro t ht
  rw [nM_rsw] at ht
  rw [fld_rsw _ _ _ _ _ (by decide), fld_rsw _ _ _ _ _ (by decide), fld_rsw _ _ _ _ _ (by decide), fld_rsw _ _ _ _ _ (by decide), if_neg (by decide), if_neg (by decide), if_neg (by decide), if_neg (by decide)]
  exact h t ht
set_option maxRecDepth 20000 in
theorem w92 {σ : gS} {K : gK} {a b c : Int32} (h : (0 ≤ b ∧ b < 20) ∧ gTv (6 + 2 + b.toNatClampNeg) ∧ (0 ≤ a ∧ a < 20) ∧ (((bI (fMay (cR σ 6) a.toNatClampNeg (σ (6 + 2 + b.toNatClampNeg) 1))) = 0 → K (some (.int 1)) σ) ∧ (¬ (bI (fMay (cR σ 6) a.toNatClampNeg (σ (6 + 2 + b.toNatClampNeg) 1))) = 0 → (0 ≤ c ∧ c < 20) ∧ gTv (6 + 2 + c.toNatClampNeg) ∧ (0 ≤ b ∧ b < 20) ∧ (((bI (fMay (cR σ 6) b.toNatClampNeg (σ (6 + 2 + c.toNatClampNeg) 1))) = 0 → K (some (.int 1)) σ) ∧ (¬ (bI (fMay (cR σ 6) b.toNatClampNeg (σ (6 + 2 + c.toNatClampNeg) 1))) = 0 → (0 ≤ a ∧ a < 20) ∧ gTv (6 + 2 + a.toNatClampNeg) ∧ (0 ≤ c ∧ c < 20) ∧ ((¬ (bI (fMay (cR σ 6) c.toNatClampNeg (σ (6 + 2 + a.toNatClampNeg) 1))) = 0 → gE 92 50 [some (.ref 6), some (.int a), some (.int b), some (.int c), none, none, none, none] [] σ K) ∧ ((bI (fMay (cR σ 6) c.toNatClampNeg (σ (6 + 2 + a.toNatClampNeg) 1))) = 0 → K (some (.int 1)) σ))))))) : gE 92 0 [some (.ref 6), some (.int a), some (.int b), some (.int c), none, none, none, none] [] σ K :=
  gw_run (cy := 92) (cuts := [50, 78, 113]) (inl := []) (pf := gpcv) gpcv_ok 400 (by decide) h
set_option maxRecDepth 20000 in
theorem c92_50 {σ : gS} {K : gK} {l1 l2 l3 : Int32} (h : (((0 ≤ l1 ∧ l1 < 20) ∧ l1.toNatClampNeg < nM (cR σ 6)) ∧ TC σ 6) ∧ (((0 ≤ l2 ∧ l2 < 20) ∧ l2.toNatClampNeg < nM (cR σ 6)) ∧ TC σ 6) ∧ (((0 ≤ l3 ∧ l3 < 20) ∧ l3.toNatClampNeg < nM (cR σ 6)) ∧ TC σ 6) ∧ ((0 ≤ l1 ∧ l1 < 20) ∧ (0 ≤ l2 ∧ l2 < 20) ∧ (0 ≤ l3 ∧ l3 < 20)) ∧ gE 92 78 [some (.ref 6), some (.int l1), some (.int l2), some (.int l3), some (.int (fJo (cR σ 6) l1.toNatClampNeg)), some (.int (fJo (cR σ 6) l2.toNatClampNeg)), some (.int (fJo (cR σ 6) l3.toNatClampNeg)), none] [] (cPas σ 6 l1.toNatClampNeg l2.toNatClampNeg l3.toNatClampNeg) K) : gE 92 50 [some (.ref 6), some (.int l1), some (.int l2), some (.int l3), none, none, none, none] [] σ K :=
  gw_run (cy := 92) (cuts := [50, 78, 113]) (inl := []) (pf := gpcv) gpcv_ok 400 (by decide) h
set_option maxRecDepth 20000 in
theorem c92_78 {σ : gS} {K : gK} {l1 l2 l3 l4 l5 l6 : Int32} (h : (((0 ≤ l1 ∧ l1 < 20) ∧ l1.toNatClampNeg < nM (cR σ 6)) ∧ TC σ 6) ∧ (((fJo (cR σ 6) l1.toNatClampNeg) < l4 → gE 92 113 [some (.ref 6), some (.int l1), some (.int l2), some (.int l3), some (.int l4), some (.int l5), some (.int l6), none] [.int 1] σ K) ∧ (¬ (fJo (cR σ 6) l1.toNatClampNeg) < l4 → (((0 ≤ l2 ∧ l2 < 20) ∧ l2.toNatClampNeg < nM (cR σ 6)) ∧ TC σ 6) ∧ (((fJo (cR σ 6) l2.toNatClampNeg) < l5 → gE 92 113 [some (.ref 6), some (.int l1), some (.int l2), some (.int l3), some (.int l4), some (.int l5), some (.int l6), none] [.int 1] σ K) ∧ (¬ (fJo (cR σ 6) l2.toNatClampNeg) < l5 → (((0 ≤ l3 ∧ l3 < 20) ∧ l3.toNatClampNeg < nM (cR σ 6)) ∧ TC σ 6) ∧ ((¬ (fJo (cR σ 6) l3.toNatClampNeg) < l6 → gE 92 113 [some (.ref 6), some (.int l1), some (.int l2), some (.int l3), some (.int l4), some (.int l5), some (.int l6), none] [.int 0] σ K) ∧ ((fJo (cR σ 6) l3.toNatClampNeg) < l6 → gE 92 113 [some (.ref 6), some (.int l1), some (.int l2), some (.int l3), some (.int l4), some (.int l5), some (.int l6), none] [.int 1] σ K))))))) : gE 92 78 [some (.ref 6), some (.int l1), some (.int l2), some (.int l3), some (.int l4), some (.int l5), some (.int l6), none] [] σ K :=
  gw_run (cy := 92) (cuts := [50, 78, 113]) (inl := []) (pf := gpcv) gpcv_ok 400 (by decide) h
set_option maxRecDepth 20000 in
theorem c92_113 {σ : gS} {K : gK} {l1 l2 l3 l4 l5 l6 k0 : Int32} (h : ((0 ≤ l3 ∧ l3 < 20) ∧ (0 ≤ l2 ∧ l2 < 20) ∧ (0 ≤ l1 ∧ l1 < 20)) ∧ ((k0 = 0 → K (some (.int 0)) (cPas σ 6 l3.toNatClampNeg l2.toNatClampNeg l1.toNatClampNeg)) ∧ (¬ k0 = 0 → K (some (.int 6)) (cPas σ 6 l3.toNatClampNeg l2.toNatClampNeg l1.toNatClampNeg)))) : gE 92 113 [some (.ref 6), some (.int l1), some (.int l2), some (.int l3), some (.int l4), some (.int l5), some (.int l6), none] [.int k0] σ K :=
  gw_run (cy := 92) (cuts := [50, 78, 113]) (inl := []) (pf := gpcv) gpcv_ok 400 (by decide) h
theorem s92 {σ : gS} {K : gK} {a b c : Int32} (hc : (isN σ 6 a ∧ isN σ 6 b ∧ isN σ 6 c) ∧ (a.toNatClampNeg ≠ b.toNatClampNeg ∧ b.toNatClampNeg ≠ c.toNatClampNeg ∧ a.toNatClampNeg ≠ c.toNatClampNeg) ∧ TC σ 6 ∧ bF (cR σ 6)) (hK : K (some (.int (fWhyR (cR σ 6) a.toNatClampNeg b.toNatClampNeg c.toNatClampNeg))) σ) : gE 92 0 [some (.ref 6), some (.int a), some (.int b), some (.int c), none, none, none, none] [] σ K := by
  obtain ⟨⟨ha, hb, hcc⟩, hd, hT, hF⟩ := hc
  obtain ⟨r1, t1, f1⟩ := cPas_ok hT ha.2 hb.2 hcc.2 hd
  obtain ⟨τ, hτ⟩ : ∃ τ, cPas σ 6 a.toNatClampNeg b.toNatClampNeg c.toNatClampNeg = τ := ⟨_, rfl⟩
  have hbk := cPas_bk hT ha.2 hb.2 hcc.2 hd
  rw [hτ] at r1 t1 hbk
  have c1 : isN τ 6 a := ⟨ha.1, by rw [r1, nM_rtu hd]; exact ha.2⟩
  have c2 : isN τ 6 b := ⟨hb.1, by rw [r1, nM_rtu hd]; exact hb.2⟩
  have c3 : isN τ 6 c := ⟨hcc.1, by rw [r1, nM_rtu hd]; exact hcc.2⟩
  have tva := tv_6 _ (n20 ha.1)
  have tvb := tv_6 _ (n20 hb.1)
  have tvc := tv_6 _ (n20 hcc.1)
  have ea := cR_f (σ := σ) (p := 6) (t := a.toNatClampNeg) (f := 0) (n20 ha.1) (by decide)
  have eb := cR_f (σ := σ) (p := 6) (t := b.toNatClampNeg) (f := 0) (n20 hb.1) (by decide)
  have ec := cR_f (σ := σ) (p := 6) (t := c.toNatClampNeg) (f := 0) (n20 hcc.1) (by decide)
  have hF2 : bF (cR τ 6) := by rw [r1]; exact bF_rtu hd hF
  have ba := lt_sub (fJo_b t1.1 t1.2.1 hF2 c1.2) (fJo_b hT.1 hT.2.1 hF ha.2)
  have bb := lt_sub (fJo_b t1.1 t1.2.1 hF2 c2.2) (fJo_b hT.1 hT.2.1 hF hb.2)
  have bc := lt_sub (fJo_b t1.1 t1.2.1 hF2 c3.2) (fJo_b hT.1 hT.2.1 hF hcc.2)
  have e3 : fWhyR (cR σ 6) a.toNatClampNeg b.toNatClampNeg c.toNatClampNeg = if ¬ fMay (cR σ 6) a.toNatClampNeg (σ (6 + 2 + b.toNatClampNeg) 1) ∨ ¬ fMay (cR σ 6) b.toNatClampNeg (σ (6 + 2 + c.toNatClampNeg) 1) ∨ ¬ fMay (cR σ 6) c.toNatClampNeg (σ (6 + 2 + a.toNatClampNeg) 1) then 1 else if fJo (cR τ 6) a.toNatClampNeg - fJo (cR σ 6) a.toNatClampNeg < 0 then 6 else if fJo (cR τ 6) b.toNatClampNeg - fJo (cR σ 6) b.toNatClampNeg < 0 then 6 else if fJo (cR τ 6) c.toNatClampNeg - fJo (cR σ 6) c.toNatClampNeg < 0 then 6 else 0 := by
    unfold fWhyR fRR
    rw [ea, eb, ec, r1]
  rw [e3] at hK
  have na := ha.1
  have nb := hb.1
  have nc := hcc.1
  have back : ∀ k0 l4 l5 l6 : Int32, (k0 = 0 → K (some (.int 0)) σ) → (¬ k0 = 0 → K (some (.int 6)) σ) → gE 92 113 [some (.ref 6), some (.int a), some (.int b), some (.int c), some (.int l4), some (.int l5), some (.int l6), none] [.int k0] τ K := by
    intro k0 l4 l5 l6 q1 q2
    refine c92_113 ⟨⟨nc, nb, na⟩, ?_⟩
    rw [hbk]
    exact ⟨q1, q2⟩
  have main : (fMay (cR σ 6) a.toNatClampNeg (σ (6 + 2 + b.toNatClampNeg) 1) ∧ fMay (cR σ 6) b.toNatClampNeg (σ (6 + 2 + c.toNatClampNeg) 1) ∧ fMay (cR σ 6) c.toNatClampNeg (σ (6 + 2 + a.toNatClampNeg) 1)) → gE 92 50 [some (.ref 6), some (.int a), some (.int b), some (.int c), none, none, none, none] [] σ K := by
    intro q
    rw [if_neg (by intro e; rcases e with e | e | e; exact e q.1; exact e q.2.1; exact e q.2.2)] at hK
    refine c92_50 ⟨⟨ha, hT⟩, ⟨hb, hT⟩, ⟨hcc, hT⟩, ⟨na, nb, nc⟩, ?_⟩
    rw [hτ]
    refine c92_78 ⟨⟨c1, t1⟩, fun h => back _ _ _ _ (fun e => absurd e (by decide)) (fun _ => ?_), fun h => ⟨⟨c2, t1⟩, fun h2 => back _ _ _ _ (fun e => absurd e (by decide)) (fun _ => ?_), fun h2 => ⟨⟨c3, t1⟩, fun h3 => back _ _ _ _ (fun _ => ?_) (fun e => absurd rfl e), fun h3 => back _ _ _ _ (fun e => absurd e (by decide)) (fun _ => ?_)⟩⟩⟩
    · rw [if_pos (ba.mp h)] at hK; exact hK
    · rw [if_neg (fun e => h (ba.mpr e)), if_pos (bb.mp h2)] at hK; exact hK
    · rw [if_neg (fun e => h (ba.mpr e)), if_neg (fun e => h2 (bb.mpr e)), if_neg (fun e => h3 (bc.mpr e))] at hK; exact hK
    · rw [if_neg (fun e => h (ba.mpr e)), if_neg (fun e => h2 (bb.mpr e)), if_pos (bc.mp h3)] at hK; exact hK
  refine w92 ?_
  simp only [bI_0]
  grind
noncomputable def f92 : gD := fun Lv σ => match Lv with
  | [some (.ref q0), some (.int a), some (.int b), some (.int c), none, none, none, none] => cond (Nat.beq q0 6) (some (some ((isN σ 6 a ∧ isN σ 6 b ∧ isN σ 6 c) ∧ (a.toNatClampNeg ≠ b.toNatClampNeg ∧ b.toNatClampNeg ≠ c.toNatClampNeg ∧ a.toNatClampNeg ≠ c.toNatClampNeg) ∧ TC σ 6 ∧ bF (cR σ 6)), some (.int (fWhyR (cR σ 6) a.toNatClampNeg b.toNatClampNeg c.toNatClampNeg)), σ)) none
  | _ => none
theorem ok92 : gFok 92 f92 := by
  intro Lv σ q h hc K hK
  unfold f92 at h
  split at h
  · rename_i q0 a b c
    obtain ⟨hb, h⟩ := c_no h
    have hb0 := hb
    have e0 := b_eq hb0
    subst e0
    cases h
    exact s92 (hc _ rfl) hK
  · cases h
set_option maxRecDepth 20000 in
theorem w54 {σ : gS} {K : gK} {w n : Int32} (h : ((0 : Int) + 5 = 4 + 1 ∧ ((w = 0 → ((bI (((-9) : Int32) ≤ n ∧ n ≤ (9 : Int32))) = 0 ∨ (bI (((-9) : Int32) ≤ n ∧ n ≤ (9 : Int32))) = 1) ∧ K (some (.int (bI (((-9) : Int32) ≤ n ∧ n ≤ (9 : Int32))))) σ) ∧ (¬ w = 0 → ((w = 1 → ((bI (((-9) : Int32) ≤ n ∧ n ≤ (9 : Int32))) = 0 ∨ (bI (((-9) : Int32) ≤ n ∧ n ≤ (9 : Int32))) = 1) ∧ K (some (.int (bI (((-9) : Int32) ≤ n ∧ n ≤ (9 : Int32))))) σ) ∧ (¬ w = 1 → ((w = 2 → ((bI ((0 : Int32) ≤ n ∧ n ≤ ((σ 6 4) - 1))) = 0 ∨ (bI ((0 : Int32) ≤ n ∧ n ≤ ((σ 6 4) - 1))) = 1) ∧ K (some (.int (bI ((0 : Int32) ≤ n ∧ n ≤ ((σ 6 4) - 1))))) σ) ∧ (¬ w = 2 → ((w = 3 → ((bI ((0 : Int32) ≤ n ∧ n ≤ (3 : Int32))) = 0 ∨ (bI ((0 : Int32) ≤ n ∧ n ≤ (3 : Int32))) = 1) ∧ K (some (.int (bI ((0 : Int32) ≤ n ∧ n ≤ (3 : Int32))))) σ) ∧ (¬ w = 3 → ((w = 4 → ((bI ((0 : Int32) ≤ n ∧ n ≤ (1 : Int32))) = 0 ∨ (bI ((0 : Int32) ≤ n ∧ n ≤ (1 : Int32))) = 1) ∧ K (some (.int (bI ((0 : Int32) ≤ n ∧ n ≤ (1 : Int32))))) σ) ∧ (¬ w = 4 → ((0 : Int32) = 0 ∨ (0 : Int32) = 1) ∧ K (some (.int 0)) σ)))))))))))) : gE 54 0 [some (.ref 6), some (.int w), some (.int n)] [] σ K :=
  gw_run (cy := 54) (cuts := []) (inl := []) (pf := gpcv) gpcv_ok 400 (by decide) h
theorem s54 {σ : gS} {K : gK} {w n : Int32} (hK : K (some (.int (bI (inR (cR σ 6) w n)))) σ) : gE 54 0 [some (.ref 6), some (.int w), some (.int n)] [] σ K := by
  have h01 : ∀ (p : Prop) [Decidable p], bI p = 0 ∨ bI p = 1 := fun p _ => bI_01
  have key : ∀ (p : Prop) [Decidable p], (p ↔ inR (cR σ 6) w n) → K (some (.int (bI p))) σ := by
    intro p _ h
    have e : bI p = bI (inR (cR σ 6) w n) := by
      by_cases q : p
      · rw [bI_t q, bI_t (h.mp q)]
      · rw [bI_f q, bI_f (fun e => q (h.mpr e))]
    rw [e]; exact hK
  have e4 := cR_0 σ 6
  refine w54 ⟨by decide, fun h => ⟨h01 _, key _ ?_⟩, fun h0 => ⟨fun h => ⟨h01 _, key _ ?_⟩, fun h1 => ⟨fun h => ⟨h01 _, key _ ?_⟩, fun h2 => ⟨fun h => ⟨h01 _, key _ ?_⟩, fun h3 => ⟨fun h => ⟨h01 _, key _ ?_⟩, fun h4 => ⟨by decide, ?_⟩⟩⟩⟩⟩⟩
  · subst h; exact ⟨fun q => Or.inl ⟨Or.inl rfl, q⟩, fun q => by rcases q with q | q | q | q <;> first | exact q.2 | exact absurd q.1 (by decide)⟩
  · subst h; exact ⟨fun q => Or.inl ⟨Or.inr rfl, q⟩, fun q => by rcases q with q | q | q | q <;> first | exact q.2 | exact absurd q.1 (by decide)⟩
  · subst h; rw [← e4]; exact ⟨fun q => Or.inr (Or.inl ⟨rfl, q⟩), fun q => by rcases q with q | q | q | q <;> first | exact absurd q.1 (by decide) | exact q.2⟩
  · subst h; exact ⟨fun q => Or.inr (Or.inr (Or.inl ⟨rfl, q⟩)), fun q => by rcases q with q | q | q | q <;> first | exact absurd q.1 (by decide) | exact q.2⟩
  · subst h; exact ⟨fun q => Or.inr (Or.inr (Or.inr ⟨rfl, q⟩)), fun q => by rcases q with q | q | q | q <;> first | exact absurd q.1 (by decide) | exact q.2⟩
  · have e : bI (inR (cR σ 6) w n) = 0 := bI_f (fun q => by rcases q with q | q | q | q <;> first | exact h4 q.1 | exact h3 q.1 | exact h2 q.1 | exact q.1.elim h0 h1)
    rw [e] at hK; exact hK
noncomputable def f54 : gD := fun Lv σ => match Lv with
  | [some (.ref q0), some (.int w), some (.int n)] => cond (Nat.beq q0 6) (some (none, some (.int (bI (inR (cR σ 6) w n))), σ)) none
  | _ => none
theorem ok54 : gFok 54 f54 := by
  intro Lv σ q h hc K hK
  unfold f54 at h
  split at h
  · rename_i q0 w n
    obtain ⟨hb, h⟩ := c_no h
    have hb0 := hb
    have e0 := b_eq hb0
    subst e0
    cases h
    exact s54 hK
  · cases h
set_option maxRecDepth 20000 in
theorem w104 {σ : gS} {K : gK} {w : Int32} {a : Nat} (h : ((0 : Int) + 4 = 3 + 1 ∧ ((w = 0 → gTv a ∧ K (some (.int (σ a 4))) σ) ∧ (¬ w = 0 → ((w = 1 → gTv a ∧ K (some (.int (σ a 5))) σ) ∧ (¬ w = 1 → ((w = 2 → gTv a ∧ K (some (.int (σ a 6))) σ) ∧ (¬ w = 2 → ((w = 3 → gTv a ∧ K (some (.int (σ a 7))) σ) ∧ (¬ w = 3 → gTv a ∧ K (some (.int (σ a 2))) σ)))))))))) : gE 104 0 [some (.ref a), some (.int w)] [] σ K :=
  gw_run (cy := 104) (cuts := []) (inl := []) (pf := gpcv) gpcv_ok 400 (by decide) h
theorem s104 {σ : gS} {K : gK} {a : Nat} {w : Int32} (hc : gTv a ∧ (w = 0 ∨ w = 1 ∨ w = 2 ∨ w = 3 ∨ w = 4)) (hK : K (some (.int (σ a (fof w + 1)))) σ) : gE 104 0 [some (.ref a), some (.int w)] [] σ K := by
  obtain ⟨ha, hw⟩ := hc
  refine w104 ?_
  rcases hw with rfl | rfl | rfl | rfl | rfl <;> simp (decide := true) <;> exact ⟨ha, hK⟩
noncomputable def f104 : gD := fun Lv σ => match Lv with
  | [some (.ref a), some (.int w)] => some (some (gTv a ∧ (w = 0 ∨ w = 1 ∨ w = 2 ∨ w = 3 ∨ w = 4)), some (.int (σ a (fof w + 1))), σ)
  | _ => none
theorem ok104 : gFok 104 f104 := by
  intro Lv σ q h hc K hK
  unfold f104 at h
  split at h
  · rename_i a w
    cases h
    exact s104 (hc _ rfl) hK
  · cases h
set_option maxRecDepth 20000 in
theorem w105 {σ : gS} {K : gK} {w v : Int32} {a : Nat} (h : ((0 : Int) + 4 = 3 + 1 ∧ ((w = 0 → gTv a ∧ K none (gup σ a 4 v)) ∧ (¬ w = 0 → ((w = 1 → gTv a ∧ K none (gup σ a 5 v)) ∧ (¬ w = 1 → ((w = 2 → gTv a ∧ K none (gup σ a 6 v)) ∧ (¬ w = 2 → ((w = 3 → gTv a ∧ K none (gup σ a 7 v)) ∧ (¬ w = 3 → gTv a ∧ K none (gup σ a 2 v))))))))))) : gE 105 0 [some (.ref a), some (.int w), some (.int v)] [] σ K :=
  gw_run (cy := 105) (cuts := []) (inl := []) (pf := gpcv) gpcv_ok 400 (by decide) h
theorem s105 {σ : gS} {K : gK} {a : Nat} {w v : Int32} (hc : gTv a ∧ (w = 0 ∨ w = 1 ∨ w = 2 ∨ w = 3 ∨ w = 4)) (hK : K none (gup σ a (fof w + 1) v)) : gE 105 0 [some (.ref a), some (.int w), some (.int v)] [] σ K := by
  obtain ⟨ha, hw⟩ := hc
  refine w105 ?_
  rcases hw with rfl | rfl | rfl | rfl | rfl <;> simp (decide := true) <;> exact ⟨ha, hK⟩
noncomputable def f105 : gD := fun Lv σ => match Lv with
  | [some (.ref a), some (.int w), some (.int v)] => some (some (gTv a ∧ (w = 0 ∨ w = 1 ∨ w = 2 ∨ w = 3 ∨ w = 4)), none, gup σ a (fof w + 1) v)
  | _ => none
theorem ok105 : gFok 105 f105 := by
  intro Lv σ q h hc K hK
  unfold f105 at h
  split at h
  · rename_i a w v
    cases h
    exact s105 (hc _ rfl) hK
  · cases h
