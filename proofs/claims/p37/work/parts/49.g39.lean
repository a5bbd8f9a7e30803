section
-- text 39
/-! THE CLASS: settling -/
def csS (R : gW) (a j : Nat) (s : Int32 × Int32 × Int32) : Int32 × Int32 × Int32 := if fWhy R a (a + 1 + j) 0 = 0 ∧ s.1 < fJa (rsw R a (a + 1 + j)) then (fJa (rsw R a (a + 1 + j)), iN a, iN (a + 1 + j)) else s
def csR (R : gW) (a : Nat) (s : Int32 × Int32 × Int32) : Int32 × Int32 × Int32 := nfold (csS R a) (nM R - (a + 1)) s
def cBst (R : gW) : Int32 × Int32 × Int32 := nfold (csR R) (nM R) (fJa R, -2, -2)
/-- nothing found, or two travellers -/
def csOk (n : Nat) (s : Int32 × Int32 × Int32) : Prop := s.2.1 = -2 ∨ ∃ a b, a < b ∧ b < n ∧ s.2.1 = iN a ∧ s.2.2 = iN b
theorem nfold_ok {α : Type} {P : α → Prop} {f : Nat → α → α} {n : Nat} {s : α} (h0 : P s) (h : ∀ k, k < n → ∀ s, P s → P (f k s)) : P (nfold f n s) := by
  induction n with
  | zero => exact h0
  | succ n ih => exact h n (by omega) _ (ih (fun k hk => h k (by omega)))
theorem cBst_c (R : gW) : csOk (nM R) (cBst R) := by
  refine nfold_ok (Or.inl rfl) (fun a ha s hs => nfold_ok hs (fun j hj s hs => ?_))
  unfold csS
  split
  · exact Or.inr ⟨a, a + 1 + j, by omega, by omega, rfl, rfl⟩
  · exact hs
/-- the best exchange is done -/
def cOnce (σ : gS) : gS := if (cBst (cR σ 32)).2.1 = -2 then σ else cExS σ 32 (cBst (cR σ 32)).2.1.toNatClampNeg (cBst (cR σ 32)).2.2.toNatClampNeg
set_option maxRecDepth 20000 in
theorem w98_32 {σ : gS} {K : gK} (h : (TC σ 32) ∧ gE 98 14 [some (.ref 32), some (.int (fJa (cR σ 32))), some (.int (-2)), some (.int (-2)), some (.int 0), none, none] [] σ K) : gE 98 0 [some (.ref 32), none, none, none, none, none, none] [] σ K :=
  gw_run (cy := 98) (cuts := [14, 29, 102]) (inl := []) (pf := gpcx) gpcx_ok 400 (by decide) h
set_option maxRecDepth 20000 in
theorem v98_a {σ : gS} {K : gK} {g x y a : Int32} {u1 u2 : Option Value} (h : ((¬ a < (σ 32 7) → gE 98 102 [some (.ref 32), some (.int g), some (.int x), some (.int y), some (.int a), u1, u2] [] σ K) ∧ (a < (σ 32 7) → gE 98 29 [some (.ref 32), some (.int g), some (.int x), some (.int y), some (.int a), some (.int (a + 1)), u2] [] σ K))) : gE 98 14 [some (.ref 32), some (.int g), some (.int x), some (.int y), some (.int a), u1, u2] [] σ K :=
  gw_run (cy := 98) (cuts := [14, 29, 102]) (inl := []) (pf := gpcx) gpcx_ok 400 (by decide) h
set_option maxRecDepth 20000 in
theorem v98_b {σ : gS} {K : gK} {g x y a b : Int32} {u2 : Option Value} (h : ((¬ b < (σ 32 7) → gE 98 14 [some (.ref 32), some (.int g), some (.int x), some (.int y), some (.int (a + 1)), some (.int b), u2] [] σ K) ∧ (b < (σ 32 7) → (isN σ 32 a ∧ isN σ 32 b ∧ TC σ 32) ∧ (((fWhy (cR σ 32) a.toNatClampNeg b.toNatClampNeg (0 : Int32)) = 0 → ((0 ≤ a ∧ a < 20) ∧ (0 ≤ b ∧ b < 20)) ∧ (TC (cExS σ 32 a.toNatClampNeg b.toNatClampNeg) 32) ∧ ((0 ≤ a ∧ a < 20) ∧ (0 ≤ b ∧ b < 20)) ∧ ((¬ g < (fJa (cR (cExS σ 32 a.toNatClampNeg b.toNatClampNeg) 32)) → gE 98 29 [some (.ref 32), some (.int g), some (.int x), some (.int y), some (.int a), some (.int (b + 1)), some (.int (fJa (cR (cExS σ 32 a.toNatClampNeg b.toNatClampNeg) 32)))] [] (cExS (cExS σ 32 a.toNatClampNeg b.toNatClampNeg) 32 a.toNatClampNeg b.toNatClampNeg) K) ∧ (g < (fJa (cR (cExS σ 32 a.toNatClampNeg b.toNatClampNeg) 32)) → gE 98 29 [some (.ref 32), some (.int (fJa (cR (cExS σ 32 a.toNatClampNeg b.toNatClampNeg) 32))), some (.int a), some (.int b), some (.int a), some (.int (b + 1)), some (.int (fJa (cR (cExS σ 32 a.toNatClampNeg b.toNatClampNeg) 32)))] [] (cExS (cExS σ 32 a.toNatClampNeg b.toNatClampNeg) 32 a.toNatClampNeg b.toNatClampNeg) K))) ∧ (¬ (fWhy (cR σ 32) a.toNatClampNeg b.toNatClampNeg (0 : Int32)) = 0 → gE 98 29 [some (.ref 32), some (.int g), some (.int x), some (.int y), some (.int a), some (.int (b + 1)), u2] [] σ K))))) : gE 98 29 [some (.ref 32), some (.int g), some (.int x), some (.int y), some (.int a), some (.int b), u2] [] σ K :=
  gw_run (cy := 98) (cuts := [14, 29, 102]) (inl := []) (pf := gpcx) gpcx_ok 400 (by decide) h
set_option maxRecDepth 20000 in
theorem v98_c {σ : gS} {K : gK} {g x y a : Int32} {u1 u2 : Option Value} (h : ((¬ x = (-2) → ((0 ≤ x ∧ x < 20) ∧ (0 ≤ y ∧ y < 20)) ∧ ((1 : Int32) = 0 ∨ (1 : Int32) = 1) ∧ K (some (.int 1)) (cExS σ 32 x.toNatClampNeg y.toNatClampNeg)) ∧ (x = (-2) → ((0 : Int32) = 0 ∨ (0 : Int32) = 1) ∧ K (some (.int 0)) σ))) : gE 98 102 [some (.ref 32), some (.int g), some (.int x), some (.int y), some (.int a), u1, u2] [] σ K :=
  gw_run (cy := 98) (cuts := [14, 29, 102]) (inl := []) (pf := gpcx) gpcx_ok 400 (by decide) h
theorem s98 {σ : gS} {K : gK} (hc : TC σ 32) (hK : K (some (.int (bI (¬ (cBst (cR σ 32)).2.1 = -2)))) (cOnce σ)) : gE 98 0 [some (.ref 32), none, none, none, none, none, none] [] σ K := by
  obtain ⟨R, hR⟩ : ∃ R, cR σ 32 = R := ⟨_, rfl⟩
  have h3 : 0 ≤ R 3 ∧ R 3 ≤ 20 := by rw [← hR]; exact hc.1
  have hn := (nM_of h3).2
  have h7 : σ 32 7 = R 3 := by rw [← hR, cR_3]
  have inN : ∀ k, k < nM R → isN σ 32 (iN k) := fun k hk => ⟨b20 (by omega), by rw [iN_nat (by omega), hR]; exact hk⟩
  have inner : ∀ (a : Nat) (s : Int32 × Int32 × Int32) (u : Option Value), a < nM R → (∀ u1 u2, gE 98 14 [some (.ref 32), some (.int (csR R a s).1), some (.int (csR R a s).2.1), some (.int (csR R a s).2.2), some (.int (iN (a + 1))), u1, u2] [] σ K) → gE 98 29 [some (.ref 32), some (.int s.1), some (.int s.2.1), some (.int s.2.2), some (.int (iN a)), some (.int (iN (a + 1))), u] [] σ K := by
    intro a s u ha hout
    refine g_forJ (nM R - (a + 1)) (fun k u => [some (.ref 32), some (.int (nfold (csS R a) k s).1), some (.int (nfold (csS R a) k s).2.1), some (.int (nfold (csS R a) k s).2.2), some (.int (iN a)), some (.int (iN (a + 1 + k))), u]) (fun _ => σ) (fun _ => True) (fun _ u => ?_) (fun k hk _ ih u => ?_) 0 (Nat.zero_le _) trivial u
    · refine v98_b ⟨fun _ => ?_, fun h => ?_⟩
      · rw [iN_one]
        exact hout _ _
      · rw [h7, nM_lt h3 (by omega)] at h; omega
    · have ih := ih trivial
      have e : nfold (csS R a) (k + 1) s = csS R a k (nfold (csS R a) k s) := rfl
      rw [e] at ih
      generalize nfold (csS R a) k s = s at ih ⊢
      unfold csS at ih
      have na : (iN a).toNatClampNeg = a := iN_nat (by omega)
      have nb : (iN (a + 1 + k)).toNatClampNeg = a + 1 + k := iN_nat (by omega)
      have ia := inN a ha
      have ib := inN (a + 1 + k) (by omega)
      have la : a < nM (cR σ 32) := by rw [hR]; exact ha
      have lb : a + 1 + k < nM (cR σ 32) := by rw [hR]; omega
      obtain ⟨r1, t1, f1⟩ := cExS_ok hc la lb
      refine v98_b ⟨fun h => ?_, fun _ => ⟨⟨ia, ib, hc⟩, fun h => ⟨⟨ia.1, ib.1⟩, ?_, ⟨ia.1, ib.1⟩, fun h2 => ?_, fun h2 => ?_⟩, fun h => ?_⟩⟩
      · rw [h7, nM_lt h3 (by omega)] at h; omega
      · rw [na, nb]; exact t1
      · rw [na, nb, r1, hR] at h2
        rw [if_neg (fun q => h2 q.2)] at ih
        rw [na, nb, iN_one, r1, hR, cExS_bk hc la lb]
        exact ih _
      · rw [na, nb, r1, hR] at h2
        rw [hR, na, nb] at h
        rw [if_pos ⟨h, h2⟩] at ih
        rw [na, nb, iN_one, r1, hR, cExS_bk hc la lb]
        exact ih _
      · rw [hR, na, nb] at h
        rw [if_neg (fun q => h q.1)] at ih
        rw [iN_one]
        exact ih _
  unfold cOnce at hK
  rw [hR] at hK
  have hB := cBst_c R
  unfold cBst at hK hB
  refine w98_32 ⟨hc, ?_⟩
  rw [hR]
  refine g_forJ (J := Option Value × Option Value) (nM R) (fun k u => [some (.ref 32), some (.int (nfold (csR R) k (fJa R, -2, -2)).1), some (.int (nfold (csR R) k (fJa R, -2, -2)).2.1), some (.int (nfold (csR R) k (fJa R, -2, -2)).2.2), some (.int (iN k)), u.1, u.2]) (fun _ => σ) (fun _ => True) (fun _ u => ?_) (fun k hk _ ih u => ?_) 0 (Nat.zero_le _) trivial (none, none)
  · refine v98_a ⟨fun _ => ?_, fun h => ?_⟩
    · generalize nfold (csR R) (nM R) (fJa R, -2, -2) = s at hB hK ⊢
      refine v98_c ⟨fun h => ?_, fun h => ?_⟩
      · rw [if_neg h, show bI (¬ s.2.1 = -2) = 1 from if_pos h] at hK
        rcases hB with e | ⟨a, b, hab, hb, ea, eb⟩
        · exact absurd e h
        · exact ⟨⟨by rw [ea]; exact b20 (by omega), by rw [eb]; exact b20 (by omega)⟩, Or.inr rfl, hK⟩
      · rw [if_pos h, show bI (¬ s.2.1 = -2) = 0 from if_neg (fun q => q h)] at hK
        exact ⟨Or.inl rfl, hK⟩
    · rw [h7, nM_lt h3 (by omega)] at h; omega
  · refine v98_a ⟨fun h => ?_, fun _ => ?_⟩
    · rw [h7, nM_lt h3 (by omega)] at h; omega
    · rw [iN_one]
      exact inner k _ _ hk (fun u1 u2 => ih trivial (u1, u2))
noncomputable def f98 : gD := fun Lv σ => match Lv with
  | [some (.ref q0), none, none, none, none, none, none] => cond (Nat.beq q0 32) (some (some (TC σ 32), some (.int (bI (¬ (cBst (cR σ 32)).2.1 = -2))), cOnce σ)) none
  | _ => none
theorem ok98 : gFok 98 f98 := by
  intro Lv σ q h hc K hK
  unfold f98 at h
  split at h
  · rename_i q0
    obtain ⟨hb, h⟩ := c_no h
    have hb0 := hb
    have e0 := b_eq hb0
    subst e0
    cases h
    exact s98 (hc _ rfl) hK
  · cases h
noncomputable def gpcy_l : List (Nat × gD) := (98, f98) :: gpcx_l
noncomputable def gpcy : gP := gpl0 gpcy_l
theorem gpcy_ok : gPok gpcy := gpl0_cons ok98 (gpcx_ok)
-- text 40
/-! THE CLASS: settling is the reference's -/
abbrev bW (R : gW) : Prop := ∀ t, t < nM R → 0 ≤ fld R t 7
theorem bW_rsw {R : gW} {a b : Nat} (h : bW R) : bW (rsw R a b) := by
  intro t ht
  rw [nM_rsw] at ht
  rw [fld_rsw _ _ _ _ _ (by decide), if_neg (by decide)]
  exact h t ht
theorem sm_ar {n s f : Int32} (hn : 0 ≤ n ∧ n < 20) (h1 : -(100 * n) ≤ s) (h2 : s ≤ 100 * n) (h3 : -100 ≤ f) (h4 : f ≤ 100) : -(100 * (n + 1)) ≤ s + f ∧ s + f ≤ 100 * (n + 1) := by
  have := hn.1
  have := hn.2
  constructor <;> grind
theorem sm_b {f : Nat → Int32} : ∀ {n : Nat}, n ≤ 20 → (∀ t, t < n → -100 ≤ f t ∧ f t ≤ 100) → -(100 * iN n) ≤ sm f n ∧ sm f n ≤ 100 * iN n
  | 0, _, _ => ⟨show -(100 * (0 : Int32)) ≤ 0 from by decide, show (0 : Int32) ≤ 100 * 0 from by decide⟩
  | n + 1, hn, h => by
    have ih := sm_b (f := f) (n := n) (by omega) (fun t ht => h t (by omega))
    have hf := h n (by omega)
    have k := sm_ar (b20 (k := n) (by omega)) ih.1 ih.2 hf.1 hf.2
    rw [iN_one] at k
    exact k
theorem fJa_b {R : gW} (h : 0 ≤ R 3 ∧ R 3 ≤ 20) (hT : bT R) (hF : bF R) : -2000 ≤ fJa R ∧ fJa R ≤ 2000 := by
  have hn := (nM_of h).2
  have k := sm_b (f := fJo R) hn (fun t ht => fJo_b h hT hF ht)
  have l : iN (nM R) ≤ 20 := (iN_le (m := 20) (by omega) (by decide)).mpr (by omega)
  have l0 : 0 ≤ iN (nM R) := (iN_le (k := 0) (by decide) (by omega)).mpr (by omega)
  unfold fJa
  have := k.1; have := k.2
  grind
theorem bT_rsw {R : gW} {a b : Nat} (ha : a < nM R) (hb : b < nM R) (h : bT R) : bT (rsw R a b) := by
  intro t ht
  rw [nM_rsw] at ht
  rw [fld_rsw _ _ _ _ _ (by decide), fld_rsw _ _ _ _ _ (by decide), fld_rsw _ _ _ _ _ (by decide)]
  have q1 := h a ha
  have q2 := h b hb
  have q3 := h t ht
  grind
theorem fWhy_sym {R : gW} {a b : Nat} (h : bW R) (ha : a < nM R) (hb : b < nM R) : fWhy R a b 0 = 0 → fWhy R b a 0 = 0 := by
  have h1 := h a ha
  have h2 := h b hb
  unfold fWhy fRise
  rw [rsw_cm R b a]
  grind
theorem fRA_sym (R : gW) (a b : Nat) : fRA R a b = fRA R b a := by
  unfold fRA
  rw [rsw_cm R b a]
theorem best_ar {J J' g m : Int32} (h1 : -2000 ≤ J ∧ J ≤ 2000) (h2 : -2000 ≤ J' ∧ J' ≤ 2000) (hm : 0 ≤ m ∧ m ≤ 4000) (e : g = J + m) : (g < J' ↔ ¬ J' - J ≤ m) ∧ J' = J + (J' - J) ∧ J' - J ≤ 4000 := by
  subst e
  grind
/-- the reference's and the class's best so far -/
def bRel (R : gW) (s : Int32 × Int32 × Int32) (t : Int32 × Int32) : Prop := s.1 = fJa R + t.2 ∧ (0 ≤ t.2 ∧ t.2 ≤ 4000) ∧ ((s.2.1 = -2 ∧ t.1 = -2) ∨ ∃ a b, a < b ∧ b < nM R ∧ s.2.1 = iN a ∧ s.2.2 = iN b ∧ t.1 = 100 * iN a + iN b)
/-- a pair that can't better the best -/
def bSee (R : gW) (t : Int32 × Int32) (a b : Nat) : Prop := a = b ∨ 0 < fWhy R a b 0 ∨ fRA R a b ≤ t.2
theorem bsS_see {R : gW} {t : Int32 × Int32} {a b : Nat} (h : bSee R t a b) : bsS R a b t = t := by
  unfold bsS
  unfold bSee at h
  grind
theorem bsS_mono {R : gW} {t : Int32 × Int32} {a b c d : Nat} (h : bSee R t c d) : bSee R (bsS R a b t) c d := by
  unfold bsS
  unfold bSee at h ⊢
  grind
theorem bsS_new {R : gW} {t : Int32 × Int32} {a b : Nat} : bSee R (bsS R a b t) a b := by
  unfold bsS bSee
  grind
theorem bSee_sym {R : gW} {t : Int32 × Int32} {a b : Nat} (h : bW R) (ha : a < nM R) (hb : b < nM R) (hs : bSee R t a b) : bSee R t b a := by
  unfold bSee at hs ⊢
  rw [fRA_sym R b a]
  rcases hs with q | q | q
  · exact Or.inl q.symm
  · refine Or.inr (Or.inl ?_)
    rcases fWhy_c (R := R) (a := b) (b := a) (x := 0) with q2 | q2
    · rw [fWhy_sym h hb ha q2] at q; exact absurd q (by decide)
    · exact q2
  · exact Or.inr (Or.inr q)
theorem bsN_mono {R : gW} {t : Int32 × Int32} {a c d : Nat} (h : bSee R t c d) : ∀ {n : Nat}, bSee R (nfold (bsS R a) n t) c d
  | 0 => h
  | n + 1 => bsS_mono (bsN_mono h)
theorem bsN_new {R : gW} {t : Int32 × Int32} {a : Nat} : ∀ {n b : Nat}, b < n → bSee R (nfold (bsS R a) n t) a b
  | 0, _, h => absurd h (Nat.not_lt_zero _)
  | n + 1, b, h => by
    by_cases e : b = n
    · subst e; exact bsS_new
    · exact bsS_mono (bsN_new (by omega))
theorem bsN_low {R : gW} {t : Int32 × Int32} {a : Nat} (h : ∀ b, b < a → bSee R t a b) : ∀ {n : Nat}, n ≤ a + 1 → nfold (bsS R a) n t = t
  | 0, _ => rfl
  | n + 1, hn => by
    show bsS R a n (nfold (bsS R a) n t) = t
    rw [bsN_low h (by omega)]
    refine bsS_see ?_
    by_cases e : n = a
    · exact Or.inl e.symm
    · exact h n (by omega)
theorem bRel_step {R : gW} {s : Int32 × Int32 × Int32} {t : Int32 × Int32} {a j : Nat} (h3 : 0 ≤ R 3 ∧ R 3 ≤ 20) (hT : bT R) (hF : bF R) (hj : a + 1 + j < nM R) (h : bRel R s t) : bRel R (csS R a j s) (bsS R a (a + 1 + j) t) := by
  obtain ⟨e, hm, hp⟩ := h
  have k1 := fJa_b h3 hT hF
  have k2 : -2000 ≤ fJa (rsw R a (a + 1 + j)) ∧ fJa (rsw R a (a + 1 + j)) ≤ 2000 := fJa_b (by rw [rsw_3]; exact h3) (bT_rsw (by omega) hj hT) (bF_rsw hF)
  obtain ⟨a1, a2, a3⟩ := best_ar k1 k2 hm e
  have hne : a ≠ a + 1 + j := by omega
  unfold csS bsS
  by_cases hw : fWhy R a (a + 1 + j) 0 = 0
  · have nw : ¬ 0 < fWhy R a (a + 1 + j) 0 := by rw [hw]; decide
    by_cases hl : fRA R a (a + 1 + j) ≤ t.2
    · rw [if_neg (fun q => (a1.mp q.2) hl), if_neg (fun q => q.elim hne nw), if_pos hl]
      exact ⟨e, hm, hp⟩
    · rw [if_pos ⟨hw, a1.mpr hl⟩, if_neg (fun q => q.elim hne nw), if_neg hl]
      refine ⟨a2, ⟨?_, a3⟩, Or.inr ⟨a, a + 1 + j, by omega, hj, rfl, rfl, rfl⟩⟩
      have := hm.1
      grind
  · have yw : 0 < fWhy R a (a + 1 + j) 0 := (fWhy_c).resolve_left hw
    rw [if_neg (fun q => hw q.1), if_pos (Or.inr yw)]
    exact ⟨e, hm, hp⟩
theorem bRel_row {R : gW} {s : Int32 × Int32 × Int32} {t : Int32 × Int32} {a : Nat} (h3 : 0 ≤ R 3 ∧ R 3 ≤ 20) (hT : bT R) (hF : bF R) (ha : a < nM R) (hl : ∀ b, b < a → bSee R t a b) (h : bRel R s t) : bRel R (csR R a s) (bsR R a t) := by
  have key : ∀ j, a + 1 + j ≤ nM R → bRel R (nfold (csS R a) j s) (nfold (bsS R a) (a + 1 + j) t) := by
    intro j
    induction j with
    | zero =>
      intro _
      rw [bsN_low hl (by omega)]
      exact h
    | succ j ih =>
      intro hj
      exact bRel_step h3 hT hF (by omega) (ih (by omega))
  have k := key (nM R - (a + 1)) (by omega)
  rw [show a + 1 + (nM R - (a + 1)) = nM R from by omega] at k
  exact k
theorem bRel_all {R : gW} (h3 : 0 ≤ R 3 ∧ R 3 ≤ 20) (hT : bT R) (hF : bF R) (hW : bW R) : bRel R (cBst R) (nfold (bsR R) (nM R) (-2, 0)) := by
  have key : ∀ n, n ≤ nM R → bRel R (nfold (csR R) n (fJa R, -2, -2)) (nfold (bsR R) n (-2, 0)) ∧ ∀ a b, a < n → b < nM R → bSee R (nfold (bsR R) n (-2, 0)) a b := by
    intro n
    induction n with
    | zero =>
      intro _
      exact ⟨⟨(Int32.add_zero _).symm, show (0 : Int32) ≤ 0 ∧ (0 : Int32) ≤ 4000 from by decide, Or.inl ⟨rfl, rfl⟩⟩, fun a b h => absurd h (Nat.not_lt_zero _)⟩
    | succ n ih =>
      intro hn
      obtain ⟨i1, i2⟩ := ih (by omega)
      refine ⟨bRel_row h3 hT hF (by omega) (fun b hb => bSee_sym hW (by omega) (by omega) (i2 b n hb (by omega))) i1, fun a b ha hb => ?_⟩
      by_cases e : a = n
      · subst e; exact bsN_new hb
      · exact bsN_mono (i2 a b (by omega) hb)
  exact (key _ (Nat.le_refl _)).1
/-- the class's best exchange is the reference's -/
theorem cBst_fBest {R : gW} (h3 : 0 ≤ R 3 ∧ R 3 ≤ 20) (hT : bT R) (hF : bF R) (hW : bW R) : ((cBst R).2.1 = -2 ∧ fBest R < 0) ∨ ∃ a b, a < b ∧ b < nM R ∧ (cBst R).2.1 = iN a ∧ (cBst R).2.2 = iN b ∧ ¬ (cBst R).2.1 = -2 ∧ ¬ fBest R < 0 ∧ fNx R = rsw R a b := by
  have hn := (nM_of h3).2
  rcases (bRel_all h3 hT hF hW).2.2 with ⟨q1, q2⟩ | ⟨a, b, hab, hb, ea, eb, e⟩
  · exact Or.inl ⟨q1, by unfold fBest; rw [q2]; decide⟩
  · obtain ⟨d1, d2, d3⟩ := dm100 a (by omega) b (by omega)
    have eB : fBest R = 100 * iN a + iN b := e
    refine Or.inr ⟨a, b, hab, hb, ea, eb, ?_, by rw [eB]; exact d3, ?_⟩
    · rw [ea]
      intro q
      have := (b20 (k := a) (by omega)).1
      rw [q] at this
      exact absurd this (by decide)
    · unfold fNx
      rw [eB, d2, d1, iN_nat (by omega), iN_nat (by omega)]
end
section
-- text 41
/-! THE CLASS: settling, the call -/
/-- settled a number of times -/
def cSt : Nat → gS → Nat × gS
  | 0, σ => (0, σ)
  | d + 1, σ => if (cBst (cR σ 32)).2.1 = -2 then (0, σ) else ((cSt d (cOnce σ)).1 + 1, (cSt d (cOnce σ)).2)
theorem cSt_no {d : Nat} {σ : gS} (h : (cBst (cR σ 32)).2.1 = -2) : cSt (d + 1) σ = (0, σ) := if_pos h
theorem cSt_ye {d : Nat} {σ : gS} (h : ¬ (cBst (cR σ 32)).2.1 = -2) : cSt (d + 1) σ = ((cSt d (cOnce σ)).1 + 1, (cSt d (cOnce σ)).2) := if_neg h
theorem TC_blk {σ τ : gS} {p : Nat} (h : TC σ p) (hq : ∀ q, p ≤ q → q < p + 26 → τ q = σ q) : TC τ p := by
  obtain ⟨t1, t2, t3⟩ := h
  have e := cR_blk hq
  refine ⟨by rw [e]; exact t1, by rw [e]; exact t2, ?_⟩
  intro a ha f hf
  rw [hq (p + 23) (by omega) (by omega), e]
  exact t3 a ha f hf
theorem cOnce_tc {σ : gS} (h : TC σ 32) : TC (cOnce σ) 32 ∧ ∀ q, q < 32 ∨ 56 ≤ q → cOnce σ q = σ q := by
  unfold cOnce
  split
  · exact ⟨h, fun q _ => rfl⟩
  · rename_i hb
    have hn := (nM_of h.1).2
    rcases cBst_c (cR σ 32) with e | ⟨a, b, hab, hb2, ea, eb⟩
    · exact absurd e hb
    · rw [ea, eb, iN_nat (by omega), iN_nat (by omega)]
      obtain ⟨r1, t1, f1⟩ := cExS_ok h (show a < nM (cR σ 32) from by omega) hb2
      refine ⟨t1, fun q hq => ?_⟩
      funext i
      exact f1 q i (Or.inl (by omega)) (by omega)
theorem cSt_tc : ∀ {d : Nat} {σ : gS}, TC σ 32 → TC (cSt d σ).2 32 ∧ (cSt d σ).1 ≤ d ∧ ∀ q, q < 32 ∨ 56 ≤ q → (cSt d σ).2 q = σ q
  | 0, σ, h => ⟨h, Nat.le_refl 0, fun q _ => rfl⟩
  | d + 1, σ, h => by
    by_cases hb : (cBst (cR σ 32)).2.1 = -2
    · rw [cSt_no hb]
      exact ⟨h, Nat.zero_le _, fun q _ => rfl⟩
    · rw [cSt_ye hb]
      obtain ⟨o1, o2⟩ := cOnce_tc h
      obtain ⟨i1, i2, i3⟩ := cSt_tc (d := d) o1
      exact ⟨i1, by show (cSt d (cOnce σ)).1 + 1 ≤ d + 1; omega, fun q hq => (i3 q hq).trans (o2 q hq)⟩
theorem cOnce_ok {σ : gS} {R : gW} (h : SV σ 32 R) (hF : bF R) (hW : bW R) : ((cBst (cR σ 32)).2.1 = -2 ∧ fBest R < 0) ∨ (¬ (cBst (cR σ 32)).2.1 = -2 ∧ ¬ fBest R < 0 ∧ SV (cOnce σ) 32 (fNx R) ∧ bF (fNx R) ∧ bW (fNx R)) := by
  have ag := h.1
  have eB := agr_Best ag
  have hn := (SV_3 h).2.1
  have gF : bF (cR σ 32) := fun t ht => by
    have hR : t < nM R := by rw [← agr_n ag]; exact ht
    rw [ag.2 t ht 3 (by decide), ag.2 t ht 4 (by decide), ag.2 t ht 5 (by decide), ag.2 t ht 6 (by decide)]
    exact hF t hR
  have gW' : bW (cR σ 32) := fun t ht => by
    rw [ag.2 t ht 7 (by decide)]
    exact hW t (by rw [← agr_n ag]; exact ht)
  rcases cBst_fBest h.2.1.1 h.2.1.2.1 gF gW' with ⟨q1, q2⟩ | ⟨a, b, hab, hb, ea, eb, q1, q2, q3⟩
  · exact Or.inl ⟨q1, by rw [← eB]; exact q2⟩
  · have hb2 : b < nM R := by rw [← agr_n ag]; exact hb
    have e : fNx R = rsw R a b := by
      have e1 : ∀ S : gW, fBest S = fBest (cR σ 32) → fNx S = rsw S (fBest (cR σ 32) / 100).toNatClampNeg (fBest (cR σ 32) - fBest (cR σ 32) / 100 * 100).toNatClampNeg := fun S hS => by unfold fNx; rw [hS]
      rcases fBest_of (cR σ 32) with q | ⟨c, d, hc, hd, q⟩
      · rw [q] at q2; exact absurd (by decide) q2
      · have hn2 := (nM_of h.2.1.1).2
        obtain ⟨d1, d2, -⟩ := dm100 c (by omega) d (by omega)
        have ab := (bRel_all h.2.1.1 h.2.1.2.1 gF gW').2.2
        rcases ab with ⟨z, -⟩ | ⟨a', b', hab', hb', ea', eb', e'⟩
        · exact absurd z q1
        · have ia : a' = a := (iN_inj (by omega) (by omega)).mp (ea'.symm.trans ea)
          have ib : b' = b := (iN_inj (by omega) (by omega)).mp (eb'.symm.trans eb)
          subst ia ib
          have e2 : fBest (cR σ 32) = 100 * iN a' + iN b' := e'
          obtain ⟨x1, x2, -⟩ := dm100 a' (by omega) b' (by omega)
          rw [e1 R eB.symm, e2, x2, x1, iN_nat (by omega), iN_nat (by omega)]
    refine Or.inr ⟨q1, by rw [← eB]; exact q2, ?_, by rw [e]; exact bF_rsw hF, by rw [e]; exact bW_rsw hW⟩
    unfold cOnce
    rw [if_neg q1, ea, eb, iN_nat (by omega), iN_nat (by omega), e]
    exact SV_ex h (by omega) hb2
theorem cSt_ok : ∀ {d : Nat} {σ : gS} {R : gW}, SV σ 32 R → bF R → bW R → (cSt d σ).1 = (fSt d R).1 ∧ SV (cSt d σ).2 32 (fSt d R).2 ∧ bF (fSt d R).2 ∧ bW (fSt d R).2
  | 0, σ, R, h, hF, hW => ⟨rfl, h, hF, hW⟩
  | d + 1, σ, R, h, hF, hW => by
    rcases cOnce_ok h hF hW with ⟨q1, q2⟩ | ⟨q1, q2, q3, q4, q5⟩
    · rw [cSt_no q1, fSt_lt q2]
      exact ⟨rfl, h, hF, hW⟩
    · rw [cSt_ye q1, fSt_ge q2]
      obtain ⟨i1, i2⟩ := cSt_ok (d := d) q3 q4 q5
      exact ⟨by show _ + 1 = _ + 1; rw [i1], i2⟩
/-- the settled draft is taken -/
def cStl (x : Nat × gS) : gS := cAdd (gup (cCo (cRem x.2) 6 32) 6 8 ((cCo (cRem x.2) 6 32) 6 8 + iN x.1)) 5 (iN x.1) (fJa (cR x.2 32) - fJa (cR x.2 6))
set_option maxRecDepth 20000 in
theorem w150 {σ : gS} {K : gK} (h : (0 ≤ σ 6 7 ∧ σ 6 7 ≤ 20) ∧ gE 150 13 [some (.ref 0), some (.int 0)] [] (cCo σ 32 6) K) : gE 150 0 [some (.ref 0), none] [] σ K :=
  gw_run (cy := 150) (cuts := [13]) (inl := []) (pf := gpcy) gpcy_ok 400 (by decide) h
set_option maxRecDepth 20000 in
theorem v150 {σ : gS} {K : gK} {k : Int32} (h : ((¬ k < 99 → K (some (.int 99)) σ) ∧ (k < 99 → (TC σ 32) ∧ ((¬ (bI (¬ (cBst (cR σ 32)).2.1 = -2)) = 0 → gE 150 13 [some (.ref 0), some (.int (k + 1))] [] (cOnce σ) K) ∧ ((bI (¬ (cBst (cR σ 32)).2.1 = -2)) = 0 → K (some (.int k)) (cOnce σ)))))) : gE 150 13 [some (.ref 0), some (.int k)] [] σ K :=
  gw_run (cy := 150) (cuts := [13]) (inl := []) (pf := gpcy) gpcy_ok 400 (by decide) h
theorem s150 {σ : gS} {K : gK} (hc : (0 ≤ σ 6 7 ∧ σ 6 7 ≤ 20) ∧ TC (cCo σ 32 6) 32) (hK : K (some (.int (iN (cSt 99 (cCo σ 32 6)).1))) ((cSt 99 (cCo σ 32 6)).2)) : gE 150 0 [some (.ref 0), none] [] σ K := by
  obtain ⟨h7, hc⟩ := hc
  refine w150 ⟨h7, ?_⟩
  have key : ∀ (d : Nat) (τ : gS), d ≤ 99 → TC τ 32 → K (some (.int (iN (99 - d + (cSt d τ).1)))) (cSt d τ).2 → gE 150 13 [some (.ref 0), some (.int (iN (99 - d)))] [] τ K := by
    intro d
    induction d with
    | zero =>
      intro τ _ _ hK
      refine v150 ⟨fun _ => hK, fun h => ?_⟩
      exact absurd h (by decide)
    | succ d ih =>
      intro τ hd hT hK
      have hl : iN (99 - (d + 1)) < 99 := (iN_lt (m := 99) (by omega) (by decide)).mpr (by omega)
      refine v150 ⟨fun h => absurd hl h, fun _ => ⟨hT, ?_⟩⟩
      simp only [bI_0]
      by_cases hb : (cBst (cR τ 32)).2.1 = -2
      · rw [cSt_no hb] at hK
        have e : cOnce τ = τ := if_pos hb
        rw [e]
        exact ⟨fun h => absurd hb (Decidable.not_not.mp h), fun _ => hK⟩
      · rw [cSt_ye hb] at hK
        refine ⟨fun _ => ?_, fun h => absurd hb h⟩
        rw [iN_one, show 99 - (d + 1) + 1 = 99 - d from by omega]
        refine ih _ (by omega) (cOnce_tc hT).1 ?_
        rw [show 99 - d + (cSt d (cOnce τ)).1 = 99 - (d + 1) + ((cSt d (cOnce τ)).1 + 1) from by omega]
        exact hK
  refine key 99 _ (by omega) hc ?_
  rw [show 99 - 99 + (cSt 99 (cCo σ 32 6)).1 = (cSt 99 (cCo σ 32 6)).1 from by omega]
  exact hK
noncomputable def f150 : gD := fun Lv σ => match Lv with
  | [some (.ref q0), none] => cond (Nat.beq q0 0) (some (some ((0 ≤ σ 6 7 ∧ σ 6 7 ≤ 20) ∧ TC (cCo σ 32 6) 32), some (.int (iN (cSt 99 (cCo σ 32 6)).1)), (cSt 99 (cCo σ 32 6)).2)) none
  | _ => none
theorem ok150 : gFok 150 f150 := by
  intro Lv σ q h hc K hK
  unfold f150 at h
  split at h
  · rename_i q0
    obtain ⟨hb, h⟩ := c_no h
    have hb0 := hb
    have e0 := b_eq hb0
    subst e0
    cases h
    exact s150 (hc _ rfl) hK
  · cases h
noncomputable def gpcz_l : List (Nat × gD) := (150, f150) :: gpcy_l
noncomputable def gpcz : gP := gpl0 gpcz_l
theorem gpcz_ok : gPok gpcz := gpl0_cons ok150 (gpcy_ok)
-- text 42
/-! THE CLASS: settling, the call -/
set_option maxRecDepth 20000 in
theorem w118 {σ : gS} {K : gK} (h : ((0 ≤ σ 6 7 ∧ σ 6 7 ≤ 20) ∧ TC (cCo σ 32 6) 32) ∧ ((¬ (iN (cSt 99 (cCo σ 32 6)).1) = 0 → (TC ((cSt 99 (cCo σ 32 6)).2) 32) ∧ (TC ((cSt 99 (cCo σ 32 6)).2) 6) ∧ gE 118 28 [some (.ref 0), some (.int (iN (cSt 99 (cCo σ 32 6)).1)), some (.int ((fJa (cR ((cSt 99 (cCo σ 32 6)).2) 32)) - (fJa (cR ((cSt 99 (cCo σ 32 6)).2) 6))))] [] ((cSt 99 (cCo σ 32 6)).2) K) ∧ ((iN (cSt 99 (cCo σ 32 6)).1) = 0 → K (some (.int (-2))) ((cSt 99 (cCo σ 32 6)).2)))) : gE 118 0 [some (.ref 0), none, none] [] σ K :=
  gw_run (cy := 118) (cuts := [28, 51]) (inl := []) (pf := gpcz) gpcz_ok 400 (by decide) h
set_option maxRecDepth 20000 in
theorem c118_28 {σ : gS} {K : gK} {l1 l2 : Int32} (h : (bPa σ ∧ (0 ≤ σ 6 7 ∧ σ 6 7 ≤ 20)) ∧ (0 ≤ (cRem σ) 32 7 ∧ (cRem σ) 32 7 ≤ 20) ∧ gE 118 51 [some (.ref 0), some (.int l1), some (.int l2)] [.ref 0] (cCo (cRem σ) 6 32) K) : gE 118 28 [some (.ref 0), some (.int l1), some (.int l2)] [] σ K :=
  gw_run (cy := 118) (cuts := [28, 51]) (inl := []) (pf := gpcz) gpcz_ok 400 (by decide) h
set_option maxRecDepth 20000 in
theorem c118_51 {σ : gS} {K : gK} {l1 l2 : Int32} (h : (bLg (gup σ 6 8 ((σ 6 8) + l1)) 30) ∧ K (some (.int l1)) (cAdd (gup σ 6 8 ((σ 6 8) + l1)) (5 : Int32) l1 l2)) : gE 118 51 [some (.ref 0), some (.int l1), some (.int l2)] [.ref 0] σ K :=
  gw_run (cy := 118) (cuts := [28, 51]) (inl := []) (pf := gpcz) gpcz_ok 400 (by decide) h
theorem s118 {σ : gS} {K : gK} (hc : SC σ ∧ TC (cCo σ 32 6) 32 ∧ bLg (cCo σ 32 6) 56) (hK : K (some (.int (if (cSt 99 (cCo σ 32 6)).1 = 0 then -2 else iN (cSt 99 (cCo σ 32 6)).1))) (if (cSt 99 (cCo σ 32 6)).1 = 0 then (cSt 99 (cCo σ 32 6)).2 else cStl (cSt 99 (cCo σ 32 6)))) : gE 118 0 [some (.ref 0), none, none] [] σ K := by
  obtain ⟨hs, ht, hl⟩ := hc
  have h7 := SC_7 hs
  have n7 := (c20 h7).2
  obtain ⟨t1, l1, f1⟩ := cSt_tc (d := 99) ht
  refine w118 ⟨⟨h7, ht⟩, ?_⟩
  have fC : ∀ q, q < 32 ∨ 58 ≤ q → cCo σ 32 6 q = σ q := fun q hq => by
    funext j
    exact cCo_far (by omega) n7
  generalize cSt 99 (cCo σ 32 6) = s at t1 l1 f1 hK ⊢
  have fs : ∀ q, q < 32 ∨ 58 ≤ q → s.2 q = σ q := fun q hq => (f1 q (by omega)).trans (fC q hq)
  refine ⟨fun h => ?_, fun h => ?_⟩
  · have h0 : ¬ s.1 = 0 := fun e => h (by rw [e]; rfl)
    rw [if_neg h0, if_neg h0] at hK
    have h7' : 0 ≤ s.2 6 7 ∧ s.2 6 7 ≤ 20 := by rw [fs 6 (by decide)]; exact h7
    have h32 : 0 ≤ s.2 32 7 ∧ s.2 32 7 ≤ 20 := by have := t1.1; rw [cR_3] at this; exact this
    have er : ∀ q, q < 113 → cRem s.2 q = s.2 q := fun q hq => cRem_far (Or.inl hq) h7'
    have r32 : 0 ≤ cRem s.2 32 7 ∧ cRem s.2 32 7 ≤ 20 := by rw [er 32 (by decide)]; exact h32
    refine ⟨t1, TC_blk hs.1 (fun q q1 q2 => fs q (by omega)), c118_28 ⟨⟨?_, h7'⟩, r32, c118_51 ⟨?_, hK⟩⟩⟩
    · have := hs.2.1
      unfold bPa at this ⊢
      rw [fs 113 (by decide)]
      exact this
    · obtain ⟨g1, g2, -⟩ := cCo_lg (σ := cRem s.2) (p := 6) (q := 32) (by omega) (c20 r32).2
      rw [show 6 + 24 = 30 from rfl, show 32 + 24 = 56 from rfl, er 56 (by decide), f1 56 (by decide)] at g1 g2
      unfold bLg
      rw [gup_ne (by omega), gup_ne (by omega), g1, g2]
      exact hl
  · have h0 : s.1 = 0 := (iN_inj (k := s.1) (m := 0) (by omega) (by decide)).mp h
    rw [if_pos h0, if_pos h0] at hK
    exact hK
noncomputable def f118 : gD := fun Lv σ => match Lv with
  | [some (.ref q0), none, none] => cond (Nat.beq q0 0) (some (some (SC σ ∧ TC (cCo σ 32 6) 32 ∧ bLg (cCo σ 32 6) 56), some (.int (if (cSt 99 (cCo σ 32 6)).1 = 0 then -2 else iN (cSt 99 (cCo σ 32 6)).1)), if (cSt 99 (cCo σ 32 6)).1 = 0 then (cSt 99 (cCo σ 32 6)).2 else cStl (cSt 99 (cCo σ 32 6)))) none
  | _ => none
theorem ok118 : gFok 118 f118 := by
  intro Lv σ q h hc K hK
  unfold f118 at h
  split at h
  · rename_i q0
    obtain ⟨hb, h⟩ := c_no h
    have hb0 := hb
    have e0 := b_eq hb0
    subst e0
    cases h
    exact s118 (hc _ rfl) hK
  · cases h
noncomputable def gpda_l : List (Nat × gD) := (118, f118) :: gpcz_l
noncomputable def gpda : gP := gpl0 gpda_l
theorem gpda_ok : gPok gpda := gpl0_cons ok118 (gpcz_ok)
end
section
-- text 43
/-! THE CLASS: a traveller gets off -/
theorem cnt_del {P : Nat → Bool} {t : Nat} : ∀ {n : Nat}, t ≤ n → cnt (fun j => P (if j < t then j else j + 1)) n + (if P t = true then 1 else 0) = cnt P (n + 1)
  | n, h => by
    induction n with
    | zero =>
      have : t = 0 := by omega
      subst this
      rfl
    | succ n ih =>
      by_cases e : t = n + 1
      · subst e
        have : cnt (fun j => P (if j < n + 1 then j else j + 1)) (n + 1) = cnt P (n + 1) := cnt_congr (fun j hj => by show P (if j < n + 1 then j else j + 1) = P j; rw [if_pos hj])
        rw [this]
        rfl
      · have i := ih (by omega)
        show cnt (fun j => P (if j < t then j else j + 1)) n + (if P (if n < t then n else n + 1) = true then 1 else 0) + (if P t = true then 1 else 0) = cnt P (n + 1) + (if P (n + 1) = true then 1 else 0)
        rw [if_neg (show ¬ n < t by omega)]
        omega
/-- travellers from t on moved down -/
def cShN (σ : gS) (t : Nat) : Nat → gS
  | 0 => σ
  | k + 1 => cTv (cShN σ t k) (8 + t + k) (8 + t + k + 1)
theorem cSh_e (σ : gS) (t : Nat) : ∀ (k q i : Nat), cShN σ t k q i = if 8 + t ≤ q ∧ q < 8 + t + k ∧ i < 10 then σ (q + 1) i else σ q i
  | 0, q, i => by rw [if_neg (by omega)]; rfl
  | k + 1, q, i => by
    show (if q = 8 + t + k ∧ i < 10 then cShN σ t k (8 + t + k + 1) i else cShN σ t k q i) = _
    by_cases h : q = 8 + t + k ∧ i < 10
    · rw [if_pos h, cSh_e σ t k, if_neg (by omega), if_pos (by omega), h.1]
    · rw [if_neg h, cSh_e σ t k]
      by_cases h2 : 8 + t ≤ q ∧ q < 8 + t + k ∧ i < 10
      · rw [if_pos h2, if_pos (by omega)]
      · rw [if_neg h2, if_neg (by omega)]
/-- the core: out of the tables, out of the row -/
def cOut (σ : gS) (t n : Nat) : gS := cShN (gup (cCnt σ 6 (8 + t) (-1)) 6 7 (iN n)) t (n - t)
theorem SV_out {σ : gS} {t n : Nat} {R : gW} (h : SV σ 6 R) (hN : nM R = n + 1) (ht : t < nM R) : SV (cOut σ t n) 6 (csh (radd R 3 (-1)) (9 + 10 * t) (10 * (n - t))) := by
  obtain ⟨b3, bn, e7⟩ := SV_3 h
  obtain ⟨a1, ⟨t1, t2, t3⟩, l1, n1⟩ := h
  have eN : nM (cR σ 6) = nM R := agr_n a1
  have e3 : R 3 = iN (n + 1) := by rw [← hN]; exact (nM_of b3).1
  -- the traveller's cell
  obtain ⟨-, hs, hf⟩ := t2 t (by omega)
  have e0 := cR_f (σ := σ) (p := 6) (t := t) (f := 0) (by omega) (by decide)
  have e2 := cR_f (σ := σ) (p := 6) (t := t) (f := 2) (by omega) (by decide)
  obtain ⟨a0, ha0, ea0⟩ := i8 hs
  obtain ⟨f0, hf0, ef0⟩ := i10 hf
  have ec := cCnt_eq (σ := σ) (p := 6) (w := 8 + t) (k := -1) ha0 hf0 (by rw [← ea0, e0, show 6 + 2 + t = 8 + t from by omega]) (by rw [← ef0, e2, show 6 + 2 + t = 8 + t from by omega])
  obtain ⟨S, hS⟩ : ∃ S, csh (radd R 3 (-1)) (9 + 10 * t) (10 * (n - t)) = S := ⟨_, rfl⟩
  obtain ⟨τ, hτ⟩ : ∃ τ, cOut σ t n = τ := ⟨_, rfl⟩
  -- the heap, place by place
  have v : ∀ q i, τ q i = if 8 + t ≤ q ∧ q < 8 + n ∧ i < 10 then σ (q + 1) i else if q = 6 ∧ i = 7 then iN n else if q = 29 ∧ i = a0 * 10 + f0 then σ 29 (a0 * 10 + f0) + -1 else σ q i := by
    intro q i
    rw [← hτ]
    unfold cOut
    rw [cSh_e, ec]
    by_cases h : 8 + t ≤ q ∧ q < 8 + t + (n - t) ∧ i < 10
    · rw [if_pos h, if_pos (by omega), gup_ne (by omega), gup_ne (by omega)]
    · rw [if_neg h, if_neg (by omega)]
      rfl
  have vS : ∀ j, S j = if 9 + 10 * t ≤ j ∧ j < 9 + 10 * n then R (j + 10) else if j = 3 then iN n else R j := by
    intro j
    rw [← hS]
    unfold csh
    by_cases h : 9 + 10 * t ≤ j ∧ j < 9 + 10 * t + 10 * (n - t)
    · rw [if_pos h, if_pos (by omega), radd_ne (by omega)]
    · rw [if_neg h, if_neg (by omega)]
      by_cases h3 : j = 3
      · rw [if_pos h3, h3, radd_at, e3]
        show iN (n + 1) + -1 = iN n
        rw [← Int32.sub_eq_add_neg]
        exact iN_sub (d := 1) (by omega) (by omega)
      · rw [if_neg h3, radd_ne h3]
  rw [hτ, hS]
  have c3 : cR τ 6 3 = iN n := by rw [cR_3, v, if_neg (by omega), if_pos ⟨rfl, rfl⟩]
  have cN : nM (cR τ 6) = n := nM_iN c3 (by omega)
  have sN : nM S = n := nM_iN (by rw [vS, if_neg (by omega), if_pos rfl]) (by omega)
  -- the fields
  have fC : ∀ s, s < n → ∀ f, f < 9 → fld (cR τ 6) s f = fld (cR σ 6) (if s < t then s else s + 1) f := by
    intro s hs f hf
    rw [cR_f (σ := τ) (p := 6) (by omega) hf, v]
    by_cases q : s < t
    · rw [if_pos q, if_neg (by omega), if_neg (by omega), if_neg (by omega), cR_f (σ := σ) (p := 6) (by omega) hf]
    · rw [if_neg q, if_pos (by omega), cR_f (σ := σ) (p := 6) (by omega) hf, show 6 + 2 + s + 1 = 6 + 2 + (s + 1) from by omega]
  have fS : ∀ s, s < n → ∀ f, f < 10 → S (9 + 10 * s + f) = R (9 + 10 * (if s < t then s else s + 1) + f) := by
    intro s hs f hf
    rw [vS]
    by_cases q : s < t
    · rw [if_pos q, if_neg (by omega), if_neg (by omega)]
    · rw [if_neg q, if_pos (by omega), show 9 + 10 * s + f + 10 = 9 + 10 * (s + 1) + f from by omega]
  have lo : ∀ s, s < n → (if s < t then s else s + 1) < nM R := fun s hs => by split <;> omega
  refine ⟨⟨fun j hj => ?_, fun s hs f hf => ?_⟩, ⟨?_, ?_, ?_⟩, ?_, ?_⟩
  · have x1 : cR τ 6 j = if j = 3 then iN n else cR σ 6 j := by
      rw [cR_h hj, v, if_neg (show ¬ (8 + t ≤ 6 ∧ 6 < 8 + n ∧ j + 4 < 10) by omega)]
      by_cases q : j = 3
      · rw [if_pos ⟨rfl, by omega⟩, if_pos q]
      · rw [if_neg (show ¬ (6 = 6 ∧ j + 4 = 7) by omega), if_neg (show ¬ (6 = 29 ∧ j + 4 = a0 * 10 + f0) by omega), if_neg q, cR_h hj]
    have x2 : S j = if j = 3 then iN n else R j := by rw [vS, if_neg (by omega)]
    rw [x1, x2, a1.1 j hj]
  · rw [cN] at hs
    rw [fC s hs f hf]
    show _ = S (9 + 10 * s + f)
    rw [fS s hs f (by omega)]
    exact a1.2 _ (by rw [eN]; exact lo s hs) f hf
  · rw [c3]
    exact ⟨(iN_le (k := 0) (by decide) (by omega)).mpr (by omega), (iN_le (m := 20) (by omega) (by decide)).mpr (by omega)⟩
  · intro s hs
    rw [cN] at hs
    rw [fC s hs 0 (by decide), fC s hs 1 (by decide), fC s hs 2 (by decide)]
    exact t2 _ (by rw [eN]; exact lo s hs)
  · intro a ha g hg
    rw [show 6 + 23 = 29 from rfl, v, if_neg (by omega), if_neg (by omega)]
    have m := t3 a ha g hg
    rw [show 6 + 23 = 29 from rfl] at m
    have md : mem (cR τ 6) (iN a) (iN g) + (if memP (cR σ 6) (iN a) (iN g) t = true then 1 else 0) = mem (cR σ 6) (iN a) (iN g) := by
      unfold mem
      rw [cN, eN, hN, ← cnt_del (P := memP (cR σ 6) (iN a) (iN g)) (t := t) (n := n) (by omega)]
      congr 1
      refine cnt_congr (fun j hj => ?_)
      unfold memP
      rw [fC j hj 0 (by decide), fC j hj 2 (by decide)]
    have mp : memP (cR σ 6) (iN a) (iN g) t = true ↔ (a0 = a ∧ f0 = g) := by
      unfold memP
      rw [decide_eq_true_eq, ea0, ef0, iN_inj (by omega) (by omega), iN_inj (by omega) (by omega)]
    have ml : mem (cR σ 6) (iN a) (iN g) ≤ 20 := by
      unfold mem
      exact Nat.le_trans (cnt_le _ _) (by omega)
    by_cases q : a0 = a ∧ f0 = g
    · rw [if_pos (mp.mpr q)] at md
      obtain ⟨q1, q2⟩ := q
      subst q1 q2
      rw [if_pos ⟨rfl, rfl⟩, m, ← md, ← Int32.sub_eq_add_neg]
      exact iN_sub (d := 1) (by omega) (by omega)
    · rw [if_neg (fun x => q (mp.mp x))] at md
      rw [if_neg (by omega), m, ← md]
      rfl
  · refine LR_same (R := R) ?_ (fun j h3 h4 => by rw [vS, if_neg (by omega), if_neg (by omega)])
    obtain ⟨c1, c2, c4⟩ := l1
    unfold LR bLg
    have e1 : ∀ i, τ (6 + 24) i = σ (6 + 24) i := fun i => by rw [v, if_neg (by omega), if_neg (by omega), if_neg (by omega)]
    have e2 : ∀ i, τ (6 + 24 + 1) i = σ (6 + 24 + 1) i := fun i => by rw [v, if_neg (by omega), if_neg (by omega), if_neg (by omega)]
    simp only [e1, e2]
    exact ⟨c1, c2, c4⟩
  · intro s hs
    rw [sN] at hs
    rw [fS s hs 9 (by decide), v]
    by_cases q : s < t
    · rw [if_pos q, if_neg (by omega), if_neg (by omega), if_neg (by omega)]
      exact n1 s (by omega)
    · rw [if_neg q, if_pos (by omega), show 6 + 2 + s + 1 = 6 + 2 + (s + 1) from by omega]
      exact n1 (s + 1) (by omega)
/-- a traveller gets off -/
def cOff (σ : gS) (t : Nat) : gS := gup (cOut (cAdd σ 4 (iN t) (σ (8 + t) 1)) t ((σ 6 7).toNatClampNeg - 1)) 6 12 (σ 6 12 + 1)
theorem SV_off {σ : gS} {t : Nat} {R : gW} (h : SV σ 6 R) (ht : t < nM R) : SV (cOff σ t) 6 (fOff R t) := by
  obtain ⟨b3, bn, e7⟩ := SV_3 h
  have b9 := LR_b h.2.2.1
  have es : σ (8 + t) 1 = fld R t 0 := by
    have := h.1.2 t (by rw [agr_n h.1]; exact ht) 0 (by decide)
    rw [cR_f (σ := σ) (p := 6) (by omega) (by decide), show 6 + 2 + t = 8 + t from by omega] at this
    exact this
  have en : (σ 6 7).toNatClampNeg - 1 = nM R - 1 := by rw [e7]; rfl
  have s1 := SV_add (w := 4) (a := iN t) (b := fld R t 0) h
  have eN : nM (fTe R 4 (iN t) (fld R t 0)) = nM R := by unfold nM; rw [fTe_ne b9 (by omega)]
  have s2 := SV_out (n := nM R - 1) s1 (by rw [eN]; omega) (by rw [eN]; exact ht)
  have s3 := SV_hdr (k := 8) (x := σ 6 12 + 1) s2 (by decide) (by decide)
  have e8 : σ 6 12 + 1 = csh (radd (fTe R 4 (iN t) (fld R t 0)) 3 (-1)) (9 + 10 * t) (10 * (nM R - 1 - t)) 8 + 1 := by
    rw [csh_lo (by omega), radd_ne (by decide), fTe_ne b9 (by omega)]
    have := h.1.1 8 (by decide)
    rw [cR_h (by decide)] at this
    rw [← this]
  unfold cOff fOff
  rw [en, es]
  unfold radd at e8 s3 ⊢
  rw [← e8, show 10 * (nM R - 1 - t) = 10 * (nM R - 1 - t) from rfl]
  exact s3
-- text 44
/-! THE CLASS: stations -/
set_option maxRecDepth 20000 in
theorem w63 {σ : gS} {K : gK} {t : Int32} (h : (0 ≤ t ∧ t < 20) ∧ gTv (6 + 2 + t.toNatClampNeg) ∧ (bLg σ 30) ∧ (gTv (6 + 2 + t.toNatClampNeg)) ∧ gE 63 37 [some (.ref 6), some (.int t), some (.ref (6 + 2 + t.toNatClampNeg)), some (.int t)] [] (gup (cCnt (cAdd σ (4 : Int32) t (σ (6 + 2 + t.toNatClampNeg) 1)) 6 (6 + 2 + t.toNatClampNeg) ((-1) : Int32)) 6 7 (((cCnt (cAdd σ (4 : Int32) t (σ (6 + 2 + t.toNatClampNeg) 1)) 6 (6 + 2 + t.toNatClampNeg) ((-1) : Int32)) 6 7) - 1)) K) : gE 63 0 [some (.ref 6), some (.int t), none, none] [] σ K :=
  gw_run (cy := 63) (cuts := [37]) (inl := []) (pf := gpda) gpda_ok 400 (by decide) h
set_option maxRecDepth 20000 in
theorem v63 {σ : gS} {K : gK} {t k : Int32} {w : Nat} (h : ((¬ k < (σ 6 7) → K none (gup σ 6 12 ((σ 6 12) + 1))) ∧ (k < (σ 6 7) → (0 ≤ k ∧ k < 20) ∧ (0 ≤ (k + 1) ∧ (k + 1) < 20) ∧ gTv (6 + 2 + k.toNatClampNeg) ∧ (gTv (6 + 2 + k.toNatClampNeg) ∧ gTv (6 + 2 + (k + 1).toNatClampNeg)) ∧ gE 63 37 [some (.ref 6), some (.int t), some (.ref w), some (.int (k + 1))] [] (cTv σ (6 + 2 + k.toNatClampNeg) (6 + 2 + (k + 1).toNatClampNeg)) K))) : gE 63 37 [some (.ref 6), some (.int t), some (.ref w), some (.int k)] [] σ K :=
  gw_run (cy := 63) (cuts := [37]) (inl := []) (pf := gpda) gpda_ok 400 (by decide) h
theorem cCnt_off {σ : gS} {p w q : Nat} {k : Int32} (h : ¬ q = p + 23) : cCnt σ p w k q = σ q := by
  funext j
  unfold cCnt
  split
  · exact gup_ne (by omega)
  · rfl
theorem s63 {σ : gS} {K : gK} {t : Int32} (hc : (0 ≤ t ∧ t < 20) ∧ ∃ R, SV σ 6 R ∧ t.toNatClampNeg < nM R) (hK : K none (cOff σ t.toNatClampNeg)) : gE 63 0 [some (.ref 6), some (.int t), none, none] [] σ K := by
  obtain ⟨ht, R, hR, hl⟩ := hc
  obtain ⟨b3, bn, e7⟩ := SV_3 hR
  obtain ⟨et, lt⟩ := t20 ht
  obtain ⟨m, hm⟩ : ∃ m, t.toNatClampNeg = m := ⟨_, rfl⟩
  rw [hm] at hl et lt hK
  subst et
  have tv := tv_6 m (by omega)
  have nt : (iN m).toNatClampNeg = m := hm
  refine w63 ⟨ht, by rw [nt]; exact tv, hR.2.2.1.1, by rw [nt]; exact tv, ?_⟩
  rw [nt]
  have e8 : 6 + 2 + m = 8 + m := by omega
  rw [e8]
  obtain ⟨N, hN⟩ : ∃ N, nM R = N + 1 := ⟨nM R - 1, by omega⟩
  have eR : R 3 = iN (N + 1) := by rw [← hN]; exact (nM_of b3).1
  have e7' : σ 6 7 = iN (N + 1) := by rw [e7]; exact eR
  have n7 : (σ 6 7).toNatClampNeg - 1 = N := by rw [e7', iN_nat (by omega)]; omega
  unfold cOff cOut at hK
  rw [n7] at hK
  have c7 : cCnt (cAdd σ 4 (iN m) (σ (8 + m) 1)) 6 (8 + m) (-1) 6 7 - 1 = iN N := by
    rw [cCnt_off (by omega), cAdd_far (by omega) (by omega), e7']
    exact iN_sub (d := 1) (by omega) (by omega)
  rw [c7]
  obtain ⟨τ, hτ⟩ : ∃ τ, gup (cCnt (cAdd σ 4 (iN m) (σ (8 + m) 1)) 6 (8 + m) (-1)) 6 7 (iN N) = τ := ⟨_, rfl⟩
  have τ7 : τ 6 7 = iN N := by rw [← hτ, gup_at]
  have τ12 : τ 6 12 = σ 6 12 := by rw [← hτ, gup_ne (by omega), cCnt_off (by omega), cAdd_far (by omega) (by omega)]
  rw [hτ] at hK ⊢
  have far : ∀ k i, cShN τ m k 6 i = τ 6 i := fun k i => by rw [cSh_e, if_neg (by omega)]
  have key : ∀ d k, m + k + d = N → gE 63 37 [some (.ref 6), some (.int (iN m)), some (.ref (8 + m)), some (.int (iN (m + k)))] [] (cShN τ m k) K := by
    intro d
    induction d with
    | zero =>
      intro k hk
      refine v63 ⟨fun _ => ?_, fun h => ?_⟩
      · rw [show N - m = k from by omega] at hK
        rw [far, τ12]
        exact hK
      · rw [far, τ7] at h
        exact absurd ((iN_lt (by omega) (by omega)).mp h) (by omega)
    | succ d ih =>
      intro k hk
      have nk : (iN (m + k)).toNatClampNeg = m + k := iN_nat (by omega)
      have nk1 : (iN (m + k + 1)).toNatClampNeg = m + k + 1 := iN_nat (by omega)
      refine v63 ⟨fun h => ?_, fun _ => ⟨b20 (by omega), ?_⟩⟩
      · exfalso
        apply h
        rw [far, τ7]
        exact (iN_lt (by omega) (by omega)).mpr (by omega)
      · rw [iN_one, nk, nk1]
        refine ⟨b20 (by omega), tv_6 _ (by omega), ⟨tv_6 _ (by omega), tv_6 _ (by omega)⟩, ?_⟩
        have := ih (k + 1) (by omega)
        rw [show m + (k + 1) = m + k + 1 from by omega] at this
        rw [show 6 + 2 + (m + k) = 8 + m + k from by omega, show 6 + 2 + (m + k + 1) = 8 + m + k + 1 from by omega]
        exact this
  exact key (N - m) 0 (by omega)
noncomputable def f63 : gD := fun Lv σ => match Lv with
  | [some (.ref q0), some (.int t), none, none] => cond (Nat.beq q0 6) (some (some ((0 ≤ t ∧ t < 20) ∧ ∃ R, SV σ 6 R ∧ t.toNatClampNeg < nM R), none, cOff σ t.toNatClampNeg)) none
  | _ => none
theorem ok63 : gFok 63 f63 := by
  intro Lv σ q h hc K hK
  unfold f63 at h
  split at h
  · rename_i q0 t
    obtain ⟨hb, h⟩ := c_no h
    have hb0 := hb
    have e0 := b_eq hb0
    subst e0
    cases h
    exact s63 (hc _ rfl) hK
  · cases h
noncomputable def gpdb_l : List (Nat × gD) := (63, f63) :: gpda_l
noncomputable def gpdb : gP := gpl0 gpdb_l
theorem gpdb_ok : gPok gpdb := gpl0_cons ok63 (gpda_ok)
end
section
-- text 45
/-! THE CLASS: stations -/
/-- the main train stands for some row -/
def SX (σ : gS) : Prop := ∃ R, SV σ 6 R
def cGoN : Nat → gS → gS
  | 0, σ => σ
  | k + 1, σ => cGoN k (if σ (8 + k) 9 = σ 6 6 then cOff σ k else σ)
/-- one station -/
def cGo (σ : gS) : gS := cGoN (σ 6 7).toNatClampNeg (gup σ 6 6 (σ 6 6 + 1))
/-- some stations -/
def cGoM : Nat → gS → gS
  | 0, σ => σ
  | k + 1, σ => cGo (cGoM k σ)
theorem SV_go1 {σ : gS} {R : gW} {k : Nat} (h : SV σ 6 R) (hk : k < nM R) : SV (if σ (8 + k) 9 = σ 6 6 then cOff σ k else σ) 6 (stp1 R k) ∧ k ≤ nM (stp1 R k) := by
  have hn := (SV_3 h).2.1
  refine ⟨?_, (stp1_b (SV_b h) hk).2⟩
  have e1 : σ (8 + k) 9 = fld R k 8 := by
    have := h.1.2 k (by rw [agr_n h.1]; exact hk) 8 (by decide)
    rw [cR_f (σ := σ) (p := 6) (by omega) (by decide), show 6 + 2 + k = 8 + k from by omega] at this
    exact this
  have e2 : σ 6 6 = R 2 := by
    have := h.1.1 2 (by decide)
    rw [cR_h (by decide)] at this
    exact this
  unfold stp1
  rw [e1, e2]
  by_cases q : fld R k 8 = R 2
  · rw [if_pos q, if_pos q]
    exact SV_off h hk
  · rw [if_neg q, if_neg q]
    exact h
theorem SV_goN : ∀ {k : Nat} {σ : gS} {R : gW}, SV σ 6 R → k ≤ nM R → SV (cGoN k σ) 6 (stpN k R)
  | 0, σ, R, h, _ => h
  | k + 1, σ, R, h, hk => by
    obtain ⟨s1, s2⟩ := SV_go1 h (k := k) (by omega)
    exact SV_goN (k := k) s1 s2
theorem SV_time {σ : gS} {R : gW} (h : SV σ 6 R) : SV (gup σ 6 6 (σ 6 6 + 1)) 6 (radd R 2 1) := by
  have e2 : σ 6 6 = R 2 := by
    have := h.1.1 2 (by decide)
    rw [cR_h (by decide)] at this
    exact this
  rw [e2]
  exact SV_hdr (k := 2) h (by decide) (by decide)
theorem nM_radd2 (R : gW) (x : Int32) : nM (radd R 2 x) = nM R := by unfold nM; rw [radd_ne (by decide)]
theorem SV_go {σ : gS} {R : gW} (h : SV σ 6 R) : SV (cGo σ) 6 (fStp R) := by
  have e7 := (SV_3 h).2.2
  unfold cGo fStp
  rw [show (σ 6 7).toNatClampNeg = nM R from by rw [e7]; rfl]
  exact SV_goN (SV_time h) (by rw [nM_radd2]; exact Nat.le_refl _)
theorem SV_goM {σ : gS} {R : gW} (h : SV σ 6 R) : ∀ {k : Nat}, SV (cGoM k σ) 6 (stm k R)
  | 0 => h
  | k + 1 => SV_go (SV_goM h)
set_option maxRecDepth 20000 in
theorem w64 {σ : gS} {K : gK} (h : gE 64 17 [some (.ref 6), some (.int (((gup σ 6 6 ((σ 6 6) + 1)) 6 7) - 1))] [] (gup σ 6 6 ((σ 6 6) + 1)) K) : gE 64 0 [some (.ref 6), none] [] σ K :=
  gw_run (cy := 64) (cuts := [17]) (inl := []) (pf := gpdb) gpdb_ok 400 (by decide) h
set_option maxRecDepth 20000 in
theorem v64 {σ : gS} {K : gK} {k : Int32} (h : ((k < 0 → K none σ) ∧ (¬ k < 0 → (0 ≤ k ∧ k < 20) ∧ gTv (6 + 2 + k.toNatClampNeg) ∧ ((¬ (σ (6 + 2 + k.toNatClampNeg) 9) = (σ 6 6) → gE 64 17 [some (.ref 6), some (.int (k + (-1)))] [] σ K) ∧ ((σ (6 + 2 + k.toNatClampNeg) 9) = (σ 6 6) → ((0 ≤ k ∧ k < 20) ∧ ∃ R, SV σ 6 R ∧ k.toNatClampNeg < nM R) ∧ gE 64 17 [some (.ref 6), some (.int (k + (-1)))] [] (cOff σ k.toNatClampNeg) K))))) : gE 64 17 [some (.ref 6), some (.int k)] [] σ K :=
  gw_run (cy := 64) (cuts := [17]) (inl := []) (pf := gpdb) gpdb_ok 400 (by decide) h
theorem s64 {σ : gS} {K : gK} (hc : SX σ) (hK : K none (cGo σ)) : gE 64 0 [some (.ref 6), none] [] σ K := by
  obtain ⟨R, hR⟩ := hc
  obtain ⟨b3, bn, e7⟩ := SV_3 hR
  have key : ∀ (k : Nat) (τ : gS) (S : gW), k ≤ nM S → SV τ 6 S → K none (cGoN k τ) → gE 64 17 [some (.ref 6), some (.int (iN k + (-1)))] [] τ K := by
    intro k
    induction k with
    | zero =>
      intro τ S _ _ hK
      exact v64 ⟨fun _ => hK, fun h => absurd (show iN 0 + (-1) < 0 from by decide) h⟩
    | succ k ih =>
      intro τ S hk hS hK
      have hn := (SV_3 hS).2.1
      have e : iN (k + 1) + (-1) = iN k := by
        rw [← Int32.sub_eq_add_neg]
        exact iN_sub (d := 1) (by omega) (by omega)
      have nk : (iN k).toNatClampNeg = k := iN_nat (by omega)
      obtain ⟨s1, s2⟩ := SV_go1 hS (k := k) (by omega)
      have i := ih _ _ s2 s1 hK
      rw [e]
      refine v64 ⟨fun h => ?_, fun _ => ⟨b20 (by omega), by rw [nk]; exact tv_6 k (by omega), fun h => ?_, fun h => ?_⟩⟩
      · exfalso
        have := (b20 (k := k) (by omega)).1
        exact absurd h (Int32.not_lt.mpr this)
      · rw [nk, show 6 + 2 + k = 8 + k from by omega] at h
        rw [if_neg h] at i
        exact i
      · rw [nk, show 6 + 2 + k = 8 + k from by omega] at h
        rw [if_pos h] at i
        rw [nk]
        exact ⟨⟨b20 (by omega), S, hS, by omega⟩, i⟩
  refine w64 ?_
  have e : gup σ 6 6 (σ 6 6 + 1) 6 7 - 1 = iN (nM R) + (-1) := by
    rw [gup_ne (by omega), e7, (nM_of b3).1, ← Int32.sub_eq_add_neg]
  rw [e]
  unfold cGo at hK
  rw [show (σ 6 7).toNatClampNeg = nM R from by rw [e7]; rfl] at hK
  exact key _ _ _ (by rw [nM_radd2]; exact Nat.le_refl _) (SV_time hR) hK
noncomputable def f64 : gD := fun Lv σ => match Lv with
  | [some (.ref q0), none] => cond (Nat.beq q0 6) (some (some (SX σ), none, cGo σ)) none
  | _ => none
theorem ok64 : gFok 64 f64 := by
  intro Lv σ q h hc K hK
  unfold f64 at h
  split at h
  · rename_i q0
    obtain ⟨hb, h⟩ := c_no h
    have hb0 := hb
    have e0 := b_eq hb0
    subst e0
    cases h
    exact s64 (hc _ rfl) hK
  · cases h
noncomputable def gpdc_l : List (Nat × gD) := (64, f64) :: gpdb_l
noncomputable def gpdc : gP := gpl0 gpdc_l
theorem gpdc_ok : gPok gpdc := gpl0_cons ok64 (gpdb_ok)
-- text 46
/-! THE CLASS: stations, the call -/
set_option maxRecDepth 20000 in
theorem w119 {σ : gS} {K : gK} {m : Int32} (h : ((¬ (bI ((1 : Int32) ≤ m ∧ m ≤ (50 : Int32))) = 0 → ((¬ 999 < ((σ 6 6) + m) → (bPa σ ∧ (0 ≤ σ 6 7 ∧ σ 6 7 ≤ 20)) ∧ gE 119 51 [some (.ref 0), some (.int m), some (.int ((cRem σ) 6 7)), some (.int 0)] [] (cRem σ) K) ∧ (999 < ((σ 6 6) + m) → K (some (.int (-3))) σ))) ∧ ((bI ((1 : Int32) ≤ m ∧ m ≤ (50 : Int32))) = 0 → K (some (.int (-1))) σ))) : gE 119 0 [some (.ref 0), some (.int m), none, none] [] σ K :=
  gw_run (cy := 119) (cuts := [51]) (inl := []) (pf := gpdc) gpdc_ok 400 (by decide) h
set_option maxRecDepth 20000 in
theorem v119 {σ : gS} {K : gK} {m b k : Int32} (h : ((¬ k < m → K (some (.int (b - (σ 6 7)))) σ) ∧ (k < m → (SX σ) ∧ gE 119 51 [some (.ref 0), some (.int m), some (.int b), some (.int (k + 1))] [] (cGo σ) K))) : gE 119 51 [some (.ref 0), some (.int m), some (.int b), some (.int k)] [] σ K :=
  gw_run (cy := 119) (cuts := [51]) (inl := []) (pf := gpdc) gpdc_ok 400 (by decide) h
theorem s119 {σ : gS} {K : gK} {m : Int32} (hc : bPa σ ∧ SX σ) (hK : K (some (.int (if 1 ≤ m ∧ m ≤ 50 then (if 999 < σ 6 6 + m then -3 else σ 6 7 - cGoM m.toNatClampNeg (cRem σ) 6 7) else -1))) (if 1 ≤ m ∧ m ≤ 50 then (if 999 < σ 6 6 + m then σ else cGoM m.toNatClampNeg (cRem σ)) else σ)) : gE 119 0 [some (.ref 0), some (.int m), none, none] [] σ K := by
  obtain ⟨hp, R, hR⟩ := hc
  obtain ⟨b3, bn, e7⟩ := SV_3 hR
  have h7 : 0 ≤ σ 6 7 ∧ σ 6 7 ≤ 20 := by rw [e7]; exact b3
  have hR2 : SV (cRem σ) 6 R := SV_blk hR (fun q q1 q2 => cRem_far (Or.inl (by omega)) h7)
  have r7 : cRem σ 6 7 = σ 6 7 := by rw [cRem_far (Or.inl (by decide)) h7]
  refine w119 ?_
  simp only [bI_0]
  refine ⟨fun h => ?_, fun h => ?_⟩
  · have h := Decidable.not_not.mp h
    rw [if_pos h, if_pos h] at hK
    refine ⟨fun h2 => ⟨⟨hp, h7⟩, ?_⟩, fun h2 => ?_⟩
    · rw [if_neg h2, if_neg h2] at hK
      obtain ⟨em, lm⟩ : m = iN m.toNatClampNeg ∧ m.toNatClampNeg ≤ 50 := by
        obtain ⟨e, l⟩ := iN_of (show 0 ≤ m by have := h.1; grind)
        refine ⟨e, ?_⟩
        have h2 := h.2
        rw [e] at h2
        exact (iN_le (m := 50) l (by decide)).mp h2
      obtain ⟨n, hn⟩ : ∃ n, m.toNatClampNeg = n := ⟨_, rfl⟩
      rw [hn] at em lm hK
      rw [r7]
      have key : ∀ d k, k + d = n → gE 119 51 [some (.ref 0), some (.int m), some (.int (σ 6 7)), some (.int (iN k))] [] (cGoM k (cRem σ)) K := by
        intro d
        induction d with
        | zero =>
          intro k hk
          have : k = n := by omega
          subst this
          refine v119 ⟨fun _ => hK, fun h => ?_⟩
          rw [em] at h
          exact absurd ((iN_lt (by omega) (by omega)).mp h) (by omega)
        | succ d ih =>
          intro k hk
          refine v119 ⟨fun h => ?_, fun _ => ⟨⟨_, SV_goM hR2⟩, ?_⟩⟩
          · exfalso
            apply h
            rw [em]
            exact (iN_lt (by omega) (by omega)).mpr (by omega)
          · rw [iN_one]
            exact ih (k + 1) (by omega)
      exact key n 0 (by omega)
    · rw [if_pos h2, if_pos h2] at hK; exact hK
  · rw [if_neg h, if_neg h] at hK; exact hK
noncomputable def f119 : gD := fun Lv σ => match Lv with
  | [some (.ref q0), some (.int m), none, none] => cond (Nat.beq q0 0) (some (some (bPa σ ∧ SX σ), some (.int (if 1 ≤ m ∧ m ≤ 50 then (if 999 < σ 6 6 + m then -3 else σ 6 7 - cGoM m.toNatClampNeg (cRem σ) 6 7) else -1)), if 1 ≤ m ∧ m ≤ 50 then (if 999 < σ 6 6 + m then σ else cGoM m.toNatClampNeg (cRem σ)) else σ)) none
  | _ => none
theorem ok119 : gFok 119 f119 := by
  intro Lv σ q h hc K hK
  unfold f119 at h
  split at h
  · rename_i q0 m
    obtain ⟨hb, h⟩ := c_no h
    have hb0 := hb
    have e0 := b_eq hb0
    subst e0
    cases h
    exact s119 (hc _ rfl) hK
  · cases h
/-- who got off is counted once -/
theorem fOff_sum {R : gW} {t : Nat} (hb : bN R) (ht : t < nM R) : fOff R t 3 + fOff R t 8 = R 3 + R 8 := by
  rw [fOff_3 hb ht]
  obtain ⟨e, l⟩ := nM_of hb.1
  have e2 : iN (nM R - 1) = R 3 - 1 := by
    rw [e]
    exact (iN_sub (d := 1) (by omega) (by omega)).symm
  have e3 : fOff R t 8 = R 8 + 1 := by
    unfold fOff
    rw [radd_at, csh_lo (by omega), radd_ne (by decide), fTe_ne hb.2 (by omega)]
  rw [e2, e3]
  grind
theorem stpN_sum : ∀ {k : Nat} {R : gW}, bN R → k ≤ nM R → stpN k R 3 + stpN k R 8 = R 3 + R 8 ∧ bN (stpN k R)
  | 0, R, hb, _ => ⟨rfl, hb⟩
  | k + 1, R, hb, hk => by
    obtain ⟨b1, b2⟩ := stp1_b hb (k := k) (by omega)
    obtain ⟨i1, i2⟩ := stpN_sum (k := k) b1 b2
    refine ⟨i1.trans ?_, i2⟩
    unfold stp1
    split
    · exact fOff_sum hb (by omega)
    · rfl
theorem stm_sum {R : gW} (hb : bN R) : ∀ k, stm k R 3 + stm k R 8 = R 3 + R 8 ∧ bN (stm k R)
  | 0 => ⟨rfl, hb⟩
  | k + 1 => by
    obtain ⟨i1, i2⟩ := stm_sum hb k
    have b2 : bN (radd (stm k R) 2 1) := ⟨by rw [radd_ne (by decide)]; exact i2.1, by rw [radd_ne (by decide)]; exact i2.2⟩
    obtain ⟨j1, j2⟩ := stpN_sum (k := nM (stm k R)) b2 (by rw [nM_radd2]; exact Nat.le_refl _)
    refine ⟨?_, j2⟩
    show stpN (nM (stm k R)) (radd (stm k R) 2 1) 3 + stpN (nM (stm k R)) (radd (stm k R) 2 1) 8 = _
    rw [j1, radd_ne (by decide), radd_ne (by decide)]
    exact i1
noncomputable def gpdd_l : List (Nat × gD) := (119, f119) :: gpdc_l
noncomputable def gpdd : gP := gpl0 gpdd_l
theorem gpdd_ok : gPok gpdd := gpl0_cons ok119 (gpdc_ok)
end
section
-- text 47
/-! THE CLASS: the tape -/
/-- k bytes behind the n of the class's tape -/
def cApp (σ : gS) (n : Nat) (B : Nat → Int32) (k : Nat) : gS := grow (grow σ 3 (fAp (σ 3) n B k)) 2 (rup (σ 2) 1 (iN (n + k)))
def cPut (σ : gS) (w : Int32) : gS := gup (gup σ 3 (σ 2 1).toNatClampNeg w) 2 1 (σ 2 1 + 1)
def cP4 (σ : gS) (w : Int32) : gS := cPut (cPut (cPut (cPut σ (w >>> iN 24 &&& 255)) (w >>> iN 16 &&& 255)) (w >>> iN 8 &&& 255)) (w >>> iN 0 &&& 255)
theorem cApp_2 (σ : gS) (n : Nat) (B : Nat → Int32) (k : Nat) : cApp σ n B k 2 1 = iN (n + k) := by
  unfold cApp
  rw [grow_at, rup_at]
theorem cPut_s {σ : gS} {n k : Nat} {B : Nat → Int32} (h : n + k < 1000) : cPut (cApp σ n B k) (B k) = cApp σ n B (k + 1) := by
  unfold cPut
  rw [cApp_2, iN_nat (by omega), iN_one]
  unfold cApp
  rw [← fAp_s, ← Nat.add_assoc]
  funext p j
  unfold gup grow rup
  grind
theorem cApp_0 {σ : gS} {n : Nat} {B : Nat → Int32} (h : σ 2 1 = iN n) : cApp σ n B 0 = σ := by
  unfold cApp
  rw [fAp_0, grow_id, Nat.add_zero, ← h]
  have : rup (σ 2) 1 (σ 2 1) = σ 2 := by
    funext j
    unfold rup
    split
    · rename_i h; rw [h]
    · rfl
  rw [this, grow_id]
theorem cP4_s {σ : gS} {n k : Nat} {B : Nat → Int32} {w : Int32} (h : n + k + 4 ≤ 1000) (hB : ∀ r, r < 4 → B (k + r) = w >>> iN (24 - 8 * r) &&& 255) : cP4 (cApp σ n B k) w = cApp σ n B (k + 4) := by
  unfold cP4
  have b0 := hB 0 (by decide)
  have b1 := hB 1 (by decide)
  have b2 := hB 2 (by decide)
  have b3 := hB 3 (by decide)
  rw [show 24 - 8 * 0 = 24 from rfl, Nat.add_zero] at b0
  rw [show 24 - 8 * 1 = 16 from rfl] at b1
  rw [show 24 - 8 * 2 = 8 from rfl] at b2
  rw [show 24 - 8 * 3 = 0 from rfl] at b3
  rw [← b0, ← b1, ← b2, ← b3, cPut_s (by omega), cPut_s (by omega), cPut_s (by omega), cPut_s (by omega)]
theorem byt_w (a b c d e : Int32) (q r : Nat) (h : r < 4) : byt a b c d e (4 * q + r) = wrd a b c d e (4 * q) >>> iN (24 - 8 * r) &&& 255 := by
  unfold byt
  rw [show (4 * q + r) % 4 = r from by omega]
  have : wrd a b c d e (4 * q + r) = wrd a b c d e (4 * q) := by
    unfold wrd
    have e1 : (4 * q + r < 4 ↔ 4 * q < 4) := by omega
    have e2 : (4 * q + r < 8 ↔ 4 * q < 8) := by omega
    have e3 : (4 * q + r < 12 ↔ 4 * q < 12) := by omega
    have e4 : (4 * q + r < 16 ↔ 4 * q < 16) := by omega
    simp only [e1, e2, e3, e4]
  rw [this]
set_option maxRecDepth 20000 in
theorem w42 {σ : gS} {K : gK} (h : ((1000 < ((σ 2 1) + 20) → ((0 : Int32) = 0 ∨ (0 : Int32) = 1) ∧ K (some (.int 0)) σ) ∧ (¬ 1000 < ((σ 2 1) + 20) → ((1 : Int32) = 0 ∨ (1 : Int32) = 1) ∧ K (some (.int 1)) σ))) : gE 42 0 [some (.ref 2)] [] σ K :=
  gw_run (cy := 42) (cuts := []) (inl := []) (pf := gpdd) gpdd_ok 400 (by decide) h
theorem s42 {σ : gS} {K : gK} (hK : K (some (.int (bI (¬ 1000 < σ 2 1 + 20)))) σ) : gE 42 0 [some (.ref 2)] [] σ K := by
  refine w42 ?_
  grind [bI]
noncomputable def f42 : gD := fun Lv σ => match Lv with
  | [some (.ref q0)] => cond (Nat.beq q0 2) (some (none, some (.int (bI (¬ 1000 < σ 2 1 + 20))), σ)) none
  | _ => none
theorem ok42 : gFok 42 f42 := by
  intro Lv σ q h hc K hK
  unfold f42 at h
  split at h
  · rename_i q0
    obtain ⟨hb, h⟩ := c_no h
    have hb0 := hb
    have e0 := b_eq hb0
    subst e0
    cases h
    exact s42 hK
  · cases h
set_option maxRecDepth 20000 in
theorem w44 {σ : gS} {K : gK} {w : Int32} (h : (((σ 2 1) < 0 → K none σ) ∧ (¬ (σ 2 1) < 0 → ((¬ (σ 2 1) < 1000 → K none σ) ∧ ((σ 2 1) < 1000 → (0 ≤ (σ 2 1) ∧ (σ 2 1) < 1000) ∧ K none (gup (gup σ 3 (σ 2 1).toNatClampNeg w) 2 1 (((gup σ 3 (σ 2 1).toNatClampNeg w) 2 1) + 1))))))) : gE 44 0 [some (.ref 2), some (.int w)] [] σ K :=
  gw_run (cy := 44) (cuts := []) (inl := []) (pf := gpdd) gpdd_ok 400 (by decide) h
theorem s44 {σ : gS} {K : gK} {w : Int32} (hc : 0 ≤ σ 2 1 ∧ σ 2 1 < 1000) (hK : K none (cPut σ w)) : gE 44 0 [some (.ref 2), some (.int w)] [] σ K := by
  refine w44 ⟨fun h => absurd h (Int32.not_lt.mpr hc.1), fun _ => ⟨fun h => absurd hc.2 h, fun _ => ⟨hc, ?_⟩⟩⟩
  rw [gup_ne (by omega)]
  exact hK
noncomputable def f44 : gD := fun Lv σ => match Lv with
  | [some (.ref q0), some (.int w)] => cond (Nat.beq q0 2) (some (some (0 ≤ σ 2 1 ∧ σ 2 1 < 1000), none, cPut σ w)) none
  | _ => none
theorem ok44 : gFok 44 f44 := by
  intro Lv σ q h hc K hK
  unfold f44 at h
  split at h
  · rename_i q0 w
    obtain ⟨hb, h⟩ := c_no h
    have hb0 := hb
    have e0 := b_eq hb0
    subst e0
    cases h
    exact s44 (hc _ rfl) hK
  · cases h
set_option maxRecDepth 20000 in
theorem w45 {σ : gS} {K : gK} {i : Int32} (h : ((i < 0 → K (some (.int (-1))) σ) ∧ (¬ i < 0 → ((¬ i < (σ 2 1) → K (some (.int (-1))) σ) ∧ (i < (σ 2 1) → ((¬ i < 1000 → K (some (.int (-1))) σ) ∧ (i < 1000 → (0 ≤ i ∧ i < 1000) ∧ K (some (.int (σ 3 i.toNatClampNeg))) σ))))))) : gE 45 0 [some (.ref 2), some (.int i)] [] σ K :=
  gw_run (cy := 45) (cuts := []) (inl := []) (pf := gpdd) gpdd_ok 400 (by decide) h
theorem s45 {σ : gS} {K : gK} {i : Int32} (hc : σ 2 1 ≤ 1000) (hK : K (some (.int (if 0 ≤ i ∧ i < σ 2 1 then σ 3 i.toNatClampNeg else -1))) σ) : gE 45 0 [some (.ref 2), some (.int i)] [] σ K := by
  refine w45 ?_
  grind
noncomputable def f45 : gD := fun Lv σ => match Lv with
  | [some (.ref q0), some (.int i)] => cond (Nat.beq q0 2) (some (some (σ 2 1 ≤ 1000), some (.int (if 0 ≤ i ∧ i < σ 2 1 then σ 3 i.toNatClampNeg else -1)), σ)) none
  | _ => none
theorem ok45 : gFok 45 f45 := by
  intro Lv σ q h hc K hK
  unfold f45 at h
  split at h
  · rename_i q0 i
    obtain ⟨hb, h⟩ := c_no h
    have hb0 := hb
    have e0 := b_eq hb0
    subst e0
    cases h
    exact s45 (hc _ rfl) hK
  · cases h
noncomputable def gpde_l : List (Nat × gD) := (42, f42) :: (44, f44) :: (45, f45) :: gpdd_l
noncomputable def gpde : gP := gpl0 gpde_l
theorem gpde_ok : gPok gpde := gpl0_cons ok42 (gpl0_cons ok44 (gpl0_cons ok45 (gpdd_ok)))
-- text 48
/-! THE CLASS: append, truncate, errorPosition -/
set_option maxRecDepth 20000 in
theorem w43 {σ : gS} {K : gK} {w : Int32} (h : gE 43 3 [some (.ref 2), some (.int w), some (.int 24)] [] σ K) : gE 43 0 [some (.ref 2), some (.int w), none] [] σ K :=
  gw_run (cy := 43) (cuts := [3]) (inl := []) (pf := gpde) gpde_ok 400 (by decide) h
set_option maxRecDepth 20000 in
theorem v43 {σ : gS} {K : gK} {w s : Int32} (h : ((s < 0 → K none σ) ∧ (¬ s < 0 → (0 ≤ σ 2 1 ∧ σ 2 1 < 1000) ∧ gE 43 3 [some (.ref 2), some (.int w), some (.int (s + (-8)))] [] (cPut σ ((w >>> (s &&& 31)) &&& 255)) K))) : gE 43 3 [some (.ref 2), some (.int w), some (.int s)] [] σ K :=
  gw_run (cy := 43) (cuts := [3]) (inl := []) (pf := gpde) gpde_ok 400 (by decide) h
theorem cPut_2 (σ : gS) (w : Int32) : cPut σ w 2 1 = σ 2 1 + 1 := gup_at _ _ _
theorem s43 {σ : gS} {K : gK} {w : Int32} (hc : 0 ≤ σ 2 1 ∧ σ 2 1 ≤ 996) (hK : K none (cP4 σ w)) : gE 43 0 [some (.ref 2), some (.int w), none] [] σ K := by
  have h1 := hc.1
  have h2 := hc.2
  refine w43 (v43 ⟨fun h => absurd h (by decide), fun _ => ⟨by grind, v43 ⟨fun h => absurd h (by decide), fun _ => ⟨by rw [cPut_2]; grind, v43 ⟨fun h => absurd h (by decide), fun _ => ⟨by rw [cPut_2, cPut_2]; grind, v43 ⟨fun h => absurd h (by decide), fun _ => ⟨by rw [cPut_2, cPut_2, cPut_2]; grind, v43 ⟨fun _ => ?_, fun h => absurd (by decide) h⟩⟩⟩⟩⟩⟩⟩⟩⟩)
  exact hK
noncomputable def f43 : gD := fun Lv σ => match Lv with
  | [some (.ref q0), some (.int w), none] => cond (Nat.beq q0 2) (some (some (0 ≤ σ 2 1 ∧ σ 2 1 ≤ 996), none, cP4 σ w)) none
  | _ => none
theorem ok43 : gFok 43 f43 := by
  intro Lv σ q h hc K hK
  unfold f43 at h
  split at h
  · rename_i q0 w
    obtain ⟨hb, h⟩ := c_no h
    have hb0 := hb
    have e0 := b_eq hb0
    subst e0
    cases h
    exact s43 (hc _ rfl) hK
  · cases h
noncomputable def gpdf_l : List (Nat × gD) := (43, f43) :: gpde_l
noncomputable def gpdf : gP := gpl0 gpdf_l
theorem gpdf_ok : gPok gpdf := gpl0_cons ok43 (gpde_ok)
theorem cP4_2 (σ : gS) (w : Int32) : cP4 σ w 2 1 = σ 2 1 + 4 := by
  unfold cP4
  rw [cPut_2, cPut_2, cPut_2, cPut_2]
  grind
set_option maxRecDepth 20000 in
theorem w108 {σ : gS} {K : gK} {a b c d e : Int32} (h : ((¬ (bI (¬ 1000 < σ 2 1 + 20)) = 0 → (0 ≤ σ 2 1 ∧ σ 2 1 ≤ 996) ∧ (0 ≤ (cP4 σ a) 2 1 ∧ (cP4 σ a) 2 1 ≤ 996) ∧ (0 ≤ (cP4 (cP4 σ a) b) 2 1 ∧ (cP4 (cP4 σ a) b) 2 1 ≤ 996) ∧ (0 ≤ (cP4 (cP4 (cP4 σ a) b) c) 2 1 ∧ (cP4 (cP4 (cP4 σ a) b) c) 2 1 ≤ 996) ∧ (0 ≤ (cP4 (cP4 (cP4 (cP4 σ a) b) c) d) 2 1 ∧ (cP4 (cP4 (cP4 (cP4 σ a) b) c) d) 2 1 ≤ 996) ∧ K (some (.int ((cP4 (cP4 (cP4 (cP4 (cP4 σ a) b) c) d) e) 2 1))) (cP4 (cP4 (cP4 (cP4 (cP4 σ a) b) c) d) e)) ∧ ((bI (¬ 1000 < σ 2 1 + 20)) = 0 → K (some (.int (-1))) σ))) : gE 108 0 [some (.ref 0), some (.int a), some (.int b), some (.int c), some (.int d), some (.int e)] [] σ K :=
  gw_run (cy := 108) (cuts := []) (inl := []) (pf := gpdf) gpdf_ok 400 (by decide) h
theorem s108 {σ : gS} {K : gK} {a b c d e : Int32} (hc : 0 ≤ σ 2 1 ∧ σ 2 1 ≤ 1000) (hK : K (some (.int (if 1000 < σ 2 1 + 20 then -1 else σ 2 1 + 20))) (if 1000 < σ 2 1 + 20 then σ else cApp σ (σ 2 1).toNatClampNeg (byt a b c d e) 20)) : gE 108 0 [some (.ref 0), some (.int a), some (.int b), some (.int c), some (.int d), some (.int e)] [] σ K := by
  have h1 := hc.1
  have h2 := hc.2
  refine w108 ?_
  simp only [bI_0]
  refine ⟨fun h => ?_, fun h => ?_⟩
  · have h := Decidable.not_not.mp h
    rw [if_neg h, if_neg h] at hK
    obtain ⟨e0, l0⟩ := l1000 hc
    obtain ⟨n, hn⟩ : ∃ n, (σ 2 1).toNatClampNeg = n := ⟨_, rfl⟩
    rw [hn] at e0 l0 hK
    have n980 : n ≤ 980 := by
      rw [e0, show (20 : Int32) = iN 20 from rfl, iN_add, show (1000 : Int32) = iN 1000 from rfl, iN_lt (by omega) (by omega)] at h
      omega
    have eP : cP4 (cP4 (cP4 (cP4 (cP4 σ a) b) c) d) e = cApp σ n (byt a b c d e) 20 := by
      have s0 : cP4 σ a = cApp σ n (byt a b c d e) 4 := by
        have q := cP4_s (σ := σ) (n := n) (k := 0) (B := byt a b c d e) (w := a) (by omega) (fun r hr => by rw [show 0 + r = 4 * 0 + r from by omega]; exact byt_w a b c d e 0 r hr)
        rw [cApp_0 e0] at q
        exact q
      have s1 := cP4_s (σ := σ) (n := n) (k := 4) (B := byt a b c d e) (w := b) (by omega) (fun r hr => byt_w a b c d e 1 r hr)
      have s2 := cP4_s (σ := σ) (n := n) (k := 8) (B := byt a b c d e) (w := c) (by omega) (fun r hr => byt_w a b c d e 2 r hr)
      have s3 := cP4_s (σ := σ) (n := n) (k := 12) (B := byt a b c d e) (w := d) (by omega) (fun r hr => byt_w a b c d e 3 r hr)
      have s4 := cP4_s (σ := σ) (n := n) (k := 16) (B := byt a b c d e) (w := e) (by omega) (fun r hr => byt_w a b c d e 4 r hr)
      rw [s0, s1, s2, s3, s4]
    refine ⟨by grind, by rw [cP4_2]; grind, by rw [cP4_2, cP4_2]; grind, by rw [cP4_2, cP4_2, cP4_2]; grind, by rw [cP4_2, cP4_2, cP4_2, cP4_2]; grind, ?_⟩
    rw [eP, cApp_2]
    rw [e0, show (20 : Int32) = iN 20 from rfl, iN_add] at hK
    exact hK
  · have h := Decidable.not_not.mp h
    rw [if_pos h, if_pos h] at hK; exact hK
noncomputable def f108 : gD := fun Lv σ => match Lv with
  | [some (.ref q0), some (.int a), some (.int b), some (.int c), some (.int d), some (.int e)] => cond (Nat.beq q0 0) (some (some (0 ≤ σ 2 1 ∧ σ 2 1 ≤ 1000), some (.int (if 1000 < σ 2 1 + 20 then -1 else σ 2 1 + 20)), if 1000 < σ 2 1 + 20 then σ else cApp σ (σ 2 1).toNatClampNeg (byt a b c d e) 20)) none
  | _ => none
theorem ok108 : gFok 108 f108 := by
  intro Lv σ q h hc K hK
  unfold f108 at h
  split at h
  · rename_i q0 a b c d e
    obtain ⟨hb, h⟩ := c_no h
    have hb0 := hb
    have e0 := b_eq hb0
    subst e0
    cases h
    exact s108 (hc _ rfl) hK
  · cases h
set_option maxRecDepth 20000 in
theorem w109 {σ : gS} {K : gK} {n : Int32} (h : ((¬ (bI ((0 : Int32) ≤ n ∧ n ≤ (σ 2 1))) = 0 → K (some (.int ((gup σ 2 1 ((σ 2 1) - n)) 2 1))) (gup σ 2 1 ((σ 2 1) - n))) ∧ ((bI ((0 : Int32) ≤ n ∧ n ≤ (σ 2 1))) = 0 → K (some (.int (-1))) σ))) : gE 109 0 [some (.ref 0), some (.int n)] [] σ K :=
  gw_run (cy := 109) (cuts := []) (inl := []) (pf := gpdf) gpdf_ok 400 (by decide) h
theorem s109 {σ : gS} {K : gK} {n : Int32} (hK : K (some (.int (if 0 ≤ n ∧ n ≤ σ 2 1 then σ 2 1 - n else -1))) (if 0 ≤ n ∧ n ≤ σ 2 1 then gup σ 2 1 (σ 2 1 - n) else σ)) : gE 109 0 [some (.ref 0), some (.int n)] [] σ K := by
  refine w109 ?_
  simp only [bI_0]
  rw [gup_at]
  refine ⟨fun h => ?_, fun h => ?_⟩
  · have h := Decidable.not_not.mp h
    rw [if_pos h, if_pos h] at hK
    exact hK
  · rw [if_neg h, if_neg h] at hK
    exact hK
noncomputable def f109 : gD := fun Lv σ => match Lv with
  | [some (.ref q0), some (.int n)] => cond (Nat.beq q0 0) (some (none, some (.int (if 0 ≤ n ∧ n ≤ σ 2 1 then σ 2 1 - n else -1)), if 0 ≤ n ∧ n ≤ σ 2 1 then gup σ 2 1 (σ 2 1 - n) else σ)) none
  | _ => none
theorem ok109 : gFok 109 f109 := by
  intro Lv σ q h hc K hK
  unfold f109 at h
  split at h
  · rename_i q0 n
    obtain ⟨hb, h⟩ := c_no h
    have hb0 := hb
    have e0 := b_eq hb0
    subst e0
    cases h
    exact s109 hK
  · cases h
set_option maxRecDepth 20000 in
theorem w111 {σ : gS} {K : gK} (h : K (some (.int (σ 0 9))) σ) : gE 111 0 [some (.ref 0)] [] σ K :=
  gw_run (cy := 111) (cuts := []) (inl := []) (pf := gpdf) gpdf_ok 400 (by decide) h
theorem s111 {σ : gS} {K : gK} (hK : K (some (.int (σ 0 9))) σ) : gE 111 0 [some (.ref 0)] [] σ K := by
  exact w111 hK
noncomputable def f111 : gD := fun Lv σ => match Lv with
  | [some (.ref q0)] => cond (Nat.beq q0 0) (some (none, some (.int (σ 0 9)), σ)) none
  | _ => none
theorem ok111 : gFok 111 f111 := by
  intro Lv σ q h hc K hK
  unfold f111 at h
  split at h
  · rename_i q0
    obtain ⟨hb, h⟩ := c_no h
    have hb0 := hb
    have e0 := b_eq hb0
    subst e0
    cases h
    exact s111 hK
  · cases h
end
section
-- text 49
/-! THE CLASS: tokens -/
def cKd (w : Int32) : Int32 := if 97 ≤ w ∧ w ≤ 122 then 2 else if 48 ≤ w ∧ w ≤ 57 then 3 else if w = 32 ∨ w = 10 then 1 else if w = -1 then 0 else 4
set_option maxRecDepth 20000 in
theorem w13 {σ : gS} {K : gK} {w : Int32} (h : ((w < 97 → ((w < 48 → ((w = 32 → K (some (.int 1)) σ) ∧ (¬ w = 32 → ((¬ w = 10 → ((¬ w = (-1) → K (some (.int 4)) σ) ∧ (w = (-1) → K (some (.int 0)) σ))) ∧ (w = 10 → K (some (.int 1)) σ))))) ∧ (¬ w < 48 → ((57 < w → ((w = 32 → K (some (.int 1)) σ) ∧ (¬ w = 32 → ((¬ w = 10 → ((¬ w = (-1) → K (some (.int 4)) σ) ∧ (w = (-1) → K (some (.int 0)) σ))) ∧ (w = 10 → K (some (.int 1)) σ))))) ∧ (¬ 57 < w → K (some (.int 3)) σ))))) ∧ (¬ w < 97 → ((122 < w → ((w < 48 → ((w = 32 → K (some (.int 1)) σ) ∧ (¬ w = 32 → ((¬ w = 10 → ((¬ w = (-1) → K (some (.int 4)) σ) ∧ (w = (-1) → K (some (.int 0)) σ))) ∧ (w = 10 → K (some (.int 1)) σ))))) ∧ (¬ w < 48 → ((57 < w → ((w = 32 → K (some (.int 1)) σ) ∧ (¬ w = 32 → ((¬ w = 10 → ((¬ w = (-1) → K (some (.int 4)) σ) ∧ (w = (-1) → K (some (.int 0)) σ))) ∧ (w = 10 → K (some (.int 1)) σ))))) ∧ (¬ 57 < w → K (some (.int 3)) σ))))) ∧ (¬ 122 < w → K (some (.int 2)) σ))))) : gE 13 0 [some (.int w)] [] σ K :=
  gw_run (cy := 13) (cuts := []) (inl := []) (pf := gpdf) gpdf_ok 400 (by decide) h
theorem s13 {σ : gS} {K : gK} {w : Int32} (hK : K (some (.int (cKd w))) σ) : gE 13 0 [some (.int w)] [] σ K := by
  unfold cKd at hK
  refine w13 ?_
  grind (splits := 40)
noncomputable def f13 : gD := fun Lv σ => match Lv with
  | [some (.int w)] => some (none, some (.int (cKd w)), σ)
  | _ => none
theorem ok13 : gFok 13 f13 := by
  intro Lv σ q h hc K hK
  unfold f13 at h
  split at h
  · rename_i w
    cases h
    exact s13 hK
  · cases h
noncomputable def gpdg_l : List (Nat × gD) := (13, f13) :: (108, f108) :: (109, f109) :: (111, f111) :: gpdf_l
noncomputable def gpdg : gP := gpl0 gpdg_l
theorem gpdg_ok : gPok gpdg := gpl0_cons ok13 (gpl0_cons ok108 (gpl0_cons ok109 (gpl0_cons ok111 (gpdf_ok))))
-- text 50
/-! THE CLASS: the next token -/
theorem gup_tw {σ : gS} {p j : Nat} {x y : Int32} : gup (gup σ p j x) p j y = gup σ p j y := by
  funext q i
  unfold gup
  split
  · rfl
  · rename_i h; rfl
/-- the byte at i, or none -/
def cBy (T : gW) (L i : Nat) : Int32 := if i < L then T i else -1
/-- how far a run reaches -/
def skp (P : Nat → Bool) : Nat → Nat → Nat
  | 0, s => s
  | d + 1, s => if P s = true then skp P d (s + 1) else s
def tkS (T : gW) (L n : Nat) : Nat := skp (fun i => decide (cKd (T i) = 1)) (L - n) n
def tkK (T : gW) (L n : Nat) : Int32 := cKd (cBy T L (tkS T L n))
def tkE (T : gW) (L n : Nat) : Nat := if tkK T L n = 2 ∨ tkK T L n = 3 then skp (fun i => decide (cKd (T i) = tkK T L n)) (L - (tkS T L n + 1)) (tkS T L n + 1) else tkS T L n + 1
def cTk4 (σ : gS) (s : Nat) (k : Int32) (e : Nat) : gS := gup (gup (gup σ 1 2 (iN s)) 1 4 k) 1 3 (iN e)
/-- the next token stands -/
def cTok (σ : gS) : gS := cTk4 σ (tkS (σ 3) (σ 2 1).toNatClampNeg (σ 1 3).toNatClampNeg) (tkK (σ 3) (σ 2 1).toNatClampNeg (σ 1 3).toNatClampNeg) (tkE (σ 3) (σ 2 1).toNatClampNeg (σ 1 3).toNatClampNeg)
abbrev RD (σ : gS) : Prop := (0 ≤ σ 2 1 ∧ σ 2 1 ≤ 1000) ∧ (0 ≤ σ 1 3 ∧ σ 1 3 ≤ σ 2 1)
theorem RD_n {σ : gS} (h : RD σ) : ∃ L n, σ 2 1 = iN L ∧ σ 1 3 = iN n ∧ L ≤ 1000 ∧ n ≤ L ∧ (σ 2 1).toNatClampNeg = L ∧ (σ 1 3).toNatClampNeg = n := by
  obtain ⟨eL, lL⟩ := l1000 h.1
  obtain ⟨en, ln⟩ := l1000 (x := σ 1 3) ⟨h.2.1, by have := h.2.2; have := h.1.2; grind⟩
  refine ⟨_, _, eL, en, lL, ?_, rfl, rfl⟩
  have h2 := h.2.2
  rw [eL, en] at h2
  exact (iN_le (by omega) (by omega)).mp h2
theorem cBy_e {T : gW} {L s : Nat} (hL : L ≤ 1000) (hs : s ≤ 1001) : (if 0 ≤ iN s ∧ iN s < iN L then T (iN s).toNatClampNeg else -1) = cBy T L s := by
  rw [iN_nat (by omega)]
  unfold cBy
  have e : (0 ≤ iN s ∧ iN s < iN L) ↔ s < L := by
    rw [iN_lt (by omega) (by omega)]
    exact ⟨fun h => h.2, fun h => ⟨(iN_le (k := 0) (by decide) (by omega)).mpr (by omega), h⟩⟩
  simp only [e]
theorem skp_b {P : Nat → Bool} : ∀ {d s : Nat}, s ≤ skp P d s ∧ skp P d s ≤ s + d
  | 0, s => ⟨Nat.le_refl _, Nat.le_refl _⟩
  | d + 1, s => by
    unfold skp
    split
    · have := skp_b (P := P) (d := d) (s := s + 1)
      omega
    · omega
set_option maxRecDepth 20000 in
theorem w15 {σ : gS} {K : gK} (h : gE 15 8 [some (.ref 1), none] [] (gup σ 1 2 (σ 1 3)) K) : gE 15 0 [some (.ref 1), none] [] σ K :=
  gw_run (cy := 15) (cuts := [8, 53, 103]) (inl := []) (pf := gpdg) gpdg_ok 400 (by decide) h
set_option maxRecDepth 20000 in
theorem v15_8 {σ : gS} {K : gK} (h : ((¬ (σ 1 2) < (σ 2 1) → gE 15 53 [some (.ref 1), none] [] σ K) ∧ ((σ 1 2) < (σ 2 1) → (σ 2 1 ≤ 1000) ∧ ((¬ (cKd (if 0 ≤ (σ 1 2) ∧ (σ 1 2) < σ 2 1 then σ 3 (σ 1 2).toNatClampNeg else -1)) = 1 → gE 15 53 [some (.ref 1), none] [] σ K) ∧ ((cKd (if 0 ≤ (σ 1 2) ∧ (σ 1 2) < σ 2 1 then σ 3 (σ 1 2).toNatClampNeg else -1)) = 1 → gE 15 8 [some (.ref 1), none] [] (gup σ 1 2 ((σ 1 2) + 1)) K))))) : gE 15 8 [some (.ref 1), none] [] σ K :=
  gw_run (cy := 15) (cuts := [8, 53, 103]) (inl := []) (pf := gpdg) gpdg_ok 400 (by decide) h
set_option maxRecDepth 20000 in
theorem v15_53 {σ : gS} {K : gK} (h : (σ 2 1 ≤ 1000) ∧ ((((gup (gup σ 1 4 (cKd (if 0 ≤ (σ 1 2) ∧ (σ 1 2) < σ 2 1 then σ 3 (σ 1 2).toNatClampNeg else -1))) 1 3 (((gup σ 1 4 (cKd (if 0 ≤ (σ 1 2) ∧ (σ 1 2) < σ 2 1 then σ 3 (σ 1 2).toNatClampNeg else -1))) 1 2) + 1)) 1 4) = 2 → gE 15 103 [some (.ref 1), some (.int 1)] [] (gup (gup σ 1 4 (cKd (if 0 ≤ (σ 1 2) ∧ (σ 1 2) < σ 2 1 then σ 3 (σ 1 2).toNatClampNeg else -1))) 1 3 (((gup σ 1 4 (cKd (if 0 ≤ (σ 1 2) ∧ (σ 1 2) < σ 2 1 then σ 3 (σ 1 2).toNatClampNeg else -1))) 1 2) + 1)) K) ∧ (¬ ((gup (gup σ 1 4 (cKd (if 0 ≤ (σ 1 2) ∧ (σ 1 2) < σ 2 1 then σ 3 (σ 1 2).toNatClampNeg else -1))) 1 3 (((gup σ 1 4 (cKd (if 0 ≤ (σ 1 2) ∧ (σ 1 2) < σ 2 1 then σ 3 (σ 1 2).toNatClampNeg else -1))) 1 2) + 1)) 1 4) = 2 → ((¬ ((gup (gup σ 1 4 (cKd (if 0 ≤ (σ 1 2) ∧ (σ 1 2) < σ 2 1 then σ 3 (σ 1 2).toNatClampNeg else -1))) 1 3 (((gup σ 1 4 (cKd (if 0 ≤ (σ 1 2) ∧ (σ 1 2) < σ 2 1 then σ 3 (σ 1 2).toNatClampNeg else -1))) 1 2) + 1)) 1 4) = 3 → gE 15 103 [some (.ref 1), some (.int 0)] [] (gup (gup σ 1 4 (cKd (if 0 ≤ (σ 1 2) ∧ (σ 1 2) < σ 2 1 then σ 3 (σ 1 2).toNatClampNeg else -1))) 1 3 (((gup σ 1 4 (cKd (if 0 ≤ (σ 1 2) ∧ (σ 1 2) < σ 2 1 then σ 3 (σ 1 2).toNatClampNeg else -1))) 1 2) + 1)) K) ∧ (((gup (gup σ 1 4 (cKd (if 0 ≤ (σ 1 2) ∧ (σ 1 2) < σ 2 1 then σ 3 (σ 1 2).toNatClampNeg else -1))) 1 3 (((gup σ 1 4 (cKd (if 0 ≤ (σ 1 2) ∧ (σ 1 2) < σ 2 1 then σ 3 (σ 1 2).toNatClampNeg else -1))) 1 2) + 1)) 1 4) = 3 → gE 15 103 [some (.ref 1), some (.int 1)] [] (gup (gup σ 1 4 (cKd (if 0 ≤ (σ 1 2) ∧ (σ 1 2) < σ 2 1 then σ 3 (σ 1 2).toNatClampNeg else -1))) 1 3 (((gup σ 1 4 (cKd (if 0 ≤ (σ 1 2) ∧ (σ 1 2) < σ 2 1 then σ 3 (σ 1 2).toNatClampNeg else -1))) 1 2) + 1)) K))))) : gE 15 53 [some (.ref 1), none] [] σ K :=
  gw_run (cy := 15) (cuts := [8, 53, 103]) (inl := []) (pf := gpdg) gpdg_ok 400 (by decide) h
set_option maxRecDepth 20000 in
theorem v15_103 {σ : gS} {K : gK} {r : Int32} (h : ((r = 0 → K none σ) ∧ (¬ r = 0 → ((¬ (σ 1 3) < (σ 2 1) → K none σ) ∧ ((σ 1 3) < (σ 2 1) → (σ 2 1 ≤ 1000) ∧ ((¬ (cKd (if 0 ≤ (σ 1 3) ∧ (σ 1 3) < σ 2 1 then σ 3 (σ 1 3).toNatClampNeg else -1)) = (σ 1 4) → K none σ) ∧ ((cKd (if 0 ≤ (σ 1 3) ∧ (σ 1 3) < σ 2 1 then σ 3 (σ 1 3).toNatClampNeg else -1)) = (σ 1 4) → gE 15 103 [some (.ref 1), some (.int r)] [] (gup σ 1 3 ((σ 1 3) + 1)) K))))))) : gE 15 103 [some (.ref 1), some (.int r)] [] σ K :=
  gw_run (cy := 15) (cuts := [8, 53, 103]) (inl := []) (pf := gpdg) gpdg_ok 400 (by decide) h
theorem s15 {σ : gS} {K : gK} (hc : RD σ) (hK : K none (cTok σ)) : gE 15 0 [some (.ref 1), none] [] σ K := by
  obtain ⟨L, n, eL, en, lL, ln, nL, nn⟩ := RD_n hc
  unfold cTok at hK
  rw [nL, nn] at hK
  -- the run
  have k2 : ∀ (s : Nat) (k : Int32) (d e : Nat), e + d = L ∨ (d = 0 ∧ L ≤ e ∧ e ≤ 1001) → K none (cTk4 σ s k (skp (fun i => decide (cKd (σ 3 i) = k)) d e)) → gE 15 103 [some (.ref 1), some (.int 1)] [] (cTk4 σ s k e) K := by
    intro s k d
    induction d with
    | zero =>
      intro e he hK
      have f1 : cTk4 σ s k e 1 3 = iN e := gup_at _ _ _
      have f2 : cTk4 σ s k e 2 1 = iN L := by unfold cTk4; rw [gup_ne (by omega), gup_ne (by omega), gup_ne (by omega)]; exact eL
      refine v15_103 ⟨fun h => absurd h (by decide), fun _ => ⟨fun _ => hK, fun h => ?_⟩⟩
      rw [f1, f2] at h
      exact absurd ((iN_lt (by omega) (by omega)).mp h) (by omega)
    | succ d ih =>
      intro e he hK
      have heL : e < L := by omega
      have f1 : cTk4 σ s k e 1 3 = iN e := gup_at _ _ _
      have f2 : cTk4 σ s k e 2 1 = iN L := by unfold cTk4; rw [gup_ne (by omega), gup_ne (by omega), gup_ne (by omega)]; exact eL
      have f3 : ∀ i, cTk4 σ s k e 3 i = σ 3 i := fun i => by unfold cTk4; rw [gup_ne (by omega), gup_ne (by omega), gup_ne (by omega)]
      have f4 : cTk4 σ s k e 1 4 = k := by unfold cTk4; rw [gup_ne (by omega), gup_at]
      have f5 : gup (cTk4 σ s k e) 1 3 (iN e + 1) = cTk4 σ s k (e + 1) := by
        unfold cTk4
        rw [gup_tw, iN_one]
      have f6 : cTk4 σ s k e 3 = σ 3 := funext f3
      refine v15_103 ⟨fun h => absurd h (by decide), fun _ => ⟨fun h => ?_, fun h => ⟨?_, fun h2 => ?_, fun h2 => ?_⟩⟩⟩
      · rw [f1, f2] at h
        exact absurd ((iN_lt (by omega) (by omega)).mpr heL) h
      · rw [f2]; exact (iN_le (m := 1000) (by omega) (by decide)).mpr lL
      · rw [f1, f2, f6, cBy_e lL (by omega), f4] at h2
        unfold cBy at h2
        rw [if_pos heL] at h2
        unfold skp at hK
        rw [if_neg (by simp only [decide_eq_true_eq]; exact h2)] at hK
        exact hK
      · rw [f1, f2, f6, cBy_e lL (by omega), f4] at h2
        unfold cBy at h2
        rw [if_pos heL] at h2
        unfold skp at hK
        rw [if_pos (by simp only [decide_eq_true_eq]; exact h2)] at hK
        rw [f1, f5]
        exact ih (e + 1) (by omega) hK
  -- behind the white
  obtain ⟨s, hs⟩ : ∃ s, tkS (σ 3) L n = s := ⟨_, rfl⟩
  have sL : s ≤ L := by
    rw [← hs]
    have := (skp_b (P := fun i => decide (cKd (σ 3 i) = 1)) (d := L - n) (s := n)).2
    unfold tkS
    omega
  have k53 : gE 15 53 [some (.ref 1), none] [] (gup σ 1 2 (iN s)) K := by
    have f1 : gup σ 1 2 (iN s) 1 2 = iN s := gup_at _ _ _
    have f2 : gup σ 1 2 (iN s) 2 1 = iN L := by rw [gup_ne (by omega)]; exact eL
    have f6 : gup σ 1 2 (iN s) 3 = σ 3 := funext fun i => gup_ne (by omega)
    have eK : tkK (σ 3) L n = cKd (cBy (σ 3) L s) := by unfold tkK; rw [hs]
    have g0 : ∀ k : Int32, gup (gup (gup σ 1 2 (iN s)) 1 4 k) 1 3 (gup (gup σ 1 2 (iN s)) 1 4 k 1 2 + 1) = cTk4 σ s k (s + 1) := by
      intro k
      rw [gup_ne (by omega), f1, iN_one]
      rfl
    unfold tkE at hK
    rw [hs, eK] at hK
    obtain ⟨k, hk⟩ : ∃ k, cKd (cBy (σ 3) L s) = k := ⟨_, rfl⟩
    rw [hk] at hK
    have f4 : cTk4 σ s k (s + 1) 1 4 = k := by unfold cTk4; rw [gup_ne (by omega), gup_at]
    have run : k = 2 ∨ k = 3 → gE 15 103 [some (.ref 1), some (.int 1)] [] (cTk4 σ s k (s + 1)) K := by
      intro h
      rw [if_pos h] at hK
      exact k2 s k (L - (s + 1)) (s + 1) (by omega) hK
    refine v15_53 ⟨by rw [f2]; exact (iN_le (m := 1000) (by omega) (by decide)).mpr lL, ?_⟩
    rw [f1, f2, f6, cBy_e lL (by omega), hk, g0, f4]
    refine ⟨fun h => run (Or.inl h), fun h => ⟨fun h2 => ?_, fun h2 => run (Or.inr h2)⟩⟩
    rw [if_neg (fun q => q.elim h h2)] at hK
    exact v15_103 ⟨fun _ => hK, fun h => absurd rfl h⟩
  have key : ∀ d s', s' + d = L → skp (fun i => decide (cKd (σ 3 i) = 1)) d s' = s → gE 15 8 [some (.ref 1), none] [] (gup σ 1 2 (iN s')) K := by
    intro d
    induction d with
    | zero =>
      intro s' hd hq
      have : s' = s := hq
      subst this
      have f1 : gup σ 1 2 (iN s') 1 2 = iN s' := gup_at _ _ _
      have f2 : gup σ 1 2 (iN s') 2 1 = iN L := by rw [gup_ne (by omega)]; exact eL
      refine v15_8 ⟨fun _ => k53, fun h => ?_⟩
      rw [f1, f2] at h
      exact absurd ((iN_lt (by omega) (by omega)).mp h) (by omega)
    | succ d ih =>
      intro s' hd hq
      have f1 : gup σ 1 2 (iN s') 1 2 = iN s' := gup_at _ _ _
      have f2 : gup σ 1 2 (iN s') 2 1 = iN L := by rw [gup_ne (by omega)]; exact eL
      have f6 : gup σ 1 2 (iN s') 3 = σ 3 := funext fun i => gup_ne (by omega)
      unfold skp at hq
      refine v15_8 ⟨fun h => ?_, fun h => ⟨?_, fun h2 => ?_, fun h2 => ?_⟩⟩
      · rw [f1, f2] at h
        exact absurd ((iN_lt (by omega) (by omega)).mpr (by omega)) h
      · rw [f2]; exact (iN_le (m := 1000) (by omega) (by decide)).mpr lL
      · rw [f1, f2, f6, cBy_e lL (by omega)] at h2
        unfold cBy at h2
        rw [if_pos (by omega)] at h2
        rw [if_neg (by simp only [decide_eq_true_eq]; exact h2)] at hq
        subst hq
        exact k53
      · rw [f1, f2, f6, cBy_e lL (by omega)] at h2
        unfold cBy at h2
        rw [if_pos (by omega)] at h2
        rw [if_pos (by simp only [decide_eq_true_eq]; exact h2)] at hq
        rw [f1, gup_tw, iN_one]
        exact ih (s' + 1) (by omega) hq
  refine w15 ?_
  rw [en]
  exact key (L - n) n (by omega) hs
noncomputable def f15 : gD := fun Lv σ => match Lv with
  | [some (.ref q0), none] => cond (Nat.beq q0 1) (some (some (RD σ), none, cTok σ)) none
  | _ => none
theorem ok15 : gFok 15 f15 := by
  intro Lv σ q h hc K hK
  unfold f15 at h
  split at h
  · rename_i q0
    obtain ⟨hb, h⟩ := c_no h
    have hb0 := hb
    have e0 := b_eq hb0
    subst e0
    cases h
    exact s15 (hc _ rfl) hK
  · cases h
noncomputable def gpdh_l : List (Nat × gD) := (15, f15) :: gpdg_l
noncomputable def gpdh : gP := gpl0 gpdh_l
theorem gpdh_ok : gPok gpdh := gpl0_cons ok15 (gpdg_ok)
end
