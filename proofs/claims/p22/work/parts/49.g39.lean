-- text 39
/-! THE CLASS: settling -/
def csS (R : gW) (a j : Nat) (s : Int32 × Int32 × Int32) : Int32 × Int32 × Int32 := if fWhy R a (a + 1 + j) 0 = 0 ∧ s.1 < fJa (rsw R a (a + 1 + j)) then (fJa (rsw R a (a + 1 + j)), iN a, iN (a + 1 + j)) else s
def csR (R : gW) (a : Nat) (s : Int32 × Int32 × Int32) : Int32 × Int32 × Int32 := nfold (csS R a) (nM R - (a + 1)) s
def cBst (R : gW) : Int32 × Int32 × Int32 := nfold (csR R) (nM R) (fJa R, -2, -2)
/-- nothing found, or two travellers -/
def csOk (n : Nat) (s : Int32 × Int32 × Int32) : Prop := s.2.1 = -2 ∨ ∃ a b, a < b ∧ b < n ∧ s.2.1 = iN a ∧ s.2.2 = iN b
theorem nfold_ok {α : Type} {P : α → Prop} {f : Nat → α → α} {n : Nat} {s : α} (h0 : P s) (h : ∀ k, k < n → ∀ s, P s → P (f k s)) : P (nfold f n s) := by
  induction n with
  | zero => exact h0
  | succ n ih => exact h n (by omega) _ (ih (fun k hk => h k (by omega)))
theorem cBst_c (R : gW) : csOk (nM R) (cBst R) := by
  refine nfold_ok (Or.inl rfl) (fun a ha s hs => nfold_ok hs (fun j hj s hs => ?_))
  unfold csS
  split
  · exact Or.inr ⟨a, a + 1 + j, by omega, by omega, rfl, rfl⟩
  · exact hs
/-- the best exchange is done -/
def cOnce (σ : gS) : gS := if (cBst (cR σ 32)).2.1 = -2 then σ else cExS σ 32 (cBst (cR σ 32)).2.1.toNatClampNeg (cBst (cR σ 32)).2.2.toNatClampNeg
set_option maxRecDepth 20000 in
theorem w98_32 {σ : gS} {K : gK} (h : (TC σ 32) ∧ gE 98 14 [some (.ref 32), some (.int (fJa (cR σ 32))), some (.int (-2)), some (.int (-2)), some (.int 0), none, none] [] σ K) : gE 98 0 [some (.ref 32), none, none, none, none, none, none] [] σ K :=
  gw_run (cy := 98) (cuts := [14, 29, 102]) (inl := []) (pf := gpcx) gpcx_ok 400 (by decide) h
set_option maxRecDepth 20000 in
theorem v98_a {σ : gS} {K : gK} {g x y a : Int32} {u1 u2 : Option Value} (h : ((¬ a < (σ 32 7) → gE 98 102 [some (.ref 32), some (.int g), some (.int x), some (.int y), some (.int a), u1, u2] [] σ K) ∧ (a < (σ 32 7) → gE 98 29 [some (.ref 32), some (.int g), some (.int x), some (.int y), some (.int a), some (.int (a + 1)), u2] [] σ K))) : gE 98 14 [some (.ref 32), some (.int g), some (.int x), some (.int y), some (.int a), u1, u2] [] σ K :=
  gw_run (cy := 98) (cuts := [14, 29, 102]) (inl := []) (pf := gpcx) gpcx_ok 400 (by decide) h
set_option maxRecDepth 20000 in
theorem v98_b {σ : gS} {K : gK} {g x y a b : Int32} {u2 : Option Value} (h : ((¬ b < (σ 32 7) → gE 98 14 [some (.ref 32), some (.int g), some (.int x), some (.int y), some (.int (a + 1)), some (.int b), u2] [] σ K) ∧ (b < (σ 32 7) → (isN σ 32 a ∧ isN σ 32 b ∧ TC σ 32) ∧ (((fWhy (cR σ 32) a.toNatClampNeg b.toNatClampNeg (0 : Int32)) = 0 → ((0 ≤ a ∧ a < 20) ∧ (0 ≤ b ∧ b < 20)) ∧ (TC (cExS σ 32 a.toNatClampNeg b.toNatClampNeg) 32) ∧ ((0 ≤ a ∧ a < 20) ∧ (0 ≤ b ∧ b < 20)) ∧ ((¬ g < (fJa (cR (cExS σ 32 a.toNatClampNeg b.toNatClampNeg) 32)) → gE 98 29 [some (.ref 32), some (.int g), some (.int x), some (.int y), some (.int a), some (.int (b + 1)), some (.int (fJa (cR (cExS σ 32 a.toNatClampNeg b.toNatClampNeg) 32)))] [] (cExS (cExS σ 32 a.toNatClampNeg b.toNatClampNeg) 32 a.toNatClampNeg b.toNatClampNeg) K) ∧ (g < (fJa (cR (cExS σ 32 a.toNatClampNeg b.toNatClampNeg) 32)) → gE 98 29 [some (.ref 32), some (.int (fJa (cR (cExS σ 32 a.toNatClampNeg b.toNatClampNeg) 32))), some (.int a), some (.int b), some (.int a), some (.int (b + 1)), some (.int (fJa (cR (cExS σ 32 a.toNatClampNeg b.toNatClampNeg) 32)))] [] (cExS (cExS σ 32 a.toNatClampNeg b.toNatClampNeg) 32 a.toNatClampNeg b.toNatClampNeg) K))) ∧ (¬ (fWhy (cR σ 32) a.toNatClampNeg b.toNatClampNeg (0 : Int32)) = 0 → gE 98 29 [some (.ref 32), some (.int g), some (.int x), some (.int y), some (.int a), some (.int (b + 1)), u2] [] σ K))))) : gE 98 29 [some (.ref 32), some (.int g), some (.int x), some (.int y), some (.int a), some (.int b), u2] [] σ K :=
  gw_run (cy := 98) (cuts := [14, 29, 102]) (inl := []) (pf := gpcx) gpcx_ok 400 (by decide) h
set_option maxRecDepth 20000 in
theorem v98_c {σ : gS} {K : gK} {g x y a : Int32} {u1 u2 : Option Value} (h : ((¬ x = (-2) → ((0 ≤ x ∧ x < 20) ∧ (0 ≤ y ∧ y < 20)) ∧ ((1 : Int32) = 0 ∨ (1 : Int32) = 1) ∧ K (some (.int 1)) (cExS σ 32 x.toNatClampNeg y.toNatClampNeg)) ∧ (x = (-2) → ((0 : Int32) = 0 ∨ (0 : Int32) = 1) ∧ K (some (.int 0)) σ))) : gE 98 102 [some (.ref 32), some (.int g), some (.int x), some (.int y), some (.int a), u1, u2] [] σ K :=
  gw_run (cy := 98) (cuts := [14, 29, 102]) (inl := []) (pf := gpcx) gpcx_ok 400 (by decide) h
theorem s98 {σ : gS} {K : gK} (hc : TC σ 32) (hK : K (some (.int (bI (¬ (cBst (cR σ 32)).2.1 = -2)))) (cOnce σ)) : gE 98 0 [some (.ref 32), none, none, none, none, none, none] [] σ K := by
  obtain ⟨R, hR⟩ : ∃ R, cR σ 32 = R := ⟨_, rfl⟩
  have h3 : 0 ≤ R 3 ∧ R 3 ≤ 20 := by rw [← hR]; exact hc.1
  have hn := (nM_of h3).2
  have h7 : σ 32 7 = R 3 := by rw [← hR, cR_3]
  have inN : ∀ k, k < nM R → isN σ 32 (iN k) := fun k hk => ⟨b20 (by omega), by rw [iN_nat (by omega), hR]; exact hk⟩
  have inner : ∀ (a : Nat) (s : Int32 × Int32 × Int32) (u : Option Value), a < nM R → (∀ u1 u2, gE 98 14 [some (.ref 32), some (.int (csR R a s).1), some (.int (csR R a s).2.1), some (.int (csR R a s).2.2), some (.int (iN (a + 1))), u1, u2] [] σ K) → gE 98 29 [some (.ref 32), some (.int s.1), some (.int s.2.1), some (.int s.2.2), some (.int (iN a)), some (.int (iN (a + 1))), u] [] σ K := by
    intro a s u ha hout
    refine g_forJ (nM R - (a + 1)) (fun k u => [some (.ref 32), some (.int (nfold (csS R a) k s).1), some (.int (nfold (csS R a) k s).2.1), some (.int (nfold (csS R a) k s).2.2), some (.int (iN a)), some (.int (iN (a + 1 + k))), u]) (fun _ => σ) (fun _ => True) (fun _ u => ?_) (fun k hk _ ih u => ?_) 0 (Nat.zero_le _) trivial u
    · refine v98_b ⟨fun _ => ?_, fun h => ?_⟩
      · rw [iN_one]
        exact hout _ _
      · rw [h7, nM_lt h3 (by omega)] at h; omega
    · have ih := ih trivial
      have e : nfold (csS R a) (k + 1) s = csS R a k (nfold (csS R a) k s) := rfl
      rw [e] at ih
      generalize nfold (csS R a) k s = s at ih ⊢
      unfold csS at ih
      have na : (iN a).toNatClampNeg = a := iN_nat (by omega)
      have nb : (iN (a + 1 + k)).toNatClampNeg = a + 1 + k := iN_nat (by omega)
      have ia := inN a ha
      have ib := inN (a + 1 + k) (by omega)
      have la : a < nM (cR σ 32) := by rw [hR]; exact ha
      have lb : a + 1 + k < nM (cR σ 32) := by rw [hR]; omega
      obtain ⟨r1, t1, f1⟩ := cExS_ok hc la lb
      refine v98_b ⟨fun h => ?_, fun _ => ⟨⟨ia, ib, hc⟩, fun h => ⟨⟨ia.1, ib.1⟩, ?_, ⟨ia.1, ib.1⟩, fun h2 => ?_, fun h2 => ?_⟩, fun h => ?_⟩⟩
      · rw [h7, nM_lt h3 (by omega)] at h; omega
      · rw [na, nb]; exact t1
      · rw [na, nb, r1, hR] at h2
        rw [if_neg (fun q => h2 q.2)] at ih
        rw [na, nb, iN_one, r1, hR, cExS_bk hc la lb]
        exact ih _
      · rw [na, nb, r1, hR] at h2
        rw [hR, na, nb] at h
        rw [if_pos ⟨h, h2⟩] at ih
        rw [na, nb, iN_one, r1, hR, cExS_bk hc la lb]
        exact ih _
      · rw [hR, na, nb] at h
        rw [if_neg (fun q => h q.1)] at ih
        rw [iN_one]
        exact ih _
  unfold cOnce at hK
  rw [hR] at hK
  have hB := cBst_c R
  unfold cBst at hK hB
  refine w98_32 ⟨hc, ?_⟩
  rw [hR]
  refine g_forJ (J := Option Value × Option Value) (nM R) (fun k u => [some (.ref 32), some (.int (nfold (csR R) k (fJa R, -2, -2)).1), some (.int (nfold (csR R) k (fJa R, -2, -2)).2.1), some (.int (nfold (csR R) k (fJa R, -2, -2)).2.2), some (.int (iN k)), u.1, u.2]) (fun _ => σ) (fun _ => True) (fun _ u => ?_) (fun k hk _ ih u => ?_) 0 (Nat.zero_le _) trivial (none, none)
  · refine v98_a ⟨fun _ => ?_, fun h => ?_⟩
    · generalize nfold (csR R) (nM R) (fJa R, -2, -2) = s at hB hK ⊢
      refine v98_c ⟨fun h => ?_, fun h => ?_⟩
      · rw [if_neg h, show bI (¬ s.2.1 = -2) = 1 from if_pos h] at hK
        rcases hB with e | ⟨a, b, hab, hb, ea, eb⟩
        · exact absurd e h
        · exact ⟨⟨by rw [ea]; exact b20 (by omega), by rw [eb]; exact b20 (by omega)⟩, Or.inr rfl, hK⟩
      · rw [if_pos h, show bI (¬ s.2.1 = -2) = 0 from if_neg (fun q => q h)] at hK
        exact ⟨Or.inl rfl, hK⟩
    · rw [h7, nM_lt h3 (by omega)] at h; omega
  · refine v98_a ⟨fun h => ?_, fun _ => ?_⟩
    · rw [h7, nM_lt h3 (by omega)] at h; omega
    · rw [iN_one]
      exact inner k _ _ hk (fun u1 u2 => ih trivial (u1, u2))
noncomputable def f98 : gD := fun Lv σ => match Lv with
  | [some (.ref q0), none, none, none, none, none, none] => cond (Nat.beq q0 32) (some (some (TC σ 32), some (.int (bI (¬ (cBst (cR σ 32)).2.1 = -2))), cOnce σ)) none
  | _ => none
theorem ok98 : gFok 98 f98 := by
  intro Lv σ q h hc K hK
  unfold f98 at h
  split at h
  · rename_i q0
    obtain ⟨hb, h⟩ := c_no h
    have hb0 := hb
    have e0 := b_eq hb0
    subst e0
    cases h
    exact s98 (hc _ rfl) hK
  · cases h
noncomputable def gpcy_l : List (Nat × gD) := (98, f98) :: gpcx_l
noncomputable def gpcy : gP := gpl0 gpcy_l
theorem gpcy_ok : gPok gpcy := gpl0_cons ok98 (gpcx_ok)
-- text 40
/-! THE CLASS: settling is the reference's -/
abbrev bW (R : gW) : Prop := ∀ t, t < nM R → 0 ≤ fld R t 7
theorem bW_rsw {R : gW} {a b : Nat} (h : bW R) : bW (rsw R a b) := by
  intro t ht
  rw [nM_rsw] at ht
  rw [fld_rsw _ _ _ _ _ (by decide), if_neg (by decide)]
  exact h t ht
theorem sm_ar {n s f : Int32} (hn : 0 ≤ n ∧ n < 20) (h1 : -(100 * n) ≤ s) (h2 : s ≤ 100 * n) (h3 : -100 ≤ f) (h4 : f ≤ 100) : -(100 * (n + 1)) ≤ s + f ∧ s + f ≤ 100 * (n + 1) := by
  have := hn.1
  have := hn.2
  constructor <;> grind
theorem sm_b {f : Nat → Int32} : ∀ {n : Nat}, n ≤ 20 → (∀ t, t < n → -100 ≤ f t ∧ f t ≤ 100) → -(100 * iN n) ≤ sm f n ∧ sm f n ≤ 100 * iN n
  | 0, _, _ => ⟨show -(100 * (0 : Int32)) ≤ 0 from by decide, show (0 : Int32) ≤ 100 * 0 from by decide⟩
  | n + 1, hn, h => by
    have ih := sm_b (f := f) (n := n) (by omega) (fun t ht => h t (by omega))
    have hf := h n (by omega)
    have k := sm_ar (b20 (k := n) (by omega)) ih.1 ih.2 hf.1 hf.2
    rw [iN_one] at k
    exact k
theorem fJa_b {R : gW} (h : 0 ≤ R 3 ∧ R 3 ≤ 20) (hT : bT R) (hF : bF R) : -2000 ≤ fJa R ∧ fJa R ≤ 2000 := by
  have hn := (nM_of h).2
  have k := sm_b (f := fJo R) hn (fun t ht => fJo_b h hT hF ht)
  have l : iN (nM R) ≤ 20 := (iN_le (m := 20) (by omega) (by decide)).mpr (by omega)
  have l0 : 0 ≤ iN (nM R) := (iN_le (k := 0) (by decide) (by omega)).mpr (by omega)
  unfold fJa
  have := k.1; have := k.2
  grind
theorem bT_rsw {R : gW} {a b : Nat} (ha : a < nM R) (hb : b < nM R) (h : bT R) : bT (rsw R a b) := by
  intro t ht
  rw [nM_rsw] at ht
  rw [fld_rsw _ _ _ _ _ (by decide), fld_rsw _ _ _ _ _ (by decide), fld_rsw _ _ _ _ _ (by decide)]
  have q1 := h a ha
  have q2 := h b hb
  have q3 := h t ht
  grind
theorem fWhy_sym {R : gW} {a b : Nat} (h : bW R) (ha : a < nM R) (hb : b < nM R) : fWhy R a b 0 = 0 → fWhy R b a 0 = 0 := by
  have h1 := h a ha
  have h2 := h b hb
  unfold fWhy fRise
  rw [rsw_cm R b a]
  grind
theorem fRA_sym (R : gW) (a b : Nat) : fRA R a b = fRA R b a := by
  unfold fRA
  rw [rsw_cm R b a]
theorem best_ar {J J' g m : Int32} (h1 : -2000 ≤ J ∧ J ≤ 2000) (h2 : -2000 ≤ J' ∧ J' ≤ 2000) (hm : 0 ≤ m ∧ m ≤ 4000) (e : g = J + m) : (g < J' ↔ ¬ J' - J ≤ m) ∧ J' = J + (J' - J) ∧ J' - J ≤ 4000 := by
  subst e
  grind
/-- the reference's and the class's best so far -/
def bRel (R : gW) (s : Int32 × Int32 × Int32) (t : Int32 × Int32) : Prop := s.1 = fJa R + t.2 ∧ (0 ≤ t.2 ∧ t.2 ≤ 4000) ∧ ((s.2.1 = -2 ∧ t.1 = -2) ∨ ∃ a b, a < b ∧ b < nM R ∧ s.2.1 = iN a ∧ s.2.2 = iN b ∧ t.1 = 100 * iN a + iN b)
/-- a pair that can't better the best -/
def bSee (R : gW) (t : Int32 × Int32) (a b : Nat) : Prop := a = b ∨ 0 < fWhy R a b 0 ∨ fRA R a b ≤ t.2
theorem bsS_see {R : gW} {t : Int32 × Int32} {a b : Nat} (h : bSee R t a b) : bsS R a b t = t := by
  unfold bsS
  unfold bSee at h
  grind
theorem bsS_mono {R : gW} {t : Int32 × Int32} {a b c d : Nat} (h : bSee R t c d) : bSee R (bsS R a b t) c d := by
  unfold bsS
  unfold bSee at h ⊢
  grind
theorem bsS_new {R : gW} {t : Int32 × Int32} {a b : Nat} : bSee R (bsS R a b t) a b := by
  unfold bsS bSee
  grind
theorem bSee_sym {R : gW} {t : Int32 × Int32} {a b : Nat} (h : bW R) (ha : a < nM R) (hb : b < nM R) (hs : bSee R t a b) : bSee R t b a := by
  unfold bSee at hs ⊢
  rw [fRA_sym R b a]
  rcases hs with q | q | q
  · exact Or.inl q.symm
  · refine Or.inr (Or.inl ?_)
    rcases fWhy_c (R := R) (a := b) (b := a) (x := 0) with q2 | q2
    · rw [fWhy_sym h hb ha q2] at q; exact absurd q (by decide)
    · exact q2
  · exact Or.inr (Or.inr q)
theorem bsN_mono {R : gW} {t : Int32 × Int32} {a c d : Nat} (h : bSee R t c d) : ∀ {n : Nat}, bSee R (nfold (bsS R a) n t) c d
  | 0 => h
  | n + 1 => bsS_mono (bsN_mono h)
theorem bsN_new {R : gW} {t : Int32 × Int32} {a : Nat} : ∀ {n b : Nat}, b < n → bSee R (nfold (bsS R a) n t) a b
  | 0, _, h => absurd h (Nat.not_lt_zero _)
  | n + 1, b, h => by
    by_cases e : b = n
    · subst e; exact bsS_new
    · exact bsS_mono (bsN_new (by omega))
theorem bsN_low {R : gW} {t : Int32 × Int32} {a : Nat} (h : ∀ b, b < a → bSee R t a b) : ∀ {n : Nat}, n ≤ a + 1 → nfold (bsS R a) n t = t
  | 0, _ => rfl
  | n + 1, hn => by
    show bsS R a n (nfold (bsS R a) n t) = t
    rw [bsN_low h (by omega)]
    refine bsS_see ?_
    by_cases e : n = a
    · exact Or.inl e.symm
    · exact h n (by omega)
theorem bRel_step {R : gW} {s : Int32 × Int32 × Int32} {t : Int32 × Int32} {a j : Nat} (h3 : 0 ≤ R 3 ∧ R 3 ≤ 20) (hT : bT R) (hF : bF R) (hj : a + 1 + j < nM R) (h : bRel R s t) : bRel R (csS R a j s) (bsS R a (a + 1 + j) t) := by
  obtain ⟨e, hm, hp⟩ := h
  have k1 := fJa_b h3 hT hF
  have k2 : -2000 ≤ fJa (rsw R a (a + 1 + j)) ∧ fJa (rsw R a (a + 1 + j)) ≤ 2000 := fJa_b (by rw [rsw_3]; exact h3) (bT_rsw (by omega) hj hT) (bF_rsw hF)
  obtain ⟨a1, a2, a3⟩ := best_ar k1 k2 hm e
  have hne : a ≠ a + 1 + j := by omega
  unfold csS bsS
  by_cases hw : fWhy R a (a + 1 + j) 0 = 0
  · have nw : ¬ 0 < fWhy R a (a + 1 + j) 0 := by rw [hw]; decide
    by_cases hl : fRA R a (a + 1 + j) ≤ t.2
    · rw [if_neg (fun q => (a1.mp q.2) hl), if_neg (fun q => q.elim hne nw), if_pos hl]
      exact ⟨e, hm, hp⟩
    · rw [if_pos ⟨hw, a1.mpr hl⟩, if_neg (fun q => q.elim hne nw), if_neg hl]
      refine ⟨a2, ⟨?_, a3⟩, Or.inr ⟨a, a + 1 + j, by omega, hj, rfl, rfl, rfl⟩⟩
      have := hm.1
      grind
  · have yw : 0 < fWhy R a (a + 1 + j) 0 := (fWhy_c).resolve_left hw
    rw [if_neg (fun q => hw q.1), if_pos (Or.inr yw)]
    exact ⟨e, hm, hp⟩
theorem bRel_row {R : gW} {s : Int32 × Int32 × Int32} {t : Int32 × Int32} {a : Nat} (h3 : 0 ≤ R 3 ∧ R 3 ≤ 20) (hT : bT R) (hF : bF R) (ha : a < nM R) (hl : ∀ b, b < a → bSee R t a b) (h : bRel R s t) : bRel R (csR R a s) (bsR R a t) := by
  have key : ∀ j, a + 1 + j ≤ nM R → bRel R (nfold (csS R a) j s) (nfold (bsS R a) (a + 1 + j) t) := by
    intro j
    induction j with
    | zero =>
      intro _
      rw [bsN_low hl (by omega)]
      exact h
    | succ j ih =>
      intro hj
      exact bRel_step h3 hT hF (by omega) (ih (by omega))
  have k := key (nM R - (a + 1)) (by omega)
  rw [show a + 1 + (nM R - (a + 1)) = nM R from by omega] at k
  exact k
theorem bRel_all {R : gW} (h3 : 0 ≤ R 3 ∧ R 3 ≤ 20) (hT : bT R) (hF : bF R) (hW : bW R) : bRel R (cBst R) (nfold (bsR R) (nM R) (-2, 0)) := by
  have key : ∀ n, n ≤ nM R → bRel R (nfold (csR R) n (fJa R, -2, -2)) (nfold (bsR R) n (-2, 0)) ∧ ∀ a b, a < n → b < nM R → bSee R (nfold (bsR R) n (-2, 0)) a b := by
    intro n
    induction n with
    | zero =>
      intro _
      exact ⟨⟨(Int32.add_zero _).symm, show (0 : Int32) ≤ 0 ∧ (0 : Int32) ≤ 4000 from by decide, Or.inl ⟨rfl, rfl⟩⟩, fun a b h => absurd h (Nat.not_lt_zero _)⟩
    | succ n ih =>
      intro hn
      obtain ⟨i1, i2⟩ := ih (by omega)
      refine ⟨bRel_row h3 hT hF (by omega) (fun b hb => bSee_sym hW (by omega) (by omega) (i2 b n hb (by omega))) i1, fun a b ha hb => ?_⟩
      by_cases e : a = n
      · subst e; exact bsN_new hb
      · exact bsN_mono (i2 a b (by omega) hb)
  exact (key _ (Nat.le_refl _)).1
/-- the class's best exchange is the reference's -/
theorem cBst_fBest {R : gW} (h3 : 0 ≤ R 3 ∧ R 3 ≤ 20) (hT : bT R) (hF : bF R) (hW : bW R) : ((cBst R).2.1 = -2 ∧ fBest R < 0) ∨ ∃ a b, a < b ∧ b < nM R ∧ (cBst R).2.1 = iN a ∧ (cBst R).2.2 = iN b ∧ ¬ (cBst R).2.1 = -2 ∧ ¬ fBest R < 0 ∧ fNx R = rsw R a b := by
  have hn := (nM_of h3).2
  rcases (bRel_all h3 hT hF hW).2.2 with ⟨q1, q2⟩ | ⟨a, b, hab, hb, ea, eb, e⟩
  · exact Or.inl ⟨q1, by unfold fBest; rw [q2]; decide⟩
  · obtain ⟨d1, d2, d3⟩ := dm100 a (by omega) b (by omega)
    have eB : fBest R = 100 * iN a + iN b := e
    refine Or.inr ⟨a, b, hab, hb, ea, eb, ?_, by rw [eB]; exact d3, ?_⟩
    · rw [ea]
      intro q
      have := (b20 (k := a) (by omega)).1
      rw [q] at this
      exact absurd this (by decide)
    · unfold fNx
      rw [eB, d2, d1, iN_nat (by omega), iN_nat (by omega)]
