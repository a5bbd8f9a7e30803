/-! THE CLASS: its calls, swap, move, ring, first, set -/
noncomputable def gpct_l : List (Nat × gD) := (10, f10) :: gpcs_l
noncomputable def gpct : gP := gpl0 gpct_l
theorem gpct_ok : gPok gpct := gpl0_cons ok10 (gpcs_ok)
def gad (σ : gS) (p k : Nat) (x : Int32) : gS := gup σ p k (σ p k + x)
theorem gad_ne {σ : gS} {p k q j : Nat} {x : Int32} (h : ¬ (q = p ∧ j = k)) : gad σ p k x q j = σ q j := gup_ne h
theorem cExS_30 {σ : gS} {p a b : Nat} (h : TC σ p) (ha : a < nM (cR σ p)) (hb : b < nM (cR σ p)) : ∀ j, cExS σ p a b (p + 24) j = σ (p + 24) j := fun j => (cExS_ok h ha hb).2.2 _ _ (by omega) (by omega)
theorem cPas_30 {σ : gS} {p a b c : Nat} (h : TC σ p) (ha : a < nM (cR σ p)) (hb : b < nM (cR σ p)) (hc : c < nM (cR σ p)) (hd : a ≠ b ∧ b ≠ c ∧ a ≠ c) : ∀ j, cPas σ p a b c (p + 24) j = σ (p + 24) j := fun j => (cPas_ok h ha hb hc hd).2.2 _ _ (by omega) (by omega)
def cDsw (σ : gS) (a b : Nat) (x : Int32) : gS := cAdd (gad (gad (gad (gad (cExS σ 6 a b) (6 + 2 + a) 8 (-x)) (6 + 2 + b) 8 x) 6 8 1) 6 11 x) 1 (100 * iN a + iN b) x
def cDmo (σ : gS) (a : Nat) (x : Int32) : gS := cAdd (gad (cSit σ 6 a x) 6 9 1) 2 (iN a) (σ (6 + 2 + a) 1)
def cDri (σ : gS) (a b c : Nat) : gS := cAdd (gad (cPas σ 6 a b c) 6 10 1) 3 (10000 * iN a + 100 * iN b + iN c) 0
set_option maxRecDepth 20000 in
theorem w89 {σ : gS} {K : gK} {a b x : Int32} (h : ((0 ≤ a ∧ a < 20) ∧ (0 ≤ b ∧ b < 20)) ∧ (0 ≤ a ∧ a < 20) ∧ gTv (6 + 2 + a.toNatClampNeg) ∧ gTv (6 + 2 + a.toNatClampNeg) ∧ gE 89 20 [some (.ref 6), some (.int a), some (.int b), some (.int x)] [] (gup (cExS σ 6 a.toNatClampNeg b.toNatClampNeg) (6 + 2 + a.toNatClampNeg) 8 (((cExS σ 6 a.toNatClampNeg b.toNatClampNeg) (6 + 2 + a.toNatClampNeg) 8) - x)) K) : gE 89 0 [some (.ref 6), some (.int a), some (.int b), some (.int x)] [] σ K :=
  gw_run (cy := 89) (cuts := [20, 34, 44, 54]) (inl := []) (pf := gpct) gpct_ok 400 (by decide) h
set_option maxRecDepth 20000 in
theorem c89_20 {σ : gS} {K : gK} {l1 l2 l3 : Int32} (h : (0 ≤ l2 ∧ l2 < 20) ∧ gTv (6 + 2 + l2.toNatClampNeg) ∧ gTv (6 + 2 + l2.toNatClampNeg) ∧ gE 89 34 [some (.ref 6), some (.int l1), some (.int l2), some (.int l3)] [] (gup σ (6 + 2 + l2.toNatClampNeg) 8 ((σ (6 + 2 + l2.toNatClampNeg) 8) + l3)) K) : gE 89 20 [some (.ref 6), some (.int l1), some (.int l2), some (.int l3)] [] σ K :=
  gw_run (cy := 89) (cuts := [20, 34, 44, 54]) (inl := []) (pf := gpct) gpct_ok 400 (by decide) h
set_option maxRecDepth 20000 in
theorem c89_34 {σ : gS} {K : gK} {l1 l2 l3 : Int32} (h : gE 89 44 [some (.ref 6), some (.int l1), some (.int l2), some (.int l3)] [] (gup σ 6 8 ((σ 6 8) + 1)) K) : gE 89 34 [some (.ref 6), some (.int l1), some (.int l2), some (.int l3)] [] σ K :=
  gw_run (cy := 89) (cuts := [20, 34, 44, 54]) (inl := []) (pf := gpct) gpct_ok 400 (by decide) h
set_option maxRecDepth 20000 in
theorem c89_44 {σ : gS} {K : gK} {l1 l2 l3 : Int32} (h : gE 89 54 [some (.ref 6), some (.int l1), some (.int l2), some (.int l3)] [] (gup σ 6 11 ((σ 6 11) + l3)) K) : gE 89 44 [some (.ref 6), some (.int l1), some (.int l2), some (.int l3)] [] σ K :=
  gw_run (cy := 89) (cuts := [20, 34, 44, 54]) (inl := []) (pf := gpct) gpct_ok 400 (by decide) h
set_option maxRecDepth 20000 in
theorem c89_54 {σ : gS} {K : gK} {l1 l2 l3 : Int32} (h : (bLg σ 30) ∧ K none (cAdd σ (1 : Int32) ((100 * l1) + l2) l3)) : gE 89 54 [some (.ref 6), some (.int l1), some (.int l2), some (.int l3)] [] σ K :=
  gw_run (cy := 89) (cuts := [20, 34, 44, 54]) (inl := []) (pf := gpct) gpct_ok 400 (by decide) h
theorem s89 {σ : gS} {K : gK} {a b x : Int32} (hc : (isN σ 6 a ∧ isN σ 6 b) ∧ TC σ 6 ∧ bLg σ 30) (hK : K none (cDsw σ a.toNatClampNeg b.toNatClampNeg x)) : gE 89 0 [some (.ref 6), some (.int a), some (.int b), some (.int x)] [] σ K := by
  obtain ⟨⟨ha, hb⟩, hT, hl⟩ := hc
  have ea := (t20 ha.1).1
  have eb := (t20 hb.1).1
  have tva := tv_6 _ (n20 ha.1)
  have tvb := tv_6 _ (n20 hb.1)
  have e30 := cExS_30 hT ha.2 hb.2
  unfold cDsw gad at hK
  rw [← ea, ← eb] at hK
  have la := n20 ha.1
  have lb := n20 hb.1
  refine w89 ⟨⟨ha.1, hb.1⟩, ha.1, tva, tva, c89_20 ⟨hb.1, tvb, tvb, c89_34 (c89_44 (c89_54 ⟨?_, ?_⟩))⟩⟩
  · have e : ∀ j, gup (gup (gup (gup (cExS σ 6 a.toNatClampNeg b.toNatClampNeg) (6 + 2 + a.toNatClampNeg) 8 (cExS σ 6 a.toNatClampNeg b.toNatClampNeg (6 + 2 + a.toNatClampNeg) 8 - x)) (6 + 2 + b.toNatClampNeg) 8 (gup (cExS σ 6 a.toNatClampNeg b.toNatClampNeg) (6 + 2 + a.toNatClampNeg) 8 (cExS σ 6 a.toNatClampNeg b.toNatClampNeg (6 + 2 + a.toNatClampNeg) 8 - x) (6 + 2 + b.toNatClampNeg) 8 + x)) 6 8 (gup (gup (cExS σ 6 a.toNatClampNeg b.toNatClampNeg) (6 + 2 + a.toNatClampNeg) 8 (cExS σ 6 a.toNatClampNeg b.toNatClampNeg (6 + 2 + a.toNatClampNeg) 8 - x)) (6 + 2 + b.toNatClampNeg) 8 (gup (cExS σ 6 a.toNatClampNeg b.toNatClampNeg) (6 + 2 + a.toNatClampNeg) 8 (cExS σ 6 a.toNatClampNeg b.toNatClampNeg (6 + 2 + a.toNatClampNeg) 8 - x) (6 + 2 + b.toNatClampNeg) 8 + x) 6 8 + 1)) 6 11 (gup (gup (gup (cExS σ 6 a.toNatClampNeg b.toNatClampNeg) (6 + 2 + a.toNatClampNeg) 8 (cExS σ 6 a.toNatClampNeg b.toNatClampNeg (6 + 2 + a.toNatClampNeg) 8 - x)) (6 + 2 + b.toNatClampNeg) 8 (gup (cExS σ 6 a.toNatClampNeg b.toNatClampNeg) (6 + 2 + a.toNatClampNeg) 8 (cExS σ 6 a.toNatClampNeg b.toNatClampNeg (6 + 2 + a.toNatClampNeg) 8 - x) (6 + 2 + b.toNatClampNeg) 8 + x)) 6 8 (gup (gup (cExS σ 6 a.toNatClampNeg b.toNatClampNeg) (6 + 2 + a.toNatClampNeg) 8 (cExS σ 6 a.toNatClampNeg b.toNatClampNeg (6 + 2 + a.toNatClampNeg) 8 - x)) (6 + 2 + b.toNatClampNeg) 8 (gup (cExS σ 6 a.toNatClampNeg b.toNatClampNeg) (6 + 2 + a.toNatClampNeg) 8 (cExS σ 6 a.toNatClampNeg b.toNatClampNeg (6 + 2 + a.toNatClampNeg) 8 - x) (6 + 2 + b.toNatClampNeg) 8 + x) 6 8 + 1) 6 11 + x) 30 j = σ 30 j := fun j => by
      rw [gup_ne (by omega), gup_ne (by omega), gup_ne (by omega), gup_ne (by omega)]
      exact e30 j
    unfold bLg
    rw [e, e]
    exact hl
  · simp only [Int32.sub_eq_add_neg]
    exact hK
noncomputable def f89 : gD := fun Lv σ => match Lv with
  | [some (.ref q0), some (.int a), some (.int b), some (.int x)] => cond (Nat.beq q0 6) (some (some ((isN σ 6 a ∧ isN σ 6 b) ∧ TC σ 6 ∧ bLg σ 30), none, cDsw σ a.toNatClampNeg b.toNatClampNeg x)) none
  | _ => none
theorem ok89 : gFok 89 f89 := by
  intro Lv σ q h hc K hK
  unfold f89 at h
  split at h
  · rename_i q0 a b x
    obtain ⟨hb, h⟩ := c_no h
    have hb0 := hb
    have e0 := b_eq hb0
    subst e0
    cases h
    exact s89 (hc _ rfl) hK
  · cases h
set_option maxRecDepth 20000 in
theorem w91 {σ : gS} {K : gK} {a x : Int32} (h : (0 ≤ a ∧ a < 20) ∧ gTv (6 + 2 + a.toNatClampNeg) ∧ (0 ≤ a ∧ a < 20) ∧ gE 91 25 [some (.ref 6), some (.int a), some (.int x), some (.int (σ (6 + 2 + a.toNatClampNeg) 1))] [] (gup (cSit σ 6 a.toNatClampNeg x) 6 9 (((cSit σ 6 a.toNatClampNeg x) 6 9) + 1)) K) : gE 91 0 [some (.ref 6), some (.int a), some (.int x), none] [] σ K :=
  gw_run (cy := 91) (cuts := [25]) (inl := []) (pf := gpct) gpct_ok 400 (by decide) h
set_option maxRecDepth 20000 in
theorem c91_25 {σ : gS} {K : gK} {l1 l2 l3 : Int32} (h : (bLg σ 30) ∧ K none (cAdd σ (2 : Int32) l1 l3)) : gE 91 25 [some (.ref 6), some (.int l1), some (.int l2), some (.int l3)] [] σ K :=
  gw_run (cy := 91) (cuts := [25]) (inl := []) (pf := gpct) gpct_ok 400 (by decide) h
theorem s91 {σ : gS} {K : gK} {a x : Int32} (hc : isN σ 6 a ∧ (0 ≤ x ∧ x < 40) ∧ TC σ 6 ∧ bLg σ 30) (hK : K none (cDmo σ a.toNatClampNeg x)) : gE 91 0 [some (.ref 6), some (.int a), some (.int x), none] [] σ K := by
  obtain ⟨ha, hx, hT, hl⟩ := hc
  have ea := (t20 ha.1).1
  have tva := tv_6 _ (n20 ha.1)
  have e30 : ∀ j, cSit σ 6 a.toNatClampNeg x 30 j = σ 30 j := fun j => (cSit_ok hT ha.2 hx).2.2 _ _ (by omega) (by omega)
  unfold cDmo gad at hK
  rw [← ea] at hK
  refine w91 ⟨ha.1, tva, ha.1, c91_25 ⟨?_, hK⟩⟩
  have e : ∀ j, gup (cSit σ 6 a.toNatClampNeg x) 6 9 (cSit σ 6 a.toNatClampNeg x 6 9 + 1) 30 j = σ 30 j := fun j => by rw [gup_ne (by omega)]; exact e30 j
  unfold bLg
  rw [e, e]
  exact hl
noncomputable def f91 : gD := fun Lv σ => match Lv with
  | [some (.ref q0), some (.int a), some (.int x), none] => cond (Nat.beq q0 6) (some (some (isN σ 6 a ∧ (0 ≤ x ∧ x < 40) ∧ TC σ 6 ∧ bLg σ 30), none, cDmo σ a.toNatClampNeg x)) none
  | _ => none
theorem ok91 : gFok 91 f91 := by
  intro Lv σ q h hc K hK
  unfold f91 at h
  split at h
  · rename_i q0 a x
    obtain ⟨hb, h⟩ := c_no h
    have hb0 := hb
    have e0 := b_eq hb0
    subst e0
    cases h
    exact s91 (hc _ rfl) hK
  · cases h
set_option maxRecDepth 20000 in
theorem w94 {σ : gS} {K : gK} {a b c : Int32} (h : ((0 ≤ a ∧ a < 20) ∧ (0 ≤ b ∧ b < 20) ∧ (0 ≤ c ∧ c < 20)) ∧ gE 94 17 [some (.ref 6), some (.int a), some (.int b), some (.int c)] [] (gup (cPas σ 6 a.toNatClampNeg b.toNatClampNeg c.toNatClampNeg) 6 10 (((cPas σ 6 a.toNatClampNeg b.toNatClampNeg c.toNatClampNeg) 6 10) + 1)) K) : gE 94 0 [some (.ref 6), some (.int a), some (.int b), some (.int c)] [] σ K :=
  gw_run (cy := 94) (cuts := [17]) (inl := []) (pf := gpct) gpct_ok 400 (by decide) h
set_option maxRecDepth 20000 in
theorem c94_17 {σ : gS} {K : gK} {l1 l2 l3 : Int32} (h : (bLg σ 30) ∧ K none (cAdd σ (3 : Int32) (((10000 * l1) + (100 * l2)) + l3) (0 : Int32))) : gE 94 17 [some (.ref 6), some (.int l1), some (.int l2), some (.int l3)] [] σ K :=
  gw_run (cy := 94) (cuts := [17]) (inl := []) (pf := gpct) gpct_ok 400 (by decide) h
theorem s94 {σ : gS} {K : gK} {a b c : Int32} (hc : (isN σ 6 a ∧ isN σ 6 b ∧ isN σ 6 c) ∧ (a.toNatClampNeg ≠ b.toNatClampNeg ∧ b.toNatClampNeg ≠ c.toNatClampNeg ∧ a.toNatClampNeg ≠ c.toNatClampNeg) ∧ TC σ 6 ∧ bLg σ 30) (hK : K none (cDri σ a.toNatClampNeg b.toNatClampNeg c.toNatClampNeg)) : gE 94 0 [some (.ref 6), some (.int a), some (.int b), some (.int c)] [] σ K := by
  obtain ⟨⟨ha, hb, hcc⟩, hd, hT, hl⟩ := hc
  have ea := (t20 ha.1).1
  have eb := (t20 hb.1).1
  have ec := (t20 hcc.1).1
  have e30 := cPas_30 hT ha.2 hb.2 hcc.2 hd
  unfold cDri gad at hK
  rw [← ea, ← eb, ← ec] at hK
  refine w94 ⟨⟨ha.1, hb.1, hcc.1⟩, c94_17 ⟨?_, hK⟩⟩
  have e : ∀ j, gup (cPas σ 6 a.toNatClampNeg b.toNatClampNeg c.toNatClampNeg) 6 10 (cPas σ 6 a.toNatClampNeg b.toNatClampNeg c.toNatClampNeg 6 10 + 1) 30 j = σ 30 j := fun j => by rw [gup_ne (by omega)]; exact e30 j
  unfold bLg
  rw [e, e]
  exact hl
noncomputable def f94 : gD := fun Lv σ => match Lv with
  | [some (.ref q0), some (.int a), some (.int b), some (.int c)] => cond (Nat.beq q0 6) (some (some ((isN σ 6 a ∧ isN σ 6 b ∧ isN σ 6 c) ∧ (a.toNatClampNeg ≠ b.toNatClampNeg ∧ b.toNatClampNeg ≠ c.toNatClampNeg ∧ a.toNatClampNeg ≠ c.toNatClampNeg) ∧ TC σ 6 ∧ bLg σ 30), none, cDri σ a.toNatClampNeg b.toNatClampNeg c.toNatClampNeg)) none
  | _ => none
theorem ok94 : gFok 94 f94 := by
  intro Lv σ q h hc K hK
  unfold f94 at h
  split at h
  · rename_i q0 a b c
    obtain ⟨hb, h⟩ := c_no h
    have hb0 := hb
    have e0 := b_eq hb0
    subst e0
    cases h
    exact s94 (hc _ rfl) hK
  · cases h
set_option maxRecDepth 20000 in
theorem w149 {σ : gS} {K : gK} {a b : Int32} (h : (((bI (isT (cR σ 6) a)) = 0 → ((0 : Int32) = 0 ∨ (0 : Int32) = 1) ∧ K (some (.int 0)) σ) ∧ (¬ (bI (isT (cR σ 6) a)) = 0 → (((bI (isT (cR σ 6) b)) = 0 → ((0 : Int32) = 0 ∨ (0 : Int32) = 1) ∧ K (some (.int 0)) σ) ∧ (¬ (bI (isT (cR σ 6) b)) = 0 → ((a = b → ((0 : Int32) = 0 ∨ (0 : Int32) = 1) ∧ K (some (.int 0)) σ) ∧ (¬ a = b → ((1 : Int32) = 0 ∨ (1 : Int32) = 1) ∧ K (some (.int 1)) σ))))))) : gE 149 0 [some (.ref 0), some (.int a), some (.int b)] [] σ K :=
  gw_run (cy := 149) (cuts := []) (inl := []) (pf := gpct) gpct_ok 400 (by decide) h
theorem s149 {σ : gS} {K : gK} {a b : Int32} (hK : K (some (.int (bI (isP (cR σ 6) a b)))) σ) : gE 149 0 [some (.ref 0), some (.int a), some (.int b)] [] σ K := by
  refine w149 ?_
  simp only [bI_0]
  grind [bI]
noncomputable def f149 : gD := fun Lv σ => match Lv with
  | [some (.ref q0), some (.int a), some (.int b)] => cond (Nat.beq q0 0) (some (none, some (.int (bI (isP (cR σ 6) a b))), σ)) none
  | _ => none
theorem ok149 : gFok 149 f149 := by
  intro Lv σ q h hc K hK
  unfold f149 at h
  split at h
  · rename_i q0 a b
    obtain ⟨hb, h⟩ := c_no h
    have hb0 := hb
    have e0 := b_eq hb0
    subst e0
    cases h
    exact s149 hK
  · cases h
noncomputable def gpcu_l : List (Nat × gD) := (89, f89) :: (91, f91) :: (94, f94) :: (149, f149) :: gpct_l
noncomputable def gpcu : gP := gpl0 gpcu_l
theorem gpcu_ok : gPok gpcu := gpl0_cons ok89 (gpl0_cons ok91 (gpl0_cons ok94 (gpl0_cons ok149 (gpct_ok))))
