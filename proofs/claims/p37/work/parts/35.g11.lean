section
-- text 11
/-! THE REFERENCE: sums, swaps, rings -/
noncomputable def gpfC_l : List (Nat × gD) := (167, f167) :: (169, f169) :: gpfB_l
noncomputable def gpfC : gP := gpl0 gpfC_l
theorem gpfC_ok : gPok gpfC := gpl0_cons ok167 (gpl0_cons ok169 (gpfB_ok))
theorem b20 {k : Nat} (h : k < 20) : 0 ≤ iN k ∧ iN k < 20 := ⟨(iN_le (k := 0) (by decide) (by omega)).mpr (by omega), (iN_lt (m := 20) (by omega) (by decide)).mpr h⟩
def grow (σ : gS) (p : Nat) (R : gW) : gS := fun b j => if b = p then R j else σ b j
def rup (R : gW) (k : Nat) (x : Int32) : gW := fun j => if j = k then x else R j
theorem grow_at (σ : gS) (p : Nat) (R : gW) : grow σ p R p = R := by funext j; unfold grow; rw [if_pos rfl]
theorem grow_ne {σ : gS} {p q : Nat} {R : gW} (h : ¬ q = p) : grow σ p R q = σ q := by funext j; unfold grow; rw [if_neg h]
theorem grow_grow (σ : gS) (p : Nat) (R S : gW) : grow (grow σ p R) p S = grow σ p S := by
  funext b j; unfold grow
  by_cases h : b = p
  · rw [if_pos h, if_pos h]
  · rw [if_neg h, if_neg h, if_neg h]
theorem grow_id (σ : gS) (p : Nat) : grow σ p (σ p) = σ := by
  funext b j; unfold grow
  by_cases h : b = p
  · rw [if_pos h, h]
  · rw [if_neg h]
theorem gup_grow (σ : gS) (p k : Nat) (x : Int32) : gup σ p k x = grow σ p (rup (σ p) k x) := by
  funext b j; unfold gup grow rup
  by_cases h : b = p
  · rw [if_pos h]
    by_cases h2 : j = k
    · rw [if_pos ⟨h, h2⟩, if_pos h2]
    · rw [if_neg (fun e => h2 e.2), if_neg h2, h]
  · rw [if_neg h, if_neg (fun e => h e.1)]
theorem rup_at (R : gW) (k : Nat) (x : Int32) : rup R k x k = x := by unfold rup; rw [if_pos rfl]
theorem rup_ne {R : gW} {k j : Nat} {x : Int32} (h : ¬ j = k) : rup R k x j = R j := by unfold rup; rw [if_neg h]
/-- two travellers' seats exchanged -/
def rsw (R : gW) (a b : Nat) : gW := rup (rup R (9 + 10 * a) (R (9 + 10 * b))) (9 + 10 * b) (R (9 + 10 * a))
theorem rsw_eq (R : gW) (a b j : Nat) : rsw R a b j = if j = 9 + 10 * b then R (9 + 10 * a) else if j = 9 + 10 * a then R (9 + 10 * b) else R j := rfl
theorem rsw_rsw (R : gW) (a b : Nat) : rsw (rsw R a b) a b = R := by
  funext j
  simp only [rsw_eq]
  grind
theorem rsw_3 (R : gW) (a b : Nat) : rsw R a b 3 = R 3 := by rw [rsw_eq, if_neg (by omega), if_neg (by omega)]
/-- three travellers' seats turned round: the first gets the second's, and on -/
def rtu (R : gW) (a b c : Nat) : gW := rup (rup (rup R (9 + 10 * a) (R (9 + 10 * b))) (9 + 10 * b) (rup R (9 + 10 * a) (R (9 + 10 * b)) (9 + 10 * c))) (9 + 10 * c) (R (9 + 10 * a))
theorem rtu_eq {R : gW} {a b c : Nat} (h : a ≠ b ∧ b ≠ c ∧ a ≠ c) (j : Nat) : rtu R a b c j = if j = 9 + 10 * c then R (9 + 10 * a) else if j = 9 + 10 * b then R (9 + 10 * c) else if j = 9 + 10 * a then R (9 + 10 * b) else R j := by
  unfold rtu rup
  grind
theorem rtu_rtu {R : gW} {a b c : Nat} (h : a ≠ b ∧ b ≠ c ∧ a ≠ c) : rtu (rtu R a b c) c b a = R := by
  funext j
  rw [rtu_eq ⟨fun e => h.2.1 e.symm, fun e => h.1 e.symm, fun e => h.2.2 e.symm⟩]
  simp only [rtu_eq h]
  grind
theorem rtu_3 {R : gW} {a b c : Nat} (h : a ≠ b ∧ b ≠ c ∧ a ≠ c) : rtu R a b c 3 = R 3 := by rw [rtu_eq h, if_neg (by omega), if_neg (by omega), if_neg (by omega)]
def fJa (R : gW) : Int32 := sm (fJo R) (nM R)
def fGr (R : gW) : Int32 := iN (cnt (fun t => decide (fJo R t < 0)) (nM R))
def fBar (R : gW) (f : Int32) : Int32 := iN (cnt (fun t => decide (¬ (fld R t 1 = 1 ∨ f ≤ fld R t 0 / 4))) (nM R))
def fRise (R : gW) (a b w : Nat) : Int32 := fJo (rsw R a b) w - fJo R w
def fRA (R : gW) (a b : Nat) : Int32 := fJa (rsw R a b) - fJa R
def fWhy (R : gW) (a b : Nat) (x : Int32) : Int32 := if ¬ fMay R a (fld R b 0) ∨ ¬ fMay R b (fld R a 0) then 1 else if fld R a 7 < x then 2 else if fRise R a b a < x then 3 else if fRise R a b b < -x then 4 else 0
def fWhyM (R : gW) (t : Nat) (x : Int32) : Int32 := if 0 ≤ fWho R x then 5 else if ¬ fMay R t x then 1 else if fJoy R t x < fJo R t then 6 else 0
def fRR (R : gW) (a b c w : Nat) : Int32 := fJo (rtu R a b c) w - fJo R w
def fWhyR (R : gW) (a b c : Nat) : Int32 := if ¬ fMay R a (fld R b 0) ∨ ¬ fMay R b (fld R c 0) ∨ ¬ fMay R c (fld R a 0) then 1 else if fRR R a b c a < 0 then 6 else if fRR R a b c b < 0 then 6 else if fRR R a b c c < 0 then 6 else 0
def fROR (R : gW) (a b c : Nat) : Int32 := fRR R a b c a + fRR R a b c b + fRR R a b c c
set_option maxRecDepth 20000 in
theorem w170_324 {σ : gS} {K : gK} {t : Int32} (h : (0 ≤ (9 + 10 * t + (0 : Int32)) ∧ (9 + 10 * t + (0 : Int32)) < 330) ∧ ((0 ≤ t ∧ t < 20) ∧ 0 ≤ σ 324 3 ∧ σ 324 3 ≤ 20) ∧ K (some (.int (fJoy (σ 324) t.toNatClampNeg (σ 324 (9 + 10 * t + (0 : Int32)).toNatClampNeg)))) σ) : gE 170 0 [some (.ref 324), some (.int t)] [] σ K :=
  gw_run (cy := 170) (cuts := []) (inl := []) (pf := gpfC) gpfC_ok 400 (by decide) h
theorem s170_324 {σ : gS} {K : gK} {t : Int32} (hc : (0 ≤ t ∧ t < 20) ∧ 0 ≤ σ 324 3 ∧ σ 324 3 ≤ 20) (hK : K (some (.int (fJo (σ 324) t.toNatClampNeg))) σ) : gE 170 0 [some (.ref 324), some (.int t)] [] σ K := by
  obtain ⟨ht, hc⟩ := hc
  obtain ⟨et, lt⟩ := t20 ht
  obtain ⟨mt, nt⟩ : ∃ m, t.toNatClampNeg = m := ⟨_, rfl⟩
  rw [nt] at et lt hK
  subst et
  refine w170_324 ⟨ixb0 lt, ⟨⟨ht, hc⟩, ?_⟩⟩
  rw [ix0 lt, iN_nat (by omega)]
  exact hK
set_option maxRecDepth 20000 in
theorem w170_325 {σ : gS} {K : gK} {t : Int32} (h : (0 ≤ (9 + 10 * t + (0 : Int32)) ∧ (9 + 10 * t + (0 : Int32)) < 330) ∧ ((0 ≤ t ∧ t < 20) ∧ 0 ≤ σ 325 3 ∧ σ 325 3 ≤ 20) ∧ K (some (.int (fJoy (σ 325) t.toNatClampNeg (σ 325 (9 + 10 * t + (0 : Int32)).toNatClampNeg)))) σ) : gE 170 0 [some (.ref 325), some (.int t)] [] σ K :=
  gw_run (cy := 170) (cuts := []) (inl := []) (pf := gpfC) gpfC_ok 400 (by decide) h
theorem s170_325 {σ : gS} {K : gK} {t : Int32} (hc : (0 ≤ t ∧ t < 20) ∧ 0 ≤ σ 325 3 ∧ σ 325 3 ≤ 20) (hK : K (some (.int (fJo (σ 325) t.toNatClampNeg))) σ) : gE 170 0 [some (.ref 325), some (.int t)] [] σ K := by
  obtain ⟨ht, hc⟩ := hc
  obtain ⟨et, lt⟩ := t20 ht
  obtain ⟨mt, nt⟩ : ∃ m, t.toNatClampNeg = m := ⟨_, rfl⟩
  rw [nt] at et lt hK
  subst et
  refine w170_325 ⟨ixb0 lt, ⟨⟨ht, hc⟩, ?_⟩⟩
  rw [ix0 lt, iN_nat (by omega)]
  exact hK
set_option maxRecDepth 20000 in
theorem w170_326 {σ : gS} {K : gK} {t : Int32} (h : (0 ≤ (9 + 10 * t + (0 : Int32)) ∧ (9 + 10 * t + (0 : Int32)) < 330) ∧ ((0 ≤ t ∧ t < 20) ∧ 0 ≤ σ 326 3 ∧ σ 326 3 ≤ 20) ∧ K (some (.int (fJoy (σ 326) t.toNatClampNeg (σ 326 (9 + 10 * t + (0 : Int32)).toNatClampNeg)))) σ) : gE 170 0 [some (.ref 326), some (.int t)] [] σ K :=
  gw_run (cy := 170) (cuts := []) (inl := []) (pf := gpfC) gpfC_ok 400 (by decide) h
theorem s170_326 {σ : gS} {K : gK} {t : Int32} (hc : (0 ≤ t ∧ t < 20) ∧ 0 ≤ σ 326 3 ∧ σ 326 3 ≤ 20) (hK : K (some (.int (fJo (σ 326) t.toNatClampNeg))) σ) : gE 170 0 [some (.ref 326), some (.int t)] [] σ K := by
  obtain ⟨ht, hc⟩ := hc
  obtain ⟨et, lt⟩ := t20 ht
  obtain ⟨mt, nt⟩ : ∃ m, t.toNatClampNeg = m := ⟨_, rfl⟩
  rw [nt] at et lt hK
  subst et
  refine w170_326 ⟨ixb0 lt, ⟨⟨ht, hc⟩, ?_⟩⟩
  rw [ix0 lt, iN_nat (by omega)]
  exact hK
noncomputable def f170 : gD := fun Lv σ => match Lv with
  | [some (.ref p), some (.int t)] => cond (Nat.beq p 324 || Nat.beq p 325 || Nat.beq p 326) (some (some ((0 ≤ t ∧ t < 20) ∧ 0 ≤ σ p 3 ∧ σ p 3 ≤ 20), some (.int (fJo (σ p) t.toNatClampNeg)), σ)) none
  | _ => none
theorem ok170 : gFok 170 f170 := by
  intro Lv σ q h hc K hK
  unfold f170 at h
  split at h
  · rename_i p t
    obtain ⟨hb, h⟩ := c_no h
    have hb0 := hb
    rcases s_or hb0 with hb0 | hb0
    · rcases s_or hb0 with hb0 | hb0
      · have e := b_eq hb0
        subst e
        cases h
        exact s170_324 (hc _ rfl) hK
      · have e := b_eq hb0
        subst e
        cases h
        exact s170_325 (hc _ rfl) hK
    · have e := b_eq hb0
      subst e
      cases h
      exact s170_326 (hc _ rfl) hK
  · cases h
noncomputable def gpfD_l : List (Nat × gD) := (170, f170) :: gpfC_l
noncomputable def gpfD : gP := gpl0 gpfD_l
theorem gpfD_ok : gPok gpfD := gpl0_cons ok170 (gpfC_ok)
set_option maxRecDepth 20000 in
theorem w171_324 {σ : gS} {K : gK} (h : gE 171 4 [some (.ref 324), some (.int 0), some (.int 0)] [] σ K) : gE 171 0 [some (.ref 324), none, none] [] σ K :=
  gw_run (cy := 171) (cuts := [4]) (inl := []) (pf := gpfD) gpfD_ok 400 (by decide) h
set_option maxRecDepth 20000 in
theorem v171_324 {σ : gS} {K : gK} {s t : Int32} (h : (0 ≤ (3 : Int32) ∧ (3 : Int32) < 330) ∧ ((¬ t < (σ 324 3) → K (some (.int s)) σ) ∧ (t < (σ 324 3) → ((0 ≤ t ∧ t < 20) ∧ 0 ≤ σ 324 3 ∧ σ 324 3 ≤ 20) ∧ gE 171 4 [some (.ref 324), some (.int (s + (fJo (σ 324) t.toNatClampNeg))), some (.int (t + 1))] [] σ K))) : gE 171 4 [some (.ref 324), some (.int s), some (.int t)] [] σ K :=
  gw_run (cy := 171) (cuts := [4]) (inl := []) (pf := gpfD) gpfD_ok 400 (by decide) h
theorem s171_324 {σ : gS} {K : gK} (hc : 0 ≤ σ 324 3 ∧ σ 324 3 ≤ 20) (hK : K (some (.int (fJa (σ 324)))) σ) : gE 171 0 [some (.ref 324), none, none] [] σ K := by
  refine w171_324 ?_
  refine g_forI (nM (σ 324)) (fun k => [some (.ref 324), some (.int (sm (fJo (σ 324)) k)), some (.int (iN k))]) (fun _ => σ) (fun _ => True) (fun _ => ?_) (fun k hk _ ih => ?_) 0 (Nat.zero_le _) trivial
  · have hn := (nM_of hc).2
    refine v171_324 ⟨by decide, fun _ => hK, fun h => ?_⟩
    rw [nM_lt hc (by omega)] at h; omega
  · have hn := (nM_of hc).2
    have hk20 : k < 20 := by omega
    refine v171_324 ⟨by decide, fun h => ?_, fun _ => ⟨⟨b20 hk20, hc⟩, ?_⟩⟩
    · rw [nM_lt hc (by omega)] at h; omega
    · rw [iN_nat (by omega), iN_one]
      exact ih trivial
set_option maxRecDepth 20000 in
theorem w171_325 {σ : gS} {K : gK} (h : gE 171 4 [some (.ref 325), some (.int 0), some (.int 0)] [] σ K) : gE 171 0 [some (.ref 325), none, none] [] σ K :=
  gw_run (cy := 171) (cuts := [4]) (inl := []) (pf := gpfD) gpfD_ok 400 (by decide) h
set_option maxRecDepth 20000 in
theorem v171_325 {σ : gS} {K : gK} {s t : Int32} (h : (0 ≤ (3 : Int32) ∧ (3 : Int32) < 330) ∧ ((¬ t < (σ 325 3) → K (some (.int s)) σ) ∧ (t < (σ 325 3) → ((0 ≤ t ∧ t < 20) ∧ 0 ≤ σ 325 3 ∧ σ 325 3 ≤ 20) ∧ gE 171 4 [some (.ref 325), some (.int (s + (fJo (σ 325) t.toNatClampNeg))), some (.int (t + 1))] [] σ K))) : gE 171 4 [some (.ref 325), some (.int s), some (.int t)] [] σ K :=
  gw_run (cy := 171) (cuts := [4]) (inl := []) (pf := gpfD) gpfD_ok 400 (by decide) h
theorem s171_325 {σ : gS} {K : gK} (hc : 0 ≤ σ 325 3 ∧ σ 325 3 ≤ 20) (hK : K (some (.int (fJa (σ 325)))) σ) : gE 171 0 [some (.ref 325), none, none] [] σ K := by
  refine w171_325 ?_
  refine g_forI (nM (σ 325)) (fun k => [some (.ref 325), some (.int (sm (fJo (σ 325)) k)), some (.int (iN k))]) (fun _ => σ) (fun _ => True) (fun _ => ?_) (fun k hk _ ih => ?_) 0 (Nat.zero_le _) trivial
  · have hn := (nM_of hc).2
    refine v171_325 ⟨by decide, fun _ => hK, fun h => ?_⟩
    rw [nM_lt hc (by omega)] at h; omega
  · have hn := (nM_of hc).2
    have hk20 : k < 20 := by omega
    refine v171_325 ⟨by decide, fun h => ?_, fun _ => ⟨⟨b20 hk20, hc⟩, ?_⟩⟩
    · rw [nM_lt hc (by omega)] at h; omega
    · rw [iN_nat (by omega), iN_one]
      exact ih trivial
set_option maxRecDepth 20000 in
theorem w171_326 {σ : gS} {K : gK} (h : gE 171 4 [some (.ref 326), some (.int 0), some (.int 0)] [] σ K) : gE 171 0 [some (.ref 326), none, none] [] σ K :=
  gw_run (cy := 171) (cuts := [4]) (inl := []) (pf := gpfD) gpfD_ok 400 (by decide) h
set_option maxRecDepth 20000 in
theorem v171_326 {σ : gS} {K : gK} {s t : Int32} (h : (0 ≤ (3 : Int32) ∧ (3 : Int32) < 330) ∧ ((¬ t < (σ 326 3) → K (some (.int s)) σ) ∧ (t < (σ 326 3) → ((0 ≤ t ∧ t < 20) ∧ 0 ≤ σ 326 3 ∧ σ 326 3 ≤ 20) ∧ gE 171 4 [some (.ref 326), some (.int (s + (fJo (σ 326) t.toNatClampNeg))), some (.int (t + 1))] [] σ K))) : gE 171 4 [some (.ref 326), some (.int s), some (.int t)] [] σ K :=
  gw_run (cy := 171) (cuts := [4]) (inl := []) (pf := gpfD) gpfD_ok 400 (by decide) h
theorem s171_326 {σ : gS} {K : gK} (hc : 0 ≤ σ 326 3 ∧ σ 326 3 ≤ 20) (hK : K (some (.int (fJa (σ 326)))) σ) : gE 171 0 [some (.ref 326), none, none] [] σ K := by
  refine w171_326 ?_
  refine g_forI (nM (σ 326)) (fun k => [some (.ref 326), some (.int (sm (fJo (σ 326)) k)), some (.int (iN k))]) (fun _ => σ) (fun _ => True) (fun _ => ?_) (fun k hk _ ih => ?_) 0 (Nat.zero_le _) trivial
  · have hn := (nM_of hc).2
    refine v171_326 ⟨by decide, fun _ => hK, fun h => ?_⟩
    rw [nM_lt hc (by omega)] at h; omega
  · have hn := (nM_of hc).2
    have hk20 : k < 20 := by omega
    refine v171_326 ⟨by decide, fun h => ?_, fun _ => ⟨⟨b20 hk20, hc⟩, ?_⟩⟩
    · rw [nM_lt hc (by omega)] at h; omega
    · rw [iN_nat (by omega), iN_one]
      exact ih trivial
noncomputable def f171 : gD := fun Lv σ => match Lv with
  | [some (.ref p), none, none] => cond (Nat.beq p 324 || Nat.beq p 325 || Nat.beq p 326) (some (some (0 ≤ σ p 3 ∧ σ p 3 ≤ 20), some (.int (fJa (σ p))), σ)) none
  | _ => none
theorem ok171 : gFok 171 f171 := by
  intro Lv σ q h hc K hK
  unfold f171 at h
  split at h
  · rename_i p
    obtain ⟨hb, h⟩ := c_no h
    have hb0 := hb
    rcases s_or hb0 with hb0 | hb0
    · rcases s_or hb0 with hb0 | hb0
      · have e := b_eq hb0
        subst e
        cases h
        exact s171_324 (hc _ rfl) hK
      · have e := b_eq hb0
        subst e
        cases h
        exact s171_325 (hc _ rfl) hK
    · have e := b_eq hb0
      subst e
      cases h
      exact s171_326 (hc _ rfl) hK
  · cases h
set_option maxRecDepth 20000 in
theorem w172_324 {σ : gS} {K : gK} (h : gE 172 4 [some (.ref 324), some (.int 0), some (.int 0)] [] σ K) : gE 172 0 [some (.ref 324), none, none] [] σ K :=
  gw_run (cy := 172) (cuts := [4]) (inl := []) (pf := gpfD) gpfD_ok 400 (by decide) h
set_option maxRecDepth 20000 in
theorem v172_324 {σ : gS} {K : gK} {s t : Int32} (h : (0 ≤ (3 : Int32) ∧ (3 : Int32) < 330) ∧ ((¬ t < (σ 324 3) → K (some (.int s)) σ) ∧ (t < (σ 324 3) → ((0 ≤ t ∧ t < 20) ∧ 0 ≤ σ 324 3 ∧ σ 324 3 ≤ 20) ∧ ((¬ (fJo (σ 324) t.toNatClampNeg) < 0 → gE 172 4 [some (.ref 324), some (.int s), some (.int (t + 1))] [] σ K) ∧ ((fJo (σ 324) t.toNatClampNeg) < 0 → gE 172 4 [some (.ref 324), some (.int (s + 1)), some (.int (t + 1))] [] σ K))))) : gE 172 4 [some (.ref 324), some (.int s), some (.int t)] [] σ K :=
  gw_run (cy := 172) (cuts := [4]) (inl := []) (pf := gpfD) gpfD_ok 400 (by decide) h
theorem s172_324 {σ : gS} {K : gK} (hc : 0 ≤ σ 324 3 ∧ σ 324 3 ≤ 20) (hK : K (some (.int (fGr (σ 324)))) σ) : gE 172 0 [some (.ref 324), none, none] [] σ K := by
  refine w172_324 ?_
  refine g_forI (nM (σ 324)) (fun k => [some (.ref 324), some (.int (iN (cnt (fun t => decide (fJo (σ 324) t < 0)) k))), some (.int (iN k))]) (fun _ => σ) (fun _ => True) (fun _ => ?_) (fun k hk _ ih => ?_) 0 (Nat.zero_le _) trivial
  · have hn := (nM_of hc).2
    refine v172_324 ⟨by decide, fun _ => hK, fun h => ?_⟩
    rw [nM_lt hc (by omega)] at h; omega
  · have hn := (nM_of hc).2
    have hk20 : k < 20 := by omega
    refine v172_324 ⟨by decide, fun h => ?_, fun _ => ⟨⟨b20 hk20, hc⟩, ?_⟩⟩
    · rw [nM_lt hc (by omega)] at h; omega
    · rw [iN_nat (by omega), iN_one, iN_one]
      have ih := ih trivial
      refine ⟨fun h => ?_, fun h => ?_⟩
      · rw [cnt_f (fun e => h (of_decide_eq_true e))] at ih
        exact ih
      · rw [cnt_t (decide_eq_true h)] at ih
        exact ih
set_option maxRecDepth 20000 in
theorem w172_325 {σ : gS} {K : gK} (h : gE 172 4 [some (.ref 325), some (.int 0), some (.int 0)] [] σ K) : gE 172 0 [some (.ref 325), none, none] [] σ K :=
  gw_run (cy := 172) (cuts := [4]) (inl := []) (pf := gpfD) gpfD_ok 400 (by decide) h
set_option maxRecDepth 20000 in
theorem v172_325 {σ : gS} {K : gK} {s t : Int32} (h : (0 ≤ (3 : Int32) ∧ (3 : Int32) < 330) ∧ ((¬ t < (σ 325 3) → K (some (.int s)) σ) ∧ (t < (σ 325 3) → ((0 ≤ t ∧ t < 20) ∧ 0 ≤ σ 325 3 ∧ σ 325 3 ≤ 20) ∧ ((¬ (fJo (σ 325) t.toNatClampNeg) < 0 → gE 172 4 [some (.ref 325), some (.int s), some (.int (t + 1))] [] σ K) ∧ ((fJo (σ 325) t.toNatClampNeg) < 0 → gE 172 4 [some (.ref 325), some (.int (s + 1)), some (.int (t + 1))] [] σ K))))) : gE 172 4 [some (.ref 325), some (.int s), some (.int t)] [] σ K :=
  gw_run (cy := 172) (cuts := [4]) (inl := []) (pf := gpfD) gpfD_ok 400 (by decide) h
theorem s172_325 {σ : gS} {K : gK} (hc : 0 ≤ σ 325 3 ∧ σ 325 3 ≤ 20) (hK : K (some (.int (fGr (σ 325)))) σ) : gE 172 0 [some (.ref 325), none, none] [] σ K := by
  refine w172_325 ?_
  refine g_forI (nM (σ 325)) (fun k => [some (.ref 325), some (.int (iN (cnt (fun t => decide (fJo (σ 325) t < 0)) k))), some (.int (iN k))]) (fun _ => σ) (fun _ => True) (fun _ => ?_) (fun k hk _ ih => ?_) 0 (Nat.zero_le _) trivial
  · have hn := (nM_of hc).2
    refine v172_325 ⟨by decide, fun _ => hK, fun h => ?_⟩
    rw [nM_lt hc (by omega)] at h; omega
  · have hn := (nM_of hc).2
    have hk20 : k < 20 := by omega
    refine v172_325 ⟨by decide, fun h => ?_, fun _ => ⟨⟨b20 hk20, hc⟩, ?_⟩⟩
    · rw [nM_lt hc (by omega)] at h; omega
    · rw [iN_nat (by omega), iN_one, iN_one]
      have ih := ih trivial
      refine ⟨fun h => ?_, fun h => ?_⟩
      · rw [cnt_f (fun e => h (of_decide_eq_true e))] at ih
        exact ih
      · rw [cnt_t (decide_eq_true h)] at ih
        exact ih
set_option maxRecDepth 20000 in
theorem w172_326 {σ : gS} {K : gK} (h : gE 172 4 [some (.ref 326), some (.int 0), some (.int 0)] [] σ K) : gE 172 0 [some (.ref 326), none, none] [] σ K :=
  gw_run (cy := 172) (cuts := [4]) (inl := []) (pf := gpfD) gpfD_ok 400 (by decide) h
set_option maxRecDepth 20000 in
theorem v172_326 {σ : gS} {K : gK} {s t : Int32} (h : (0 ≤ (3 : Int32) ∧ (3 : Int32) < 330) ∧ ((¬ t < (σ 326 3) → K (some (.int s)) σ) ∧ (t < (σ 326 3) → ((0 ≤ t ∧ t < 20) ∧ 0 ≤ σ 326 3 ∧ σ 326 3 ≤ 20) ∧ ((¬ (fJo (σ 326) t.toNatClampNeg) < 0 → gE 172 4 [some (.ref 326), some (.int s), some (.int (t + 1))] [] σ K) ∧ ((fJo (σ 326) t.toNatClampNeg) < 0 → gE 172 4 [some (.ref 326), some (.int (s + 1)), some (.int (t + 1))] [] σ K))))) : gE 172 4 [some (.ref 326), some (.int s), some (.int t)] [] σ K :=
  gw_run (cy := 172) (cuts := [4]) (inl := []) (pf := gpfD) gpfD_ok 400 (by decide) h
theorem s172_326 {σ : gS} {K : gK} (hc : 0 ≤ σ 326 3 ∧ σ 326 3 ≤ 20) (hK : K (some (.int (fGr (σ 326)))) σ) : gE 172 0 [some (.ref 326), none, none] [] σ K := by
  refine w172_326 ?_
  refine g_forI (nM (σ 326)) (fun k => [some (.ref 326), some (.int (iN (cnt (fun t => decide (fJo (σ 326) t < 0)) k))), some (.int (iN k))]) (fun _ => σ) (fun _ => True) (fun _ => ?_) (fun k hk _ ih => ?_) 0 (Nat.zero_le _) trivial
  · have hn := (nM_of hc).2
    refine v172_326 ⟨by decide, fun _ => hK, fun h => ?_⟩
    rw [nM_lt hc (by omega)] at h; omega
  · have hn := (nM_of hc).2
    have hk20 : k < 20 := by omega
    refine v172_326 ⟨by decide, fun h => ?_, fun _ => ⟨⟨b20 hk20, hc⟩, ?_⟩⟩
    · rw [nM_lt hc (by omega)] at h; omega
    · rw [iN_nat (by omega), iN_one, iN_one]
      have ih := ih trivial
      refine ⟨fun h => ?_, fun h => ?_⟩
      · rw [cnt_f (fun e => h (of_decide_eq_true e))] at ih
        exact ih
      · rw [cnt_t (decide_eq_true h)] at ih
        exact ih
noncomputable def f172 : gD := fun Lv σ => match Lv with
  | [some (.ref p), none, none] => cond (Nat.beq p 324 || Nat.beq p 325 || Nat.beq p 326) (some (some (0 ≤ σ p 3 ∧ σ p 3 ≤ 20), some (.int (fGr (σ p))), σ)) none
  | _ => none
theorem ok172 : gFok 172 f172 := by
  intro Lv σ q h hc K hK
  unfold f172 at h
  split at h
  · rename_i p
    obtain ⟨hb, h⟩ := c_no h
    have hb0 := hb
    rcases s_or hb0 with hb0 | hb0
    · rcases s_or hb0 with hb0 | hb0
      · have e := b_eq hb0
        subst e
        cases h
        exact s172_324 (hc _ rfl) hK
      · have e := b_eq hb0
        subst e
        cases h
        exact s172_325 (hc _ rfl) hK
    · have e := b_eq hb0
      subst e
      cases h
      exact s172_326 (hc _ rfl) hK
  · cases h
set_option maxRecDepth 20000 in
theorem w212_324 {σ : gS} {K : gK} {f : Int32} (h : gE 212 4 [some (.ref 324), some (.int f), some (.int 0), some (.int 0)] [] σ K) : gE 212 0 [some (.ref 324), some (.int f), none, none] [] σ K :=
  gw_run (cy := 212) (cuts := [4]) (inl := []) (pf := gpfD) gpfD_ok 400 (by decide) h
set_option maxRecDepth 20000 in
theorem v212_324 {σ : gS} {K : gK} {f s t : Int32} (h : (0 ≤ (3 : Int32) ∧ (3 : Int32) < 330) ∧ ((¬ t < (σ 324 3) → K (some (.int s)) σ) ∧ (t < (σ 324 3) → (0 ≤ (9 + 10 * t + (1 : Int32)) ∧ (9 + 10 * t + (1 : Int32)) < 330) ∧ (0 ≤ (9 + 10 * t + (0 : Int32)) ∧ (9 + 10 * t + (0 : Int32)) < 330) ∧ ((¬ (bI ((σ 324 (9 + 10 * t + (1 : Int32)).toNatClampNeg) = 1 ∨ f ≤ (σ 324 (9 + 10 * t + (0 : Int32)).toNatClampNeg) / 4)) = 0 → gE 212 4 [some (.ref 324), some (.int f), some (.int s), some (.int (t + 1))] [] σ K) ∧ ((bI ((σ 324 (9 + 10 * t + (1 : Int32)).toNatClampNeg) = 1 ∨ f ≤ (σ 324 (9 + 10 * t + (0 : Int32)).toNatClampNeg) / 4)) = 0 → gE 212 4 [some (.ref 324), some (.int f), some (.int (s + 1)), some (.int (t + 1))] [] σ K))))) : gE 212 4 [some (.ref 324), some (.int f), some (.int s), some (.int t)] [] σ K :=
  gw_run (cy := 212) (cuts := [4]) (inl := []) (pf := gpfD) gpfD_ok 400 (by decide) h
theorem s212_324 {σ : gS} {K : gK} {f : Int32} (hc : 0 ≤ σ 324 3 ∧ σ 324 3 ≤ 20) (hK : K (some (.int (fBar (σ 324) f))) σ) : gE 212 0 [some (.ref 324), some (.int f), none, none] [] σ K := by
  refine w212_324 ?_
  refine g_forI (nM (σ 324)) (fun k => [some (.ref 324), some (.int f), some (.int (iN (cnt (fun t => decide (¬ (fld (σ 324) t 1 = 1 ∨ f ≤ fld (σ 324) t 0 / 4))) k))), some (.int (iN k))]) (fun _ => σ) (fun _ => True) (fun _ => ?_) (fun k hk _ ih => ?_) 0 (Nat.zero_le _) trivial
  · have hn := (nM_of hc).2
    refine v212_324 ⟨by decide, fun _ => hK, fun h => ?_⟩
    rw [nM_lt hc (by omega)] at h; omega
  · have hn := (nM_of hc).2
    have hk20 : k < 20 := by omega
    refine v212_324 ⟨by decide, fun h => ?_, fun _ => ⟨ixb1 hk20, ixb0 hk20, ?_⟩⟩
    · rw [nM_lt hc (by omega)] at h; omega
    · rw [ix0 hk20, ix1 hk20, iN_one, iN_one, bI_0]
      have ih := ih trivial
      refine ⟨fun h => ?_, fun h => ?_⟩
      · rw [cnt_f (fun e => (of_decide_eq_true e) (Decidable.not_not.mp h))] at ih
        exact ih
      · rw [cnt_t (decide_eq_true h)] at ih
        exact ih
set_option maxRecDepth 20000 in
theorem w212_325 {σ : gS} {K : gK} {f : Int32} (h : gE 212 4 [some (.ref 325), some (.int f), some (.int 0), some (.int 0)] [] σ K) : gE 212 0 [some (.ref 325), some (.int f), none, none] [] σ K :=
  gw_run (cy := 212) (cuts := [4]) (inl := []) (pf := gpfD) gpfD_ok 400 (by decide) h
set_option maxRecDepth 20000 in
theorem v212_325 {σ : gS} {K : gK} {f s t : Int32} (h : (0 ≤ (3 : Int32) ∧ (3 : Int32) < 330) ∧ ((¬ t < (σ 325 3) → K (some (.int s)) σ) ∧ (t < (σ 325 3) → (0 ≤ (9 + 10 * t + (1 : Int32)) ∧ (9 + 10 * t + (1 : Int32)) < 330) ∧ (0 ≤ (9 + 10 * t + (0 : Int32)) ∧ (9 + 10 * t + (0 : Int32)) < 330) ∧ ((¬ (bI ((σ 325 (9 + 10 * t + (1 : Int32)).toNatClampNeg) = 1 ∨ f ≤ (σ 325 (9 + 10 * t + (0 : Int32)).toNatClampNeg) / 4)) = 0 → gE 212 4 [some (.ref 325), some (.int f), some (.int s), some (.int (t + 1))] [] σ K) ∧ ((bI ((σ 325 (9 + 10 * t + (1 : Int32)).toNatClampNeg) = 1 ∨ f ≤ (σ 325 (9 + 10 * t + (0 : Int32)).toNatClampNeg) / 4)) = 0 → gE 212 4 [some (.ref 325), some (.int f), some (.int (s + 1)), some (.int (t + 1))] [] σ K))))) : gE 212 4 [some (.ref 325), some (.int f), some (.int s), some (.int t)] [] σ K :=
  gw_run (cy := 212) (cuts := [4]) (inl := []) (pf := gpfD) gpfD_ok 400 (by decide) h
theorem s212_325 {σ : gS} {K : gK} {f : Int32} (hc : 0 ≤ σ 325 3 ∧ σ 325 3 ≤ 20) (hK : K (some (.int (fBar (σ 325) f))) σ) : gE 212 0 [some (.ref 325), some (.int f), none, none] [] σ K := by
  refine w212_325 ?_
  refine g_forI (nM (σ 325)) (fun k => [some (.ref 325), some (.int f), some (.int (iN (cnt (fun t => decide (¬ (fld (σ 325) t 1 = 1 ∨ f ≤ fld (σ 325) t 0 / 4))) k))), some (.int (iN k))]) (fun _ => σ) (fun _ => True) (fun _ => ?_) (fun k hk _ ih => ?_) 0 (Nat.zero_le _) trivial
  · have hn := (nM_of hc).2
    refine v212_325 ⟨by decide, fun _ => hK, fun h => ?_⟩
    rw [nM_lt hc (by omega)] at h; omega
  · have hn := (nM_of hc).2
    have hk20 : k < 20 := by omega
    refine v212_325 ⟨by decide, fun h => ?_, fun _ => ⟨ixb1 hk20, ixb0 hk20, ?_⟩⟩
    · rw [nM_lt hc (by omega)] at h; omega
    · rw [ix0 hk20, ix1 hk20, iN_one, iN_one, bI_0]
      have ih := ih trivial
      refine ⟨fun h => ?_, fun h => ?_⟩
      · rw [cnt_f (fun e => (of_decide_eq_true e) (Decidable.not_not.mp h))] at ih
        exact ih
      · rw [cnt_t (decide_eq_true h)] at ih
        exact ih
set_option maxRecDepth 20000 in
theorem w212_326 {σ : gS} {K : gK} {f : Int32} (h : gE 212 4 [some (.ref 326), some (.int f), some (.int 0), some (.int 0)] [] σ K) : gE 212 0 [some (.ref 326), some (.int f), none, none] [] σ K :=
  gw_run (cy := 212) (cuts := [4]) (inl := []) (pf := gpfD) gpfD_ok 400 (by decide) h
set_option maxRecDepth 20000 in
theorem v212_326 {σ : gS} {K : gK} {f s t : Int32} (h : (0 ≤ (3 : Int32) ∧ (3 : Int32) < 330) ∧ ((¬ t < (σ 326 3) → K (some (.int s)) σ) ∧ (t < (σ 326 3) → (0 ≤ (9 + 10 * t + (1 : Int32)) ∧ (9 + 10 * t + (1 : Int32)) < 330) ∧ (0 ≤ (9 + 10 * t + (0 : Int32)) ∧ (9 + 10 * t + (0 : Int32)) < 330) ∧ ((¬ (bI ((σ 326 (9 + 10 * t + (1 : Int32)).toNatClampNeg) = 1 ∨ f ≤ (σ 326 (9 + 10 * t + (0 : Int32)).toNatClampNeg) / 4)) = 0 → gE 212 4 [some (.ref 326), some (.int f), some (.int s), some (.int (t + 1))] [] σ K) ∧ ((bI ((σ 326 (9 + 10 * t + (1 : Int32)).toNatClampNeg) = 1 ∨ f ≤ (σ 326 (9 + 10 * t + (0 : Int32)).toNatClampNeg) / 4)) = 0 → gE 212 4 [some (.ref 326), some (.int f), some (.int (s + 1)), some (.int (t + 1))] [] σ K))))) : gE 212 4 [some (.ref 326), some (.int f), some (.int s), some (.int t)] [] σ K :=
  gw_run (cy := 212) (cuts := [4]) (inl := []) (pf := gpfD) gpfD_ok 400 (by decide) h
theorem s212_326 {σ : gS} {K : gK} {f : Int32} (hc : 0 ≤ σ 326 3 ∧ σ 326 3 ≤ 20) (hK : K (some (.int (fBar (σ 326) f))) σ) : gE 212 0 [some (.ref 326), some (.int f), none, none] [] σ K := by
  refine w212_326 ?_
  refine g_forI (nM (σ 326)) (fun k => [some (.ref 326), some (.int f), some (.int (iN (cnt (fun t => decide (¬ (fld (σ 326) t 1 = 1 ∨ f ≤ fld (σ 326) t 0 / 4))) k))), some (.int (iN k))]) (fun _ => σ) (fun _ => True) (fun _ => ?_) (fun k hk _ ih => ?_) 0 (Nat.zero_le _) trivial
  · have hn := (nM_of hc).2
    refine v212_326 ⟨by decide, fun _ => hK, fun h => ?_⟩
    rw [nM_lt hc (by omega)] at h; omega
  · have hn := (nM_of hc).2
    have hk20 : k < 20 := by omega
    refine v212_326 ⟨by decide, fun h => ?_, fun _ => ⟨ixb1 hk20, ixb0 hk20, ?_⟩⟩
    · rw [nM_lt hc (by omega)] at h; omega
    · rw [ix0 hk20, ix1 hk20, iN_one, iN_one, bI_0]
      have ih := ih trivial
      refine ⟨fun h => ?_, fun h => ?_⟩
      · rw [cnt_f (fun e => (of_decide_eq_true e) (Decidable.not_not.mp h))] at ih
        exact ih
      · rw [cnt_t (decide_eq_true h)] at ih
        exact ih
noncomputable def f212 : gD := fun Lv σ => match Lv with
  | [some (.ref p), some (.int f), none, none] => cond (Nat.beq p 324 || Nat.beq p 325 || Nat.beq p 326) (some (some (0 ≤ σ p 3 ∧ σ p 3 ≤ 20), some (.int (fBar (σ p) f)), σ)) none
  | _ => none
theorem ok212 : gFok 212 f212 := by
  intro Lv σ q h hc K hK
  unfold f212 at h
  split at h
  · rename_i p f
    obtain ⟨hb, h⟩ := c_no h
    have hb0 := hb
    rcases s_or hb0 with hb0 | hb0
    · rcases s_or hb0 with hb0 | hb0
      · have e := b_eq hb0
        subst e
        cases h
        exact s212_324 (hc _ rfl) hK
      · have e := b_eq hb0
        subst e
        cases h
        exact s212_325 (hc _ rfl) hK
    · have e := b_eq hb0
      subst e
      cases h
      exact s212_326 (hc _ rfl) hK
  · cases h
set_option maxRecDepth 20000 in
theorem w173_324 {σ : gS} {K : gK} {a b : Int32} (h : (0 ≤ (9 + 10 * a + (0 : Int32)) ∧ (9 + 10 * a + (0 : Int32)) < 330) ∧ (0 ≤ (9 + 10 * b + (0 : Int32)) ∧ (9 + 10 * b + (0 : Int32)) < 330) ∧ (0 ≤ (9 + 10 * a + (0 : Int32)) ∧ (9 + 10 * a + (0 : Int32)) < 330) ∧ (0 ≤ (9 + 10 * b + (0 : Int32)) ∧ (9 + 10 * b + (0 : Int32)) < 330) ∧ K none (gup (gup σ 324 (9 + 10 * a + (0 : Int32)).toNatClampNeg (σ 324 (9 + 10 * b + (0 : Int32)).toNatClampNeg)) 324 (9 + 10 * b + (0 : Int32)).toNatClampNeg (σ 324 (9 + 10 * a + (0 : Int32)).toNatClampNeg))) : gE 173 0 [some (.ref 324), some (.int a), some (.int b), none] [] σ K :=
  gw_run (cy := 173) (cuts := []) (inl := []) (pf := gpfD) gpfD_ok 400 (by decide) h
theorem s173_324 {σ : gS} {K : gK} {a b : Int32} (hc : ((0 ≤ a ∧ a < 20) ∧ (0 ≤ b ∧ b < 20))) (hK : K none (grow σ 324 (rsw (σ 324) a.toNatClampNeg b.toNatClampNeg))) : gE 173 0 [some (.ref 324), some (.int a), some (.int b), none] [] σ K := by
  obtain ⟨ha, hb⟩ := hc
  obtain ⟨ea, la⟩ := t20 ha
  obtain ⟨ma, na⟩ : ∃ m, a.toNatClampNeg = m := ⟨_, rfl⟩
  rw [na] at ea la hK
  subst ea
  obtain ⟨eb, lb⟩ := t20 hb
  obtain ⟨mb, nb⟩ : ∃ m, b.toNatClampNeg = m := ⟨_, rfl⟩
  rw [nb] at eb lb hK
  subst eb
  refine w173_324 ⟨(by first | exact ixb0 la | exact ixb0 lb), (by first | exact ixb0 la | exact ixb0 lb), (by first | exact ixb0 la | exact ixb0 lb), (by first | exact ixb0 la | exact ixb0 lb), ?_⟩
  rw [ix0 la, ix0 lb]
  simp only [gup_grow, grow_grow, grow_at]
  exact hK
set_option maxRecDepth 20000 in
theorem w173_325 {σ : gS} {K : gK} {a b : Int32} (h : (0 ≤ (9 + 10 * a + (0 : Int32)) ∧ (9 + 10 * a + (0 : Int32)) < 330) ∧ (0 ≤ (9 + 10 * b + (0 : Int32)) ∧ (9 + 10 * b + (0 : Int32)) < 330) ∧ (0 ≤ (9 + 10 * a + (0 : Int32)) ∧ (9 + 10 * a + (0 : Int32)) < 330) ∧ (0 ≤ (9 + 10 * b + (0 : Int32)) ∧ (9 + 10 * b + (0 : Int32)) < 330) ∧ K none (gup (gup σ 325 (9 + 10 * a + (0 : Int32)).toNatClampNeg (σ 325 (9 + 10 * b + (0 : Int32)).toNatClampNeg)) 325 (9 + 10 * b + (0 : Int32)).toNatClampNeg (σ 325 (9 + 10 * a + (0 : Int32)).toNatClampNeg))) : gE 173 0 [some (.ref 325), some (.int a), some (.int b), none] [] σ K :=
  gw_run (cy := 173) (cuts := []) (inl := []) (pf := gpfD) gpfD_ok 400 (by decide) h
theorem s173_325 {σ : gS} {K : gK} {a b : Int32} (hc : ((0 ≤ a ∧ a < 20) ∧ (0 ≤ b ∧ b < 20))) (hK : K none (grow σ 325 (rsw (σ 325) a.toNatClampNeg b.toNatClampNeg))) : gE 173 0 [some (.ref 325), some (.int a), some (.int b), none] [] σ K := by
  obtain ⟨ha, hb⟩ := hc
  obtain ⟨ea, la⟩ := t20 ha
  obtain ⟨ma, na⟩ : ∃ m, a.toNatClampNeg = m := ⟨_, rfl⟩
  rw [na] at ea la hK
  subst ea
  obtain ⟨eb, lb⟩ := t20 hb
  obtain ⟨mb, nb⟩ : ∃ m, b.toNatClampNeg = m := ⟨_, rfl⟩
  rw [nb] at eb lb hK
  subst eb
  refine w173_325 ⟨(by first | exact ixb0 la | exact ixb0 lb), (by first | exact ixb0 la | exact ixb0 lb), (by first | exact ixb0 la | exact ixb0 lb), (by first | exact ixb0 la | exact ixb0 lb), ?_⟩
  rw [ix0 la, ix0 lb]
  simp only [gup_grow, grow_grow, grow_at]
  exact hK
set_option maxRecDepth 20000 in
theorem w173_326 {σ : gS} {K : gK} {a b : Int32} (h : (0 ≤ (9 + 10 * a + (0 : Int32)) ∧ (9 + 10 * a + (0 : Int32)) < 330) ∧ (0 ≤ (9 + 10 * b + (0 : Int32)) ∧ (9 + 10 * b + (0 : Int32)) < 330) ∧ (0 ≤ (9 + 10 * a + (0 : Int32)) ∧ (9 + 10 * a + (0 : Int32)) < 330) ∧ (0 ≤ (9 + 10 * b + (0 : Int32)) ∧ (9 + 10 * b + (0 : Int32)) < 330) ∧ K none (gup (gup σ 326 (9 + 10 * a + (0 : Int32)).toNatClampNeg (σ 326 (9 + 10 * b + (0 : Int32)).toNatClampNeg)) 326 (9 + 10 * b + (0 : Int32)).toNatClampNeg (σ 326 (9 + 10 * a + (0 : Int32)).toNatClampNeg))) : gE 173 0 [some (.ref 326), some (.int a), some (.int b), none] [] σ K :=
  gw_run (cy := 173) (cuts := []) (inl := []) (pf := gpfD) gpfD_ok 400 (by decide) h
theorem s173_326 {σ : gS} {K : gK} {a b : Int32} (hc : ((0 ≤ a ∧ a < 20) ∧ (0 ≤ b ∧ b < 20))) (hK : K none (grow σ 326 (rsw (σ 326) a.toNatClampNeg b.toNatClampNeg))) : gE 173 0 [some (.ref 326), some (.int a), some (.int b), none] [] σ K := by
  obtain ⟨ha, hb⟩ := hc
  obtain ⟨ea, la⟩ := t20 ha
  obtain ⟨ma, na⟩ : ∃ m, a.toNatClampNeg = m := ⟨_, rfl⟩
  rw [na] at ea la hK
  subst ea
  obtain ⟨eb, lb⟩ := t20 hb
  obtain ⟨mb, nb⟩ : ∃ m, b.toNatClampNeg = m := ⟨_, rfl⟩
  rw [nb] at eb lb hK
  subst eb
  refine w173_326 ⟨(by first | exact ixb0 la | exact ixb0 lb), (by first | exact ixb0 la | exact ixb0 lb), (by first | exact ixb0 la | exact ixb0 lb), (by first | exact ixb0 la | exact ixb0 lb), ?_⟩
  rw [ix0 la, ix0 lb]
  simp only [gup_grow, grow_grow, grow_at]
  exact hK
noncomputable def f173 : gD := fun Lv σ => match Lv with
  | [some (.ref p), some (.int a), some (.int b), none] => cond (Nat.beq p 324 || Nat.beq p 325 || Nat.beq p 326) (some (some (((0 ≤ a ∧ a < 20) ∧ (0 ≤ b ∧ b < 20))), none, grow σ p (rsw (σ p) a.toNatClampNeg b.toNatClampNeg))) none
  | _ => none
theorem ok173 : gFok 173 f173 := by
  intro Lv σ q h hc K hK
  unfold f173 at h
  split at h
  · rename_i p a b
    obtain ⟨hb, h⟩ := c_no h
    have hb0 := hb
    rcases s_or hb0 with hb0 | hb0
    · rcases s_or hb0 with hb0 | hb0
      · have e := b_eq hb0
        subst e
        cases h
        exact s173_324 (hc _ rfl) hK
      · have e := b_eq hb0
        subst e
        cases h
        exact s173_325 (hc _ rfl) hK
    · have e := b_eq hb0
      subst e
      cases h
      exact s173_326 (hc _ rfl) hK
  · cases h
set_option maxRecDepth 20000 in
theorem w174_324 {σ : gS} {K : gK} {a b c : Int32} (h : (0 ≤ (9 + 10 * a + (0 : Int32)) ∧ (9 + 10 * a + (0 : Int32)) < 330) ∧ (0 ≤ (9 + 10 * b + (0 : Int32)) ∧ (9 + 10 * b + (0 : Int32)) < 330) ∧ (0 ≤ (9 + 10 * a + (0 : Int32)) ∧ (9 + 10 * a + (0 : Int32)) < 330) ∧ (0 ≤ (9 + 10 * c + (0 : Int32)) ∧ (9 + 10 * c + (0 : Int32)) < 330) ∧ (0 ≤ (9 + 10 * b + (0 : Int32)) ∧ (9 + 10 * b + (0 : Int32)) < 330) ∧ (0 ≤ (9 + 10 * c + (0 : Int32)) ∧ (9 + 10 * c + (0 : Int32)) < 330) ∧ K none (gup (gup (gup σ 324 (9 + 10 * a + (0 : Int32)).toNatClampNeg (σ 324 (9 + 10 * b + (0 : Int32)).toNatClampNeg)) 324 (9 + 10 * b + (0 : Int32)).toNatClampNeg ((gup σ 324 (9 + 10 * a + (0 : Int32)).toNatClampNeg (σ 324 (9 + 10 * b + (0 : Int32)).toNatClampNeg)) 324 (9 + 10 * c + (0 : Int32)).toNatClampNeg)) 324 (9 + 10 * c + (0 : Int32)).toNatClampNeg (σ 324 (9 + 10 * a + (0 : Int32)).toNatClampNeg))) : gE 174 0 [some (.ref 324), some (.int a), some (.int b), some (.int c), none] [] σ K :=
  gw_run (cy := 174) (cuts := []) (inl := []) (pf := gpfD) gpfD_ok 400 (by decide) h
theorem s174_324 {σ : gS} {K : gK} {a b c : Int32} (hc : ((0 ≤ a ∧ a < 20) ∧ (0 ≤ b ∧ b < 20) ∧ (0 ≤ c ∧ c < 20))) (hK : K none (grow σ 324 (rtu (σ 324) a.toNatClampNeg b.toNatClampNeg c.toNatClampNeg))) : gE 174 0 [some (.ref 324), some (.int a), some (.int b), some (.int c), none] [] σ K := by
  obtain ⟨ha, hb, hc⟩ := hc
  obtain ⟨ea, la⟩ := t20 ha
  obtain ⟨ma, na⟩ : ∃ m, a.toNatClampNeg = m := ⟨_, rfl⟩
  rw [na] at ea la hK
  subst ea
  obtain ⟨eb, lb⟩ := t20 hb
  obtain ⟨mb, nb⟩ : ∃ m, b.toNatClampNeg = m := ⟨_, rfl⟩
  rw [nb] at eb lb hK
  subst eb
  obtain ⟨ec, lc⟩ := t20 hc
  obtain ⟨mc, nc⟩ : ∃ m, c.toNatClampNeg = m := ⟨_, rfl⟩
  rw [nc] at ec lc hK
  subst ec
  refine w174_324 ⟨(by first | exact ixb0 la | exact ixb0 lb | exact ixb0 lc), (by first | exact ixb0 la | exact ixb0 lb | exact ixb0 lc), (by first | exact ixb0 la | exact ixb0 lb | exact ixb0 lc), (by first | exact ixb0 la | exact ixb0 lb | exact ixb0 lc), (by first | exact ixb0 la | exact ixb0 lb | exact ixb0 lc), (by first | exact ixb0 la | exact ixb0 lb | exact ixb0 lc), ?_⟩
  rw [ix0 la, ix0 lb, ix0 lc]
  simp only [gup_grow, grow_grow, grow_at]
  exact hK
set_option maxRecDepth 20000 in
theorem w174_325 {σ : gS} {K : gK} {a b c : Int32} (h : (0 ≤ (9 + 10 * a + (0 : Int32)) ∧ (9 + 10 * a + (0 : Int32)) < 330) ∧ (0 ≤ (9 + 10 * b + (0 : Int32)) ∧ (9 + 10 * b + (0 : Int32)) < 330) ∧ (0 ≤ (9 + 10 * a + (0 : Int32)) ∧ (9 + 10 * a + (0 : Int32)) < 330) ∧ (0 ≤ (9 + 10 * c + (0 : Int32)) ∧ (9 + 10 * c + (0 : Int32)) < 330) ∧ (0 ≤ (9 + 10 * b + (0 : Int32)) ∧ (9 + 10 * b + (0 : Int32)) < 330) ∧ (0 ≤ (9 + 10 * c + (0 : Int32)) ∧ (9 + 10 * c + (0 : Int32)) < 330) ∧ K none (gup (gup (gup σ 325 (9 + 10 * a + (0 : Int32)).toNatClampNeg (σ 325 (9 + 10 * b + (0 : Int32)).toNatClampNeg)) 325 (9 + 10 * b + (0 : Int32)).toNatClampNeg ((gup σ 325 (9 + 10 * a + (0 : Int32)).toNatClampNeg (σ 325 (9 + 10 * b + (0 : Int32)).toNatClampNeg)) 325 (9 + 10 * c + (0 : Int32)).toNatClampNeg)) 325 (9 + 10 * c + (0 : Int32)).toNatClampNeg (σ 325 (9 + 10 * a + (0 : Int32)).toNatClampNeg))) : gE 174 0 [some (.ref 325), some (.int a), some (.int b), some (.int c), none] [] σ K :=
  gw_run (cy := 174) (cuts := []) (inl := []) (pf := gpfD) gpfD_ok 400 (by decide) h
theorem s174_325 {σ : gS} {K : gK} {a b c : Int32} (hc : ((0 ≤ a ∧ a < 20) ∧ (0 ≤ b ∧ b < 20) ∧ (0 ≤ c ∧ c < 20))) (hK : K none (grow σ 325 (rtu (σ 325) a.toNatClampNeg b.toNatClampNeg c.toNatClampNeg))) : gE 174 0 [some (.ref 325), some (.int a), some (.int b), some (.int c), none] [] σ K := by
  obtain ⟨ha, hb, hc⟩ := hc
  obtain ⟨ea, la⟩ := t20 ha
  obtain ⟨ma, na⟩ : ∃ m, a.toNatClampNeg = m := ⟨_, rfl⟩
  rw [na] at ea la hK
  subst ea
  obtain ⟨eb, lb⟩ := t20 hb
  obtain ⟨mb, nb⟩ : ∃ m, b.toNatClampNeg = m := ⟨_, rfl⟩
  rw [nb] at eb lb hK
  subst eb
  obtain ⟨ec, lc⟩ := t20 hc
  obtain ⟨mc, nc⟩ : ∃ m, c.toNatClampNeg = m := ⟨_, rfl⟩
  rw [nc] at ec lc hK
  subst ec
  refine w174_325 ⟨(by first | exact ixb0 la | exact ixb0 lb | exact ixb0 lc), (by first | exact ixb0 la | exact ixb0 lb | exact ixb0 lc), (by first | exact ixb0 la | exact ixb0 lb | exact ixb0 lc), (by first | exact ixb0 la | exact ixb0 lb | exact ixb0 lc), (by first | exact ixb0 la | exact ixb0 lb | exact ixb0 lc), (by first | exact ixb0 la | exact ixb0 lb | exact ixb0 lc), ?_⟩
  rw [ix0 la, ix0 lb, ix0 lc]
  simp only [gup_grow, grow_grow, grow_at]
  exact hK
set_option maxRecDepth 20000 in
theorem w174_326 {σ : gS} {K : gK} {a b c : Int32} (h : (0 ≤ (9 + 10 * a + (0 : Int32)) ∧ (9 + 10 * a + (0 : Int32)) < 330) ∧ (0 ≤ (9 + 10 * b + (0 : Int32)) ∧ (9 + 10 * b + (0 : Int32)) < 330) ∧ (0 ≤ (9 + 10 * a + (0 : Int32)) ∧ (9 + 10 * a + (0 : Int32)) < 330) ∧ (0 ≤ (9 + 10 * c + (0 : Int32)) ∧ (9 + 10 * c + (0 : Int32)) < 330) ∧ (0 ≤ (9 + 10 * b + (0 : Int32)) ∧ (9 + 10 * b + (0 : Int32)) < 330) ∧ (0 ≤ (9 + 10 * c + (0 : Int32)) ∧ (9 + 10 * c + (0 : Int32)) < 330) ∧ K none (gup (gup (gup σ 326 (9 + 10 * a + (0 : Int32)).toNatClampNeg (σ 326 (9 + 10 * b + (0 : Int32)).toNatClampNeg)) 326 (9 + 10 * b + (0 : Int32)).toNatClampNeg ((gup σ 326 (9 + 10 * a + (0 : Int32)).toNatClampNeg (σ 326 (9 + 10 * b + (0 : Int32)).toNatClampNeg)) 326 (9 + 10 * c + (0 : Int32)).toNatClampNeg)) 326 (9 + 10 * c + (0 : Int32)).toNatClampNeg (σ 326 (9 + 10 * a + (0 : Int32)).toNatClampNeg))) : gE 174 0 [some (.ref 326), some (.int a), some (.int b), some (.int c), none] [] σ K :=
  gw_run (cy := 174) (cuts := []) (inl := []) (pf := gpfD) gpfD_ok 400 (by decide) h
theorem s174_326 {σ : gS} {K : gK} {a b c : Int32} (hc : ((0 ≤ a ∧ a < 20) ∧ (0 ≤ b ∧ b < 20) ∧ (0 ≤ c ∧ c < 20))) (hK : K none (grow σ 326 (rtu (σ 326) a.toNatClampNeg b.toNatClampNeg c.toNatClampNeg))) : gE 174 0 [some (.ref 326), some (.int a), some (.int b), some (.int c), none] [] σ K := by
  obtain ⟨ha, hb, hc⟩ := hc
  obtain ⟨ea, la⟩ := t20 ha
  obtain ⟨ma, na⟩ : ∃ m, a.toNatClampNeg = m := ⟨_, rfl⟩
  rw [na] at ea la hK
  subst ea
  obtain ⟨eb, lb⟩ := t20 hb
  obtain ⟨mb, nb⟩ : ∃ m, b.toNatClampNeg = m := ⟨_, rfl⟩
  rw [nb] at eb lb hK
  subst eb
  obtain ⟨ec, lc⟩ := t20 hc
  obtain ⟨mc, nc⟩ : ∃ m, c.toNatClampNeg = m := ⟨_, rfl⟩
  rw [nc] at ec lc hK
  subst ec
  refine w174_326 ⟨(by first | exact ixb0 la | exact ixb0 lb | exact ixb0 lc), (by first | exact ixb0 la | exact ixb0 lb | exact ixb0 lc), (by first | exact ixb0 la | exact ixb0 lb | exact ixb0 lc), (by first | exact ixb0 la | exact ixb0 lb | exact ixb0 lc), (by first | exact ixb0 la | exact ixb0 lb | exact ixb0 lc), (by first | exact ixb0 la | exact ixb0 lb | exact ixb0 lc), ?_⟩
  rw [ix0 la, ix0 lb, ix0 lc]
  simp only [gup_grow, grow_grow, grow_at]
  exact hK
noncomputable def f174 : gD := fun Lv σ => match Lv with
  | [some (.ref p), some (.int a), some (.int b), some (.int c), none] => cond (Nat.beq p 324 || Nat.beq p 325 || Nat.beq p 326) (some (some (((0 ≤ a ∧ a < 20) ∧ (0 ≤ b ∧ b < 20) ∧ (0 ≤ c ∧ c < 20))), none, grow σ p (rtu (σ p) a.toNatClampNeg b.toNatClampNeg c.toNatClampNeg))) none
  | _ => none
theorem ok174 : gFok 174 f174 := by
  intro Lv σ q h hc K hK
  unfold f174 at h
  split at h
  · rename_i p a b c
    obtain ⟨hb, h⟩ := c_no h
    have hb0 := hb
    rcases s_or hb0 with hb0 | hb0
    · rcases s_or hb0 with hb0 | hb0
      · have e := b_eq hb0
        subst e
        cases h
        exact s174_324 (hc _ rfl) hK
      · have e := b_eq hb0
        subst e
        cases h
        exact s174_325 (hc _ rfl) hK
    · have e := b_eq hb0
      subst e
      cases h
      exact s174_326 (hc _ rfl) hK
  · cases h
noncomputable def gpfE_l : List (Nat × gD) := (171, f171) :: (172, f172) :: (212, f212) :: (173, f173) :: (174, f174) :: gpfD_l
noncomputable def gpfE : gP := gpl0 gpfE_l
theorem gpfE_ok : gPok gpfE := gpl0_cons ok171 (gpl0_cons ok172 (gpl0_cons ok212 (gpl0_cons ok173 (gpl0_cons ok174 (gpfD_ok)))))
set_option maxRecDepth 20000 in
theorem w175_324 {σ : gS} {K : gK} {a b w : Int32} (h : ((0 ≤ w ∧ w < 20) ∧ 0 ≤ σ 324 3 ∧ σ 324 3 ≤ 20) ∧ (((0 ≤ a ∧ a < 20) ∧ (0 ≤ b ∧ b < 20))) ∧ ((0 ≤ w ∧ w < 20) ∧ 0 ≤ (grow σ 324 (rsw (σ 324) a.toNatClampNeg b.toNatClampNeg)) 324 3 ∧ (grow σ 324 (rsw (σ 324) a.toNatClampNeg b.toNatClampNeg)) 324 3 ≤ 20) ∧ (((0 ≤ a ∧ a < 20) ∧ (0 ≤ b ∧ b < 20))) ∧ K (some (.int ((fJo ((grow σ 324 (rsw (σ 324) a.toNatClampNeg b.toNatClampNeg)) 324) w.toNatClampNeg) - (fJo (σ 324) w.toNatClampNeg)))) (grow (grow σ 324 (rsw (σ 324) a.toNatClampNeg b.toNatClampNeg)) 324 (rsw ((grow σ 324 (rsw (σ 324) a.toNatClampNeg b.toNatClampNeg)) 324) a.toNatClampNeg b.toNatClampNeg))) : gE 175 0 [some (.ref 324), some (.int a), some (.int b), some (.int w), none, none] [] σ K :=
  gw_run (cy := 175) (cuts := []) (inl := []) (pf := gpfE) gpfE_ok 400 (by decide) h
theorem s175_324 {σ : gS} {K : gK} {a b w : Int32} (hc : ((0 ≤ a ∧ a < 20) ∧ (0 ≤ b ∧ b < 20)) ∧ (0 ≤ w ∧ w < 20) ∧ 0 ≤ σ 324 3 ∧ σ 324 3 ≤ 20) (hK : K (some (.int (fRise (σ 324) a.toNatClampNeg b.toNatClampNeg w.toNatClampNeg))) σ) : gE 175 0 [some (.ref 324), some (.int a), some (.int b), some (.int w), none, none] [] σ K := by
  obtain ⟨hab, hw, hc⟩ := hc
  have h3 : ∀ a b, 0 ≤ (grow σ 324 (rsw (σ 324) a b)) 324 3 ∧ (grow σ 324 (rsw (σ 324) a b)) 324 3 ≤ 20 := fun a b => by rw [grow_at, rsw_3]; exact hc
  refine w175_324 ⟨⟨hw, hc⟩, hab, ⟨hw, h3 _ _⟩, hab, ?_⟩
  simp only [grow_grow, grow_at, rsw_rsw, grow_id]
  exact hK
set_option maxRecDepth 20000 in
theorem w175_325 {σ : gS} {K : gK} {a b w : Int32} (h : ((0 ≤ w ∧ w < 20) ∧ 0 ≤ σ 325 3 ∧ σ 325 3 ≤ 20) ∧ (((0 ≤ a ∧ a < 20) ∧ (0 ≤ b ∧ b < 20))) ∧ ((0 ≤ w ∧ w < 20) ∧ 0 ≤ (grow σ 325 (rsw (σ 325) a.toNatClampNeg b.toNatClampNeg)) 325 3 ∧ (grow σ 325 (rsw (σ 325) a.toNatClampNeg b.toNatClampNeg)) 325 3 ≤ 20) ∧ (((0 ≤ a ∧ a < 20) ∧ (0 ≤ b ∧ b < 20))) ∧ K (some (.int ((fJo ((grow σ 325 (rsw (σ 325) a.toNatClampNeg b.toNatClampNeg)) 325) w.toNatClampNeg) - (fJo (σ 325) w.toNatClampNeg)))) (grow (grow σ 325 (rsw (σ 325) a.toNatClampNeg b.toNatClampNeg)) 325 (rsw ((grow σ 325 (rsw (σ 325) a.toNatClampNeg b.toNatClampNeg)) 325) a.toNatClampNeg b.toNatClampNeg))) : gE 175 0 [some (.ref 325), some (.int a), some (.int b), some (.int w), none, none] [] σ K :=
  gw_run (cy := 175) (cuts := []) (inl := []) (pf := gpfE) gpfE_ok 400 (by decide) h
theorem s175_325 {σ : gS} {K : gK} {a b w : Int32} (hc : ((0 ≤ a ∧ a < 20) ∧ (0 ≤ b ∧ b < 20)) ∧ (0 ≤ w ∧ w < 20) ∧ 0 ≤ σ 325 3 ∧ σ 325 3 ≤ 20) (hK : K (some (.int (fRise (σ 325) a.toNatClampNeg b.toNatClampNeg w.toNatClampNeg))) σ) : gE 175 0 [some (.ref 325), some (.int a), some (.int b), some (.int w), none, none] [] σ K := by
  obtain ⟨hab, hw, hc⟩ := hc
  have h3 : ∀ a b, 0 ≤ (grow σ 325 (rsw (σ 325) a b)) 325 3 ∧ (grow σ 325 (rsw (σ 325) a b)) 325 3 ≤ 20 := fun a b => by rw [grow_at, rsw_3]; exact hc
  refine w175_325 ⟨⟨hw, hc⟩, hab, ⟨hw, h3 _ _⟩, hab, ?_⟩
  simp only [grow_grow, grow_at, rsw_rsw, grow_id]
  exact hK
set_option maxRecDepth 20000 in
theorem w175_326 {σ : gS} {K : gK} {a b w : Int32} (h : ((0 ≤ w ∧ w < 20) ∧ 0 ≤ σ 326 3 ∧ σ 326 3 ≤ 20) ∧ (((0 ≤ a ∧ a < 20) ∧ (0 ≤ b ∧ b < 20))) ∧ ((0 ≤ w ∧ w < 20) ∧ 0 ≤ (grow σ 326 (rsw (σ 326) a.toNatClampNeg b.toNatClampNeg)) 326 3 ∧ (grow σ 326 (rsw (σ 326) a.toNatClampNeg b.toNatClampNeg)) 326 3 ≤ 20) ∧ (((0 ≤ a ∧ a < 20) ∧ (0 ≤ b ∧ b < 20))) ∧ K (some (.int ((fJo ((grow σ 326 (rsw (σ 326) a.toNatClampNeg b.toNatClampNeg)) 326) w.toNatClampNeg) - (fJo (σ 326) w.toNatClampNeg)))) (grow (grow σ 326 (rsw (σ 326) a.toNatClampNeg b.toNatClampNeg)) 326 (rsw ((grow σ 326 (rsw (σ 326) a.toNatClampNeg b.toNatClampNeg)) 326) a.toNatClampNeg b.toNatClampNeg))) : gE 175 0 [some (.ref 326), some (.int a), some (.int b), some (.int w), none, none] [] σ K :=
  gw_run (cy := 175) (cuts := []) (inl := []) (pf := gpfE) gpfE_ok 400 (by decide) h
theorem s175_326 {σ : gS} {K : gK} {a b w : Int32} (hc : ((0 ≤ a ∧ a < 20) ∧ (0 ≤ b ∧ b < 20)) ∧ (0 ≤ w ∧ w < 20) ∧ 0 ≤ σ 326 3 ∧ σ 326 3 ≤ 20) (hK : K (some (.int (fRise (σ 326) a.toNatClampNeg b.toNatClampNeg w.toNatClampNeg))) σ) : gE 175 0 [some (.ref 326), some (.int a), some (.int b), some (.int w), none, none] [] σ K := by
  obtain ⟨hab, hw, hc⟩ := hc
  have h3 : ∀ a b, 0 ≤ (grow σ 326 (rsw (σ 326) a b)) 326 3 ∧ (grow σ 326 (rsw (σ 326) a b)) 326 3 ≤ 20 := fun a b => by rw [grow_at, rsw_3]; exact hc
  refine w175_326 ⟨⟨hw, hc⟩, hab, ⟨hw, h3 _ _⟩, hab, ?_⟩
  simp only [grow_grow, grow_at, rsw_rsw, grow_id]
  exact hK
noncomputable def f175 : gD := fun Lv σ => match Lv with
  | [some (.ref p), some (.int a), some (.int b), some (.int w), none, none] => cond (Nat.beq p 324 || Nat.beq p 325 || Nat.beq p 326) (some (some (((0 ≤ a ∧ a < 20) ∧ (0 ≤ b ∧ b < 20)) ∧ (0 ≤ w ∧ w < 20) ∧ 0 ≤ σ p 3 ∧ σ p 3 ≤ 20), some (.int (fRise (σ p) a.toNatClampNeg b.toNatClampNeg w.toNatClampNeg)), σ)) none
  | _ => none
theorem ok175 : gFok 175 f175 := by
  intro Lv σ q h hc K hK
  unfold f175 at h
  split at h
  · rename_i p a b w
    obtain ⟨hb, h⟩ := c_no h
    have hb0 := hb
    rcases s_or hb0 with hb0 | hb0
    · rcases s_or hb0 with hb0 | hb0
      · have e := b_eq hb0
        subst e
        cases h
        exact s175_324 (hc _ rfl) hK
      · have e := b_eq hb0
        subst e
        cases h
        exact s175_325 (hc _ rfl) hK
    · have e := b_eq hb0
      subst e
      cases h
      exact s175_326 (hc _ rfl) hK
  · cases h
noncomputable def gpfF_l : List (Nat × gD) := (175, f175) :: gpfE_l
noncomputable def gpfF : gP := gpl0 gpfF_l
theorem gpfF_ok : gPok gpfF := gpl0_cons ok175 (gpfE_ok)
set_option maxRecDepth 20000 in
theorem w176_324 {σ : gS} {K : gK} {a b x : Int32} (h : (0 ≤ (9 + 10 * b + (0 : Int32)) ∧ (9 + 10 * b + (0 : Int32)) < 330) ∧ (0 ≤ a ∧ a < 20) ∧ (((bI (fMay (σ 324) a.toNatClampNeg (σ 324 (9 + 10 * b + (0 : Int32)).toNatClampNeg))) = 0 → K (some (.int 1)) σ) ∧ (¬ (bI (fMay (σ 324) a.toNatClampNeg (σ 324 (9 + 10 * b + (0 : Int32)).toNatClampNeg))) = 0 → (0 ≤ (9 + 10 * a + (0 : Int32)) ∧ (9 + 10 * a + (0 : Int32)) < 330) ∧ (0 ≤ b ∧ b < 20) ∧ ((¬ (bI (fMay (σ 324) b.toNatClampNeg (σ 324 (9 + 10 * a + (0 : Int32)).toNatClampNeg))) = 0 → (0 ≤ (9 + 10 * a + (7 : Int32)) ∧ (9 + 10 * a + (7 : Int32)) < 330) ∧ ((¬ (σ 324 (9 + 10 * a + (7 : Int32)).toNatClampNeg) < x → (((0 ≤ a ∧ a < 20) ∧ (0 ≤ b ∧ b < 20)) ∧ (0 ≤ a ∧ a < 20) ∧ 0 ≤ σ 324 3 ∧ σ 324 3 ≤ 20) ∧ ((¬ (fRise (σ 324) a.toNatClampNeg b.toNatClampNeg a.toNatClampNeg) < x → (((0 ≤ a ∧ a < 20) ∧ (0 ≤ b ∧ b < 20)) ∧ (0 ≤ b ∧ b < 20) ∧ 0 ≤ σ 324 3 ∧ σ 324 3 ≤ 20) ∧ ((¬ (fRise (σ 324) a.toNatClampNeg b.toNatClampNeg b.toNatClampNeg) < (-x) → K (some (.int 0)) σ) ∧ ((fRise (σ 324) a.toNatClampNeg b.toNatClampNeg b.toNatClampNeg) < (-x) → K (some (.int 4)) σ))) ∧ ((fRise (σ 324) a.toNatClampNeg b.toNatClampNeg a.toNatClampNeg) < x → K (some (.int 3)) σ))) ∧ ((σ 324 (9 + 10 * a + (7 : Int32)).toNatClampNeg) < x → K (some (.int 2)) σ))) ∧ ((bI (fMay (σ 324) b.toNatClampNeg (σ 324 (9 + 10 * a + (0 : Int32)).toNatClampNeg))) = 0 → K (some (.int 1)) σ))))) : gE 176 0 [some (.ref 324), some (.int a), some (.int b), some (.int x)] [] σ K :=
  gw_run (cy := 176) (cuts := []) (inl := []) (pf := gpfF) gpfF_ok 400 (by decide) h
theorem s176_324 {σ : gS} {K : gK} {a b x : Int32} (hc : ((0 ≤ a ∧ a < 20) ∧ (0 ≤ b ∧ b < 20)) ∧ 0 ≤ σ 324 3 ∧ σ 324 3 ≤ 20) (hK : K (some (.int (fWhy (σ 324) a.toNatClampNeg b.toNatClampNeg x))) σ) : gE 176 0 [some (.ref 324), some (.int a), some (.int b), some (.int x)] [] σ K := by
  obtain ⟨⟨ha, hb⟩, hc⟩ := hc
  obtain ⟨ea, la⟩ := t20 ha
  obtain ⟨ma, na⟩ : ∃ m, a.toNatClampNeg = m := ⟨_, rfl⟩
  rw [na] at ea la hK
  subst ea
  obtain ⟨eb, lb⟩ := t20 hb
  obtain ⟨mb, nb⟩ : ∃ m, b.toNatClampNeg = m := ⟨_, rfl⟩
  rw [nb] at eb lb hK
  subst eb
  have na : (iN ma).toNatClampNeg = ma := iN_nat (by omega)
  have nb : (iN mb).toNatClampNeg = mb := iN_nat (by omega)
  have a0 := ixb0 la
  have b0 := ixb0 lb
  have a7 := ixb7 la
  refine w176_324 ?_
  rw [ix0 la, ix0 lb, ix7 la, na, nb]
  simp only [bI_0]
  unfold fWhy at hK
  unfold fld at hK
  grind
set_option maxRecDepth 20000 in
theorem w176_325 {σ : gS} {K : gK} {a b x : Int32} (h : (0 ≤ (9 + 10 * b + (0 : Int32)) ∧ (9 + 10 * b + (0 : Int32)) < 330) ∧ (0 ≤ a ∧ a < 20) ∧ (((bI (fMay (σ 325) a.toNatClampNeg (σ 325 (9 + 10 * b + (0 : Int32)).toNatClampNeg))) = 0 → K (some (.int 1)) σ) ∧ (¬ (bI (fMay (σ 325) a.toNatClampNeg (σ 325 (9 + 10 * b + (0 : Int32)).toNatClampNeg))) = 0 → (0 ≤ (9 + 10 * a + (0 : Int32)) ∧ (9 + 10 * a + (0 : Int32)) < 330) ∧ (0 ≤ b ∧ b < 20) ∧ ((¬ (bI (fMay (σ 325) b.toNatClampNeg (σ 325 (9 + 10 * a + (0 : Int32)).toNatClampNeg))) = 0 → (0 ≤ (9 + 10 * a + (7 : Int32)) ∧ (9 + 10 * a + (7 : Int32)) < 330) ∧ ((¬ (σ 325 (9 + 10 * a + (7 : Int32)).toNatClampNeg) < x → (((0 ≤ a ∧ a < 20) ∧ (0 ≤ b ∧ b < 20)) ∧ (0 ≤ a ∧ a < 20) ∧ 0 ≤ σ 325 3 ∧ σ 325 3 ≤ 20) ∧ ((¬ (fRise (σ 325) a.toNatClampNeg b.toNatClampNeg a.toNatClampNeg) < x → (((0 ≤ a ∧ a < 20) ∧ (0 ≤ b ∧ b < 20)) ∧ (0 ≤ b ∧ b < 20) ∧ 0 ≤ σ 325 3 ∧ σ 325 3 ≤ 20) ∧ ((¬ (fRise (σ 325) a.toNatClampNeg b.toNatClampNeg b.toNatClampNeg) < (-x) → K (some (.int 0)) σ) ∧ ((fRise (σ 325) a.toNatClampNeg b.toNatClampNeg b.toNatClampNeg) < (-x) → K (some (.int 4)) σ))) ∧ ((fRise (σ 325) a.toNatClampNeg b.toNatClampNeg a.toNatClampNeg) < x → K (some (.int 3)) σ))) ∧ ((σ 325 (9 + 10 * a + (7 : Int32)).toNatClampNeg) < x → K (some (.int 2)) σ))) ∧ ((bI (fMay (σ 325) b.toNatClampNeg (σ 325 (9 + 10 * a + (0 : Int32)).toNatClampNeg))) = 0 → K (some (.int 1)) σ))))) : gE 176 0 [some (.ref 325), some (.int a), some (.int b), some (.int x)] [] σ K :=
  gw_run (cy := 176) (cuts := []) (inl := []) (pf := gpfF) gpfF_ok 400 (by decide) h
theorem s176_325 {σ : gS} {K : gK} {a b x : Int32} (hc : ((0 ≤ a ∧ a < 20) ∧ (0 ≤ b ∧ b < 20)) ∧ 0 ≤ σ 325 3 ∧ σ 325 3 ≤ 20) (hK : K (some (.int (fWhy (σ 325) a.toNatClampNeg b.toNatClampNeg x))) σ) : gE 176 0 [some (.ref 325), some (.int a), some (.int b), some (.int x)] [] σ K := by
  obtain ⟨⟨ha, hb⟩, hc⟩ := hc
  obtain ⟨ea, la⟩ := t20 ha
  obtain ⟨ma, na⟩ : ∃ m, a.toNatClampNeg = m := ⟨_, rfl⟩
  rw [na] at ea la hK
  subst ea
  obtain ⟨eb, lb⟩ := t20 hb
  obtain ⟨mb, nb⟩ : ∃ m, b.toNatClampNeg = m := ⟨_, rfl⟩
  rw [nb] at eb lb hK
  subst eb
  have na : (iN ma).toNatClampNeg = ma := iN_nat (by omega)
  have nb : (iN mb).toNatClampNeg = mb := iN_nat (by omega)
  have a0 := ixb0 la
  have b0 := ixb0 lb
  have a7 := ixb7 la
  refine w176_325 ?_
  rw [ix0 la, ix0 lb, ix7 la, na, nb]
  simp only [bI_0]
  unfold fWhy at hK
  unfold fld at hK
  grind
set_option maxRecDepth 20000 in
theorem w176_326 {σ : gS} {K : gK} {a b x : Int32} (h : (0 ≤ (9 + 10 * b + (0 : Int32)) ∧ (9 + 10 * b + (0 : Int32)) < 330) ∧ (0 ≤ a ∧ a < 20) ∧ (((bI (fMay (σ 326) a.toNatClampNeg (σ 326 (9 + 10 * b + (0 : Int32)).toNatClampNeg))) = 0 → K (some (.int 1)) σ) ∧ (¬ (bI (fMay (σ 326) a.toNatClampNeg (σ 326 (9 + 10 * b + (0 : Int32)).toNatClampNeg))) = 0 → (0 ≤ (9 + 10 * a + (0 : Int32)) ∧ (9 + 10 * a + (0 : Int32)) < 330) ∧ (0 ≤ b ∧ b < 20) ∧ ((¬ (bI (fMay (σ 326) b.toNatClampNeg (σ 326 (9 + 10 * a + (0 : Int32)).toNatClampNeg))) = 0 → (0 ≤ (9 + 10 * a + (7 : Int32)) ∧ (9 + 10 * a + (7 : Int32)) < 330) ∧ ((¬ (σ 326 (9 + 10 * a + (7 : Int32)).toNatClampNeg) < x → (((0 ≤ a ∧ a < 20) ∧ (0 ≤ b ∧ b < 20)) ∧ (0 ≤ a ∧ a < 20) ∧ 0 ≤ σ 326 3 ∧ σ 326 3 ≤ 20) ∧ ((¬ (fRise (σ 326) a.toNatClampNeg b.toNatClampNeg a.toNatClampNeg) < x → (((0 ≤ a ∧ a < 20) ∧ (0 ≤ b ∧ b < 20)) ∧ (0 ≤ b ∧ b < 20) ∧ 0 ≤ σ 326 3 ∧ σ 326 3 ≤ 20) ∧ ((¬ (fRise (σ 326) a.toNatClampNeg b.toNatClampNeg b.toNatClampNeg) < (-x) → K (some (.int 0)) σ) ∧ ((fRise (σ 326) a.toNatClampNeg b.toNatClampNeg b.toNatClampNeg) < (-x) → K (some (.int 4)) σ))) ∧ ((fRise (σ 326) a.toNatClampNeg b.toNatClampNeg a.toNatClampNeg) < x → K (some (.int 3)) σ))) ∧ ((σ 326 (9 + 10 * a + (7 : Int32)).toNatClampNeg) < x → K (some (.int 2)) σ))) ∧ ((bI (fMay (σ 326) b.toNatClampNeg (σ 326 (9 + 10 * a + (0 : Int32)).toNatClampNeg))) = 0 → K (some (.int 1)) σ))))) : gE 176 0 [some (.ref 326), some (.int a), some (.int b), some (.int x)] [] σ K :=
  gw_run (cy := 176) (cuts := []) (inl := []) (pf := gpfF) gpfF_ok 400 (by decide) h
theorem s176_326 {σ : gS} {K : gK} {a b x : Int32} (hc : ((0 ≤ a ∧ a < 20) ∧ (0 ≤ b ∧ b < 20)) ∧ 0 ≤ σ 326 3 ∧ σ 326 3 ≤ 20) (hK : K (some (.int (fWhy (σ 326) a.toNatClampNeg b.toNatClampNeg x))) σ) : gE 176 0 [some (.ref 326), some (.int a), some (.int b), some (.int x)] [] σ K := by
  obtain ⟨⟨ha, hb⟩, hc⟩ := hc
  obtain ⟨ea, la⟩ := t20 ha
  obtain ⟨ma, na⟩ : ∃ m, a.toNatClampNeg = m := ⟨_, rfl⟩
  rw [na] at ea la hK
  subst ea
  obtain ⟨eb, lb⟩ := t20 hb
  obtain ⟨mb, nb⟩ : ∃ m, b.toNatClampNeg = m := ⟨_, rfl⟩
  rw [nb] at eb lb hK
  subst eb
  have na : (iN ma).toNatClampNeg = ma := iN_nat (by omega)
  have nb : (iN mb).toNatClampNeg = mb := iN_nat (by omega)
  have a0 := ixb0 la
  have b0 := ixb0 lb
  have a7 := ixb7 la
  refine w176_326 ?_
  rw [ix0 la, ix0 lb, ix7 la, na, nb]
  simp only [bI_0]
  unfold fWhy at hK
  unfold fld at hK
  grind
noncomputable def f176 : gD := fun Lv σ => match Lv with
  | [some (.ref p), some (.int a), some (.int b), some (.int x)] => cond (Nat.beq p 324 || Nat.beq p 325 || Nat.beq p 326) (some (some (((0 ≤ a ∧ a < 20) ∧ (0 ≤ b ∧ b < 20)) ∧ 0 ≤ σ p 3 ∧ σ p 3 ≤ 20), some (.int (fWhy (σ p) a.toNatClampNeg b.toNatClampNeg x)), σ)) none
  | _ => none
theorem ok176 : gFok 176 f176 := by
  intro Lv σ q h hc K hK
  unfold f176 at h
  split at h
  · rename_i p a b x
    obtain ⟨hb, h⟩ := c_no h
    have hb0 := hb
    rcases s_or hb0 with hb0 | hb0
    · rcases s_or hb0 with hb0 | hb0
      · have e := b_eq hb0
        subst e
        cases h
        exact s176_324 (hc _ rfl) hK
      · have e := b_eq hb0
        subst e
        cases h
        exact s176_325 (hc _ rfl) hK
    · have e := b_eq hb0
      subst e
      cases h
      exact s176_326 (hc _ rfl) hK
  · cases h
set_option maxRecDepth 20000 in
theorem w177_324 {σ : gS} {K : gK} {t x : Int32} (h : (0 ≤ σ 324 3 ∧ σ 324 3 ≤ 20) ∧ (((fWho (σ 324) x) < 0 → (0 ≤ t ∧ t < 20) ∧ ((¬ (bI (fMay (σ 324) t.toNatClampNeg x)) = 0 → ((0 ≤ t ∧ t < 20) ∧ 0 ≤ σ 324 3 ∧ σ 324 3 ≤ 20) ∧ ((0 ≤ t ∧ t < 20) ∧ 0 ≤ σ 324 3 ∧ σ 324 3 ≤ 20) ∧ ((¬ (fJoy (σ 324) t.toNatClampNeg x) < (fJo (σ 324) t.toNatClampNeg) → K (some (.int 0)) σ) ∧ ((fJoy (σ 324) t.toNatClampNeg x) < (fJo (σ 324) t.toNatClampNeg) → K (some (.int 6)) σ))) ∧ ((bI (fMay (σ 324) t.toNatClampNeg x)) = 0 → K (some (.int 1)) σ))) ∧ (¬ (fWho (σ 324) x) < 0 → K (some (.int 5)) σ))) : gE 177 0 [some (.ref 324), some (.int t), some (.int x)] [] σ K :=
  gw_run (cy := 177) (cuts := []) (inl := []) (pf := gpfF) gpfF_ok 400 (by decide) h
theorem s177_324 {σ : gS} {K : gK} {t x : Int32} (hc : (0 ≤ t ∧ t < 20) ∧ 0 ≤ σ 324 3 ∧ σ 324 3 ≤ 20) (hK : K (some (.int (fWhyM (σ 324) t.toNatClampNeg x))) σ) : gE 177 0 [some (.ref 324), some (.int t), some (.int x)] [] σ K := by
  obtain ⟨ht, hc⟩ := hc
  refine w177_324 ?_
  simp only [bI_0]
  unfold fWhyM at hK
  grind
set_option maxRecDepth 20000 in
theorem w177_325 {σ : gS} {K : gK} {t x : Int32} (h : (0 ≤ σ 325 3 ∧ σ 325 3 ≤ 20) ∧ (((fWho (σ 325) x) < 0 → (0 ≤ t ∧ t < 20) ∧ ((¬ (bI (fMay (σ 325) t.toNatClampNeg x)) = 0 → ((0 ≤ t ∧ t < 20) ∧ 0 ≤ σ 325 3 ∧ σ 325 3 ≤ 20) ∧ ((0 ≤ t ∧ t < 20) ∧ 0 ≤ σ 325 3 ∧ σ 325 3 ≤ 20) ∧ ((¬ (fJoy (σ 325) t.toNatClampNeg x) < (fJo (σ 325) t.toNatClampNeg) → K (some (.int 0)) σ) ∧ ((fJoy (σ 325) t.toNatClampNeg x) < (fJo (σ 325) t.toNatClampNeg) → K (some (.int 6)) σ))) ∧ ((bI (fMay (σ 325) t.toNatClampNeg x)) = 0 → K (some (.int 1)) σ))) ∧ (¬ (fWho (σ 325) x) < 0 → K (some (.int 5)) σ))) : gE 177 0 [some (.ref 325), some (.int t), some (.int x)] [] σ K :=
  gw_run (cy := 177) (cuts := []) (inl := []) (pf := gpfF) gpfF_ok 400 (by decide) h
theorem s177_325 {σ : gS} {K : gK} {t x : Int32} (hc : (0 ≤ t ∧ t < 20) ∧ 0 ≤ σ 325 3 ∧ σ 325 3 ≤ 20) (hK : K (some (.int (fWhyM (σ 325) t.toNatClampNeg x))) σ) : gE 177 0 [some (.ref 325), some (.int t), some (.int x)] [] σ K := by
  obtain ⟨ht, hc⟩ := hc
  refine w177_325 ?_
  simp only [bI_0]
  unfold fWhyM at hK
  grind
set_option maxRecDepth 20000 in
theorem w177_326 {σ : gS} {K : gK} {t x : Int32} (h : (0 ≤ σ 326 3 ∧ σ 326 3 ≤ 20) ∧ (((fWho (σ 326) x) < 0 → (0 ≤ t ∧ t < 20) ∧ ((¬ (bI (fMay (σ 326) t.toNatClampNeg x)) = 0 → ((0 ≤ t ∧ t < 20) ∧ 0 ≤ σ 326 3 ∧ σ 326 3 ≤ 20) ∧ ((0 ≤ t ∧ t < 20) ∧ 0 ≤ σ 326 3 ∧ σ 326 3 ≤ 20) ∧ ((¬ (fJoy (σ 326) t.toNatClampNeg x) < (fJo (σ 326) t.toNatClampNeg) → K (some (.int 0)) σ) ∧ ((fJoy (σ 326) t.toNatClampNeg x) < (fJo (σ 326) t.toNatClampNeg) → K (some (.int 6)) σ))) ∧ ((bI (fMay (σ 326) t.toNatClampNeg x)) = 0 → K (some (.int 1)) σ))) ∧ (¬ (fWho (σ 326) x) < 0 → K (some (.int 5)) σ))) : gE 177 0 [some (.ref 326), some (.int t), some (.int x)] [] σ K :=
  gw_run (cy := 177) (cuts := []) (inl := []) (pf := gpfF) gpfF_ok 400 (by decide) h
theorem s177_326 {σ : gS} {K : gK} {t x : Int32} (hc : (0 ≤ t ∧ t < 20) ∧ 0 ≤ σ 326 3 ∧ σ 326 3 ≤ 20) (hK : K (some (.int (fWhyM (σ 326) t.toNatClampNeg x))) σ) : gE 177 0 [some (.ref 326), some (.int t), some (.int x)] [] σ K := by
  obtain ⟨ht, hc⟩ := hc
  refine w177_326 ?_
  simp only [bI_0]
  unfold fWhyM at hK
  grind
noncomputable def f177 : gD := fun Lv σ => match Lv with
  | [some (.ref p), some (.int t), some (.int x)] => cond (Nat.beq p 324 || Nat.beq p 325 || Nat.beq p 326) (some (some ((0 ≤ t ∧ t < 20) ∧ 0 ≤ σ p 3 ∧ σ p 3 ≤ 20), some (.int (fWhyM (σ p) t.toNatClampNeg x)), σ)) none
  | _ => none
theorem ok177 : gFok 177 f177 := by
  intro Lv σ q h hc K hK
  unfold f177 at h
  split at h
  · rename_i p t x
    obtain ⟨hb, h⟩ := c_no h
    have hb0 := hb
    rcases s_or hb0 with hb0 | hb0
    · rcases s_or hb0 with hb0 | hb0
      · have e := b_eq hb0
        subst e
        cases h
        exact s177_324 (hc _ rfl) hK
      · have e := b_eq hb0
        subst e
        cases h
        exact s177_325 (hc _ rfl) hK
    · have e := b_eq hb0
      subst e
      cases h
      exact s177_326 (hc _ rfl) hK
  · cases h
set_option maxRecDepth 20000 in
theorem w178_324 {σ : gS} {K : gK} {a b c w : Int32} (h : ((0 ≤ w ∧ w < 20) ∧ 0 ≤ σ 324 3 ∧ σ 324 3 ≤ 20) ∧ (((0 ≤ a ∧ a < 20) ∧ (0 ≤ b ∧ b < 20) ∧ (0 ≤ c ∧ c < 20))) ∧ ((0 ≤ w ∧ w < 20) ∧ 0 ≤ (grow σ 324 (rtu (σ 324) a.toNatClampNeg b.toNatClampNeg c.toNatClampNeg)) 324 3 ∧ (grow σ 324 (rtu (σ 324) a.toNatClampNeg b.toNatClampNeg c.toNatClampNeg)) 324 3 ≤ 20) ∧ (((0 ≤ c ∧ c < 20) ∧ (0 ≤ b ∧ b < 20) ∧ (0 ≤ a ∧ a < 20))) ∧ K (some (.int ((fJo ((grow σ 324 (rtu (σ 324) a.toNatClampNeg b.toNatClampNeg c.toNatClampNeg)) 324) w.toNatClampNeg) - (fJo (σ 324) w.toNatClampNeg)))) (grow (grow σ 324 (rtu (σ 324) a.toNatClampNeg b.toNatClampNeg c.toNatClampNeg)) 324 (rtu ((grow σ 324 (rtu (σ 324) a.toNatClampNeg b.toNatClampNeg c.toNatClampNeg)) 324) c.toNatClampNeg b.toNatClampNeg a.toNatClampNeg))) : gE 178 0 [some (.ref 324), some (.int a), some (.int b), some (.int c), some (.int w), none, none] [] σ K :=
  gw_run (cy := 178) (cuts := []) (inl := []) (pf := gpfE) gpfE_ok 400 (by decide) h
theorem s178_324 {σ : gS} {K : gK} {a b c w : Int32} (hc : ((0 ≤ a ∧ a < 20) ∧ (0 ≤ b ∧ b < 20) ∧ (0 ≤ c ∧ c < 20)) ∧ (a.toNatClampNeg ≠ b.toNatClampNeg ∧ b.toNatClampNeg ≠ c.toNatClampNeg ∧ a.toNatClampNeg ≠ c.toNatClampNeg) ∧ (0 ≤ w ∧ w < 20) ∧ 0 ≤ σ 324 3 ∧ σ 324 3 ≤ 20) (hK : K (some (.int (fRR (σ 324) a.toNatClampNeg b.toNatClampNeg c.toNatClampNeg w.toNatClampNeg))) σ) : gE 178 0 [some (.ref 324), some (.int a), some (.int b), some (.int c), some (.int w), none, none] [] σ K := by
  obtain ⟨⟨ha, hb, hcc⟩, hd, hw, hc⟩ := hc
  refine w178_324 ⟨⟨hw, hc⟩, ⟨ha, hb, hcc⟩, ⟨hw, by rw [grow_at, rtu_3 hd]; exact hc⟩, ⟨hcc, hb, ha⟩, ?_⟩
  simp only [grow_grow, grow_at, rtu_rtu hd, grow_id]
  exact hK
set_option maxRecDepth 20000 in
theorem w178_325 {σ : gS} {K : gK} {a b c w : Int32} (h : ((0 ≤ w ∧ w < 20) ∧ 0 ≤ σ 325 3 ∧ σ 325 3 ≤ 20) ∧ (((0 ≤ a ∧ a < 20) ∧ (0 ≤ b ∧ b < 20) ∧ (0 ≤ c ∧ c < 20))) ∧ ((0 ≤ w ∧ w < 20) ∧ 0 ≤ (grow σ 325 (rtu (σ 325) a.toNatClampNeg b.toNatClampNeg c.toNatClampNeg)) 325 3 ∧ (grow σ 325 (rtu (σ 325) a.toNatClampNeg b.toNatClampNeg c.toNatClampNeg)) 325 3 ≤ 20) ∧ (((0 ≤ c ∧ c < 20) ∧ (0 ≤ b ∧ b < 20) ∧ (0 ≤ a ∧ a < 20))) ∧ K (some (.int ((fJo ((grow σ 325 (rtu (σ 325) a.toNatClampNeg b.toNatClampNeg c.toNatClampNeg)) 325) w.toNatClampNeg) - (fJo (σ 325) w.toNatClampNeg)))) (grow (grow σ 325 (rtu (σ 325) a.toNatClampNeg b.toNatClampNeg c.toNatClampNeg)) 325 (rtu ((grow σ 325 (rtu (σ 325) a.toNatClampNeg b.toNatClampNeg c.toNatClampNeg)) 325) c.toNatClampNeg b.toNatClampNeg a.toNatClampNeg))) : gE 178 0 [some (.ref 325), some (.int a), some (.int b), some (.int c), some (.int w), none, none] [] σ K :=
  gw_run (cy := 178) (cuts := []) (inl := []) (pf := gpfE) gpfE_ok 400 (by decide) h
theorem s178_325 {σ : gS} {K : gK} {a b c w : Int32} (hc : ((0 ≤ a ∧ a < 20) ∧ (0 ≤ b ∧ b < 20) ∧ (0 ≤ c ∧ c < 20)) ∧ (a.toNatClampNeg ≠ b.toNatClampNeg ∧ b.toNatClampNeg ≠ c.toNatClampNeg ∧ a.toNatClampNeg ≠ c.toNatClampNeg) ∧ (0 ≤ w ∧ w < 20) ∧ 0 ≤ σ 325 3 ∧ σ 325 3 ≤ 20) (hK : K (some (.int (fRR (σ 325) a.toNatClampNeg b.toNatClampNeg c.toNatClampNeg w.toNatClampNeg))) σ) : gE 178 0 [some (.ref 325), some (.int a), some (.int b), some (.int c), some (.int w), none, none] [] σ K := by
  obtain ⟨⟨ha, hb, hcc⟩, hd, hw, hc⟩ := hc
  refine w178_325 ⟨⟨hw, hc⟩, ⟨ha, hb, hcc⟩, ⟨hw, by rw [grow_at, rtu_3 hd]; exact hc⟩, ⟨hcc, hb, ha⟩, ?_⟩
  simp only [grow_grow, grow_at, rtu_rtu hd, grow_id]
  exact hK
set_option maxRecDepth 20000 in
theorem w178_326 {σ : gS} {K : gK} {a b c w : Int32} (h : ((0 ≤ w ∧ w < 20) ∧ 0 ≤ σ 326 3 ∧ σ 326 3 ≤ 20) ∧ (((0 ≤ a ∧ a < 20) ∧ (0 ≤ b ∧ b < 20) ∧ (0 ≤ c ∧ c < 20))) ∧ ((0 ≤ w ∧ w < 20) ∧ 0 ≤ (grow σ 326 (rtu (σ 326) a.toNatClampNeg b.toNatClampNeg c.toNatClampNeg)) 326 3 ∧ (grow σ 326 (rtu (σ 326) a.toNatClampNeg b.toNatClampNeg c.toNatClampNeg)) 326 3 ≤ 20) ∧ (((0 ≤ c ∧ c < 20) ∧ (0 ≤ b ∧ b < 20) ∧ (0 ≤ a ∧ a < 20))) ∧ K (some (.int ((fJo ((grow σ 326 (rtu (σ 326) a.toNatClampNeg b.toNatClampNeg c.toNatClampNeg)) 326) w.toNatClampNeg) - (fJo (σ 326) w.toNatClampNeg)))) (grow (grow σ 326 (rtu (σ 326) a.toNatClampNeg b.toNatClampNeg c.toNatClampNeg)) 326 (rtu ((grow σ 326 (rtu (σ 326) a.toNatClampNeg b.toNatClampNeg c.toNatClampNeg)) 326) c.toNatClampNeg b.toNatClampNeg a.toNatClampNeg))) : gE 178 0 [some (.ref 326), some (.int a), some (.int b), some (.int c), some (.int w), none, none] [] σ K :=
  gw_run (cy := 178) (cuts := []) (inl := []) (pf := gpfE) gpfE_ok 400 (by decide) h
theorem s178_326 {σ : gS} {K : gK} {a b c w : Int32} (hc : ((0 ≤ a ∧ a < 20) ∧ (0 ≤ b ∧ b < 20) ∧ (0 ≤ c ∧ c < 20)) ∧ (a.toNatClampNeg ≠ b.toNatClampNeg ∧ b.toNatClampNeg ≠ c.toNatClampNeg ∧ a.toNatClampNeg ≠ c.toNatClampNeg) ∧ (0 ≤ w ∧ w < 20) ∧ 0 ≤ σ 326 3 ∧ σ 326 3 ≤ 20) (hK : K (some (.int (fRR (σ 326) a.toNatClampNeg b.toNatClampNeg c.toNatClampNeg w.toNatClampNeg))) σ) : gE 178 0 [some (.ref 326), some (.int a), some (.int b), some (.int c), some (.int w), none, none] [] σ K := by
  obtain ⟨⟨ha, hb, hcc⟩, hd, hw, hc⟩ := hc
  refine w178_326 ⟨⟨hw, hc⟩, ⟨ha, hb, hcc⟩, ⟨hw, by rw [grow_at, rtu_3 hd]; exact hc⟩, ⟨hcc, hb, ha⟩, ?_⟩
  simp only [grow_grow, grow_at, rtu_rtu hd, grow_id]
  exact hK
noncomputable def f178 : gD := fun Lv σ => match Lv with
  | [some (.ref p), some (.int a), some (.int b), some (.int c), some (.int w), none, none] => cond (Nat.beq p 324 || Nat.beq p 325 || Nat.beq p 326) (some (some (((0 ≤ a ∧ a < 20) ∧ (0 ≤ b ∧ b < 20) ∧ (0 ≤ c ∧ c < 20)) ∧ (a.toNatClampNeg ≠ b.toNatClampNeg ∧ b.toNatClampNeg ≠ c.toNatClampNeg ∧ a.toNatClampNeg ≠ c.toNatClampNeg) ∧ (0 ≤ w ∧ w < 20) ∧ 0 ≤ σ p 3 ∧ σ p 3 ≤ 20), some (.int (fRR (σ p) a.toNatClampNeg b.toNatClampNeg c.toNatClampNeg w.toNatClampNeg)), σ)) none
  | _ => none
theorem ok178 : gFok 178 f178 := by
  intro Lv σ q h hc K hK
  unfold f178 at h
  split at h
  · rename_i p a b c w
    obtain ⟨hb, h⟩ := c_no h
    have hb0 := hb
    rcases s_or hb0 with hb0 | hb0
    · rcases s_or hb0 with hb0 | hb0
      · have e := b_eq hb0
        subst e
        cases h
        exact s178_324 (hc _ rfl) hK
      · have e := b_eq hb0
        subst e
        cases h
        exact s178_325 (hc _ rfl) hK
    · have e := b_eq hb0
      subst e
      cases h
      exact s178_326 (hc _ rfl) hK
  · cases h
noncomputable def gpfG_l : List (Nat × gD) := (176, f176) :: (177, f177) :: (178, f178) :: gpfF_l
noncomputable def gpfG : gP := gpl0 gpfG_l
theorem gpfG_ok : gPok gpfG := gpl0_cons ok176 (gpl0_cons ok177 (gpl0_cons ok178 (gpfF_ok)))
-- text 12
/-! THE REFERENCE: rings, the best swap, settling, rows copied -/
set_option maxRecDepth 20000 in
theorem w179_324 {σ : gS} {K : gK} {a b c : Int32} (h : (0 ≤ (9 + 10 * b + (0 : Int32)) ∧ (9 + 10 * b + (0 : Int32)) < 330) ∧ (0 ≤ a ∧ a < 20) ∧ (((bI (fMay (σ 324) a.toNatClampNeg (σ 324 (9 + 10 * b + (0 : Int32)).toNatClampNeg))) = 0 → K (some (.int 1)) σ) ∧ (¬ (bI (fMay (σ 324) a.toNatClampNeg (σ 324 (9 + 10 * b + (0 : Int32)).toNatClampNeg))) = 0 → (0 ≤ (9 + 10 * c + (0 : Int32)) ∧ (9 + 10 * c + (0 : Int32)) < 330) ∧ (0 ≤ b ∧ b < 20) ∧ (((bI (fMay (σ 324) b.toNatClampNeg (σ 324 (9 + 10 * c + (0 : Int32)).toNatClampNeg))) = 0 → K (some (.int 1)) σ) ∧ (¬ (bI (fMay (σ 324) b.toNatClampNeg (σ 324 (9 + 10 * c + (0 : Int32)).toNatClampNeg))) = 0 → (0 ≤ (9 + 10 * a + (0 : Int32)) ∧ (9 + 10 * a + (0 : Int32)) < 330) ∧ (0 ≤ c ∧ c < 20) ∧ ((¬ (bI (fMay (σ 324) c.toNatClampNeg (σ 324 (9 + 10 * a + (0 : Int32)).toNatClampNeg))) = 0 → (((0 ≤ a ∧ a < 20) ∧ (0 ≤ b ∧ b < 20) ∧ (0 ≤ c ∧ c < 20)) ∧ (a.toNatClampNeg ≠ b.toNatClampNeg ∧ b.toNatClampNeg ≠ c.toNatClampNeg ∧ a.toNatClampNeg ≠ c.toNatClampNeg) ∧ (0 ≤ a ∧ a < 20) ∧ 0 ≤ σ 324 3 ∧ σ 324 3 ≤ 20) ∧ ((¬ (fRR (σ 324) a.toNatClampNeg b.toNatClampNeg c.toNatClampNeg a.toNatClampNeg) < 0 → (((0 ≤ a ∧ a < 20) ∧ (0 ≤ b ∧ b < 20) ∧ (0 ≤ c ∧ c < 20)) ∧ (a.toNatClampNeg ≠ b.toNatClampNeg ∧ b.toNatClampNeg ≠ c.toNatClampNeg ∧ a.toNatClampNeg ≠ c.toNatClampNeg) ∧ (0 ≤ b ∧ b < 20) ∧ 0 ≤ σ 324 3 ∧ σ 324 3 ≤ 20) ∧ ((¬ (fRR (σ 324) a.toNatClampNeg b.toNatClampNeg c.toNatClampNeg b.toNatClampNeg) < 0 → (((0 ≤ a ∧ a < 20) ∧ (0 ≤ b ∧ b < 20) ∧ (0 ≤ c ∧ c < 20)) ∧ (a.toNatClampNeg ≠ b.toNatClampNeg ∧ b.toNatClampNeg ≠ c.toNatClampNeg ∧ a.toNatClampNeg ≠ c.toNatClampNeg) ∧ (0 ≤ c ∧ c < 20) ∧ 0 ≤ σ 324 3 ∧ σ 324 3 ≤ 20) ∧ ((¬ (fRR (σ 324) a.toNatClampNeg b.toNatClampNeg c.toNatClampNeg c.toNatClampNeg) < 0 → K (some (.int 0)) σ) ∧ ((fRR (σ 324) a.toNatClampNeg b.toNatClampNeg c.toNatClampNeg c.toNatClampNeg) < 0 → K (some (.int 6)) σ))) ∧ ((fRR (σ 324) a.toNatClampNeg b.toNatClampNeg c.toNatClampNeg b.toNatClampNeg) < 0 → K (some (.int 6)) σ))) ∧ ((fRR (σ 324) a.toNatClampNeg b.toNatClampNeg c.toNatClampNeg a.toNatClampNeg) < 0 → K (some (.int 6)) σ))) ∧ ((bI (fMay (σ 324) c.toNatClampNeg (σ 324 (9 + 10 * a + (0 : Int32)).toNatClampNeg))) = 0 → K (some (.int 1)) σ))))))) : gE 179 0 [some (.ref 324), some (.int a), some (.int b), some (.int c)] [] σ K :=
  gw_run (cy := 179) (cuts := []) (inl := []) (pf := gpfG) gpfG_ok 400 (by decide) h
theorem s179_324 {σ : gS} {K : gK} {a b c : Int32} (hc : ((0 ≤ a ∧ a < 20) ∧ (0 ≤ b ∧ b < 20) ∧ (0 ≤ c ∧ c < 20)) ∧ (a.toNatClampNeg ≠ b.toNatClampNeg ∧ b.toNatClampNeg ≠ c.toNatClampNeg ∧ a.toNatClampNeg ≠ c.toNatClampNeg) ∧ 0 ≤ σ 324 3 ∧ σ 324 3 ≤ 20) (hK : K (some (.int (fWhyR (σ 324) a.toNatClampNeg b.toNatClampNeg c.toNatClampNeg))) σ) : gE 179 0 [some (.ref 324), some (.int a), some (.int b), some (.int c)] [] σ K := by
  obtain ⟨⟨ha, hb, hcc⟩, hd, hc⟩ := hc
  have hc3 := hcc
  have hh := hcc
  obtain ⟨ec, lc⟩ := t20 hcc
  obtain ⟨ea, la⟩ := t20 ha
  obtain ⟨eb, lb⟩ := t20 hb
  have xa : ∀ t : Int32, 0 ≤ t ∧ t < 20 → (9 + 10 * t + (0 : Int32)).toNatClampNeg = 9 + 10 * t.toNatClampNeg + 0 ∧ (0 ≤ (9 + 10 * t + (0 : Int32)) ∧ (9 + 10 * t + (0 : Int32)) < 330) := by
    intro t ht
    obtain ⟨e, l⟩ := t20 ht
    rw [e, ix0 l, iN_nat (by omega)]
    exact ⟨rfl, ixb0 l⟩
  obtain ⟨xa1, xa2⟩ := xa a ha
  obtain ⟨xb1, xb2⟩ := xa b hb
  obtain ⟨xc1, xc2⟩ := xa c hcc
  refine w179_324 ?_
  rw [xa1, xb1, xc1]
  simp only [bI_0]
  unfold fWhyR at hK
  unfold fld at hK
  grind
noncomputable def f179 : gD := fun Lv σ => match Lv with
  | [some (.ref p), some (.int a), some (.int b), some (.int c)] => cond (Nat.beq p 324) (some (some (((0 ≤ a ∧ a < 20) ∧ (0 ≤ b ∧ b < 20) ∧ (0 ≤ c ∧ c < 20)) ∧ (a.toNatClampNeg ≠ b.toNatClampNeg ∧ b.toNatClampNeg ≠ c.toNatClampNeg ∧ a.toNatClampNeg ≠ c.toNatClampNeg) ∧ 0 ≤ σ p 3 ∧ σ p 3 ≤ 20), some (.int (fWhyR (σ p) a.toNatClampNeg b.toNatClampNeg c.toNatClampNeg)), σ)) none
  | _ => none
theorem ok179 : gFok 179 f179 := by
  intro Lv σ q h hc K hK
  unfold f179 at h
  split at h
  · rename_i p a b c
    obtain ⟨hb, h⟩ := c_no h
    have hb0 := hb
    have e := b_eq hb0
    subst e
    cases h
    exact s179_324 (hc _ rfl) hK
  · cases h
set_option maxRecDepth 20000 in
theorem w180_324 {σ : gS} {K : gK} {a b c : Int32} (h : (((0 ≤ a ∧ a < 20) ∧ (0 ≤ b ∧ b < 20) ∧ (0 ≤ c ∧ c < 20)) ∧ (a.toNatClampNeg ≠ b.toNatClampNeg ∧ b.toNatClampNeg ≠ c.toNatClampNeg ∧ a.toNatClampNeg ≠ c.toNatClampNeg) ∧ (0 ≤ a ∧ a < 20) ∧ 0 ≤ σ 324 3 ∧ σ 324 3 ≤ 20) ∧ (((0 ≤ a ∧ a < 20) ∧ (0 ≤ b ∧ b < 20) ∧ (0 ≤ c ∧ c < 20)) ∧ (a.toNatClampNeg ≠ b.toNatClampNeg ∧ b.toNatClampNeg ≠ c.toNatClampNeg ∧ a.toNatClampNeg ≠ c.toNatClampNeg) ∧ (0 ≤ b ∧ b < 20) ∧ 0 ≤ σ 324 3 ∧ σ 324 3 ≤ 20) ∧ (((0 ≤ a ∧ a < 20) ∧ (0 ≤ b ∧ b < 20) ∧ (0 ≤ c ∧ c < 20)) ∧ (a.toNatClampNeg ≠ b.toNatClampNeg ∧ b.toNatClampNeg ≠ c.toNatClampNeg ∧ a.toNatClampNeg ≠ c.toNatClampNeg) ∧ (0 ≤ c ∧ c < 20) ∧ 0 ≤ σ 324 3 ∧ σ 324 3 ≤ 20) ∧ K (some (.int (((fRR (σ 324) a.toNatClampNeg b.toNatClampNeg c.toNatClampNeg a.toNatClampNeg) + (fRR (σ 324) a.toNatClampNeg b.toNatClampNeg c.toNatClampNeg b.toNatClampNeg)) + (fRR (σ 324) a.toNatClampNeg b.toNatClampNeg c.toNatClampNeg c.toNatClampNeg)))) σ) : gE 180 0 [some (.ref 324), some (.int a), some (.int b), some (.int c)] [] σ K :=
  gw_run (cy := 180) (cuts := []) (inl := []) (pf := gpfG) gpfG_ok 400 (by decide) h
theorem s180_324 {σ : gS} {K : gK} {a b c : Int32} (hc : ((0 ≤ a ∧ a < 20) ∧ (0 ≤ b ∧ b < 20) ∧ (0 ≤ c ∧ c < 20)) ∧ (a.toNatClampNeg ≠ b.toNatClampNeg ∧ b.toNatClampNeg ≠ c.toNatClampNeg ∧ a.toNatClampNeg ≠ c.toNatClampNeg) ∧ 0 ≤ σ 324 3 ∧ σ 324 3 ≤ 20) (hK : K (some (.int (fROR (σ 324) a.toNatClampNeg b.toNatClampNeg c.toNatClampNeg))) σ) : gE 180 0 [some (.ref 324), some (.int a), some (.int b), some (.int c)] [] σ K := by
  obtain ⟨⟨ha, hb, hcc⟩, hd, hc⟩ := hc
  exact w180_324 ⟨⟨⟨ha, hb, hcc⟩, hd, ha, hc⟩, ⟨⟨ha, hb, hcc⟩, hd, hb, hc⟩, ⟨⟨ha, hb, hcc⟩, hd, hcc, hc⟩, hK⟩
noncomputable def f180 : gD := fun Lv σ => match Lv with
  | [some (.ref p), some (.int a), some (.int b), some (.int c)] => cond (Nat.beq p 324) (some (some (((0 ≤ a ∧ a < 20) ∧ (0 ≤ b ∧ b < 20) ∧ (0 ≤ c ∧ c < 20)) ∧ (a.toNatClampNeg ≠ b.toNatClampNeg ∧ b.toNatClampNeg ≠ c.toNatClampNeg ∧ a.toNatClampNeg ≠ c.toNatClampNeg) ∧ 0 ≤ σ p 3 ∧ σ p 3 ≤ 20), some (.int (fROR (σ p) a.toNatClampNeg b.toNatClampNeg c.toNatClampNeg)), σ)) none
  | _ => none
theorem ok180 : gFok 180 f180 := by
  intro Lv σ q h hc K hK
  unfold f180 at h
  split at h
  · rename_i p a b c
    obtain ⟨hb, h⟩ := c_no h
    have hb0 := hb
    have e := b_eq hb0
    subst e
    cases h
    exact s180_324 (hc _ rfl) hK
  · cases h
set_option maxRecDepth 20000 in
theorem w181_324 {σ : gS} {K : gK} {a b : Int32} (h : (0 ≤ σ 324 3 ∧ σ 324 3 ≤ 20) ∧ (((0 ≤ a ∧ a < 20) ∧ (0 ≤ b ∧ b < 20))) ∧ (0 ≤ (grow σ 324 (rsw (σ 324) a.toNatClampNeg b.toNatClampNeg)) 324 3 ∧ (grow σ 324 (rsw (σ 324) a.toNatClampNeg b.toNatClampNeg)) 324 3 ≤ 20) ∧ (((0 ≤ a ∧ a < 20) ∧ (0 ≤ b ∧ b < 20))) ∧ K (some (.int ((fJa ((grow σ 324 (rsw (σ 324) a.toNatClampNeg b.toNatClampNeg)) 324)) - (fJa (σ 324))))) (grow (grow σ 324 (rsw (σ 324) a.toNatClampNeg b.toNatClampNeg)) 324 (rsw ((grow σ 324 (rsw (σ 324) a.toNatClampNeg b.toNatClampNeg)) 324) a.toNatClampNeg b.toNatClampNeg))) : gE 181 0 [some (.ref 324), some (.int a), some (.int b), none, none] [] σ K :=
  gw_run (cy := 181) (cuts := []) (inl := []) (pf := gpfG) gpfG_ok 400 (by decide) h
theorem s181_324 {σ : gS} {K : gK} {a b : Int32} (hc : ((0 ≤ a ∧ a < 20) ∧ (0 ≤ b ∧ b < 20)) ∧ 0 ≤ σ 324 3 ∧ σ 324 3 ≤ 20) (hK : K (some (.int (fRA (σ 324) a.toNatClampNeg b.toNatClampNeg))) σ) : gE 181 0 [some (.ref 324), some (.int a), some (.int b), none, none] [] σ K := by
  obtain ⟨hab, hc⟩ := hc
  refine w181_324 ⟨hc, hab, by rw [grow_at, rsw_3]; exact hc, hab, ?_⟩
  simp only [grow_grow, grow_at, rsw_rsw, grow_id]
  exact hK
set_option maxRecDepth 20000 in
theorem w181_326 {σ : gS} {K : gK} {a b : Int32} (h : (0 ≤ σ 326 3 ∧ σ 326 3 ≤ 20) ∧ (((0 ≤ a ∧ a < 20) ∧ (0 ≤ b ∧ b < 20))) ∧ (0 ≤ (grow σ 326 (rsw (σ 326) a.toNatClampNeg b.toNatClampNeg)) 326 3 ∧ (grow σ 326 (rsw (σ 326) a.toNatClampNeg b.toNatClampNeg)) 326 3 ≤ 20) ∧ (((0 ≤ a ∧ a < 20) ∧ (0 ≤ b ∧ b < 20))) ∧ K (some (.int ((fJa ((grow σ 326 (rsw (σ 326) a.toNatClampNeg b.toNatClampNeg)) 326)) - (fJa (σ 326))))) (grow (grow σ 326 (rsw (σ 326) a.toNatClampNeg b.toNatClampNeg)) 326 (rsw ((grow σ 326 (rsw (σ 326) a.toNatClampNeg b.toNatClampNeg)) 326) a.toNatClampNeg b.toNatClampNeg))) : gE 181 0 [some (.ref 326), some (.int a), some (.int b), none, none] [] σ K :=
  gw_run (cy := 181) (cuts := []) (inl := []) (pf := gpfG) gpfG_ok 400 (by decide) h
theorem s181_326 {σ : gS} {K : gK} {a b : Int32} (hc : ((0 ≤ a ∧ a < 20) ∧ (0 ≤ b ∧ b < 20)) ∧ 0 ≤ σ 326 3 ∧ σ 326 3 ≤ 20) (hK : K (some (.int (fRA (σ 326) a.toNatClampNeg b.toNatClampNeg))) σ) : gE 181 0 [some (.ref 326), some (.int a), some (.int b), none, none] [] σ K := by
  obtain ⟨hab, hc⟩ := hc
  refine w181_326 ⟨hc, hab, by rw [grow_at, rsw_3]; exact hc, hab, ?_⟩
  simp only [grow_grow, grow_at, rsw_rsw, grow_id]
  exact hK
noncomputable def f181 : gD := fun Lv σ => match Lv with
  | [some (.ref p), some (.int a), some (.int b), none, none] => cond (Nat.beq p 324 || Nat.beq p 326) (some (some (((0 ≤ a ∧ a < 20) ∧ (0 ≤ b ∧ b < 20)) ∧ 0 ≤ σ p 3 ∧ σ p 3 ≤ 20), some (.int (fRA (σ p) a.toNatClampNeg b.toNatClampNeg)), σ)) none
  | _ => none
theorem ok181 : gFok 181 f181 := by
  intro Lv σ q h hc K hK
  unfold f181 at h
  split at h
  · rename_i p a b
    obtain ⟨hb, h⟩ := c_no h
    have hb0 := hb
    rcases s_or hb0 with hb0 | hb0
    · have e := b_eq hb0
      subst e
      cases h
      exact s181_324 (hc _ rfl) hK
    · have e := b_eq hb0
      subst e
      cases h
      exact s181_326 (hc _ rfl) hK
  · cases h
noncomputable def gpfH_l : List (Nat × gD) := (179, f179) :: (180, f180) :: (181, f181) :: gpfG_l
noncomputable def gpfH : gP := gpl0 gpfH_l
theorem gpfH_ok : gPok gpfH := gpl0_cons ok179 (gpl0_cons ok180 (gpl0_cons ok181 (gpfG_ok)))
def nfold {α : Type} (f : Nat → α → α) (n : Nat) (s : α) : α := match n with
  | 0 => s
  | n + 1 => f n (nfold f n s)
def bsS (R : gW) (a b : Nat) (s : Int32 × Int32) : Int32 × Int32 := if a = b ∨ 0 < fWhy R a b 0 then s else if fRA R a b ≤ s.2 then s else (100 * iN a + iN b, fRA R a b)
def bsR (R : gW) (a : Nat) (s : Int32 × Int32) : Int32 × Int32 := nfold (bsS R a) (nM R) s
def fBest (R : gW) : Int32 := (nfold (bsR R) (nM R) (-2, 0)).1
theorem g_forJ {y pc : Nat} {K : gK} {J : Type} (n : Nat) (Lv : Nat → J → gL) (σf : Nat → gS) (Inv : Nat → Prop) (hend : Inv n → ∀ u, gE y pc (Lv n u) [] (σf n) K) (hstep : ∀ k, k < n → Inv k → (Inv (k + 1) → ∀ u, gE y pc (Lv (k + 1) u) [] (σf (k + 1)) K) → ∀ u, gE y pc (Lv k u) [] (σf k) K) (k : Nat) (hk : k ≤ n) (hi : Inv k) : ∀ u, gE y pc (Lv k u) [] (σf k) K := by
  obtain ⟨d, hd⟩ : ∃ d, d = n - k := ⟨_, rfl⟩
  induction d generalizing k with
  | zero =>
    have : k = n := by omega
    subst this
    exact hend hi
  | succ d ih => exact hstep k (by omega) hi (fun h => ih (k + 1) (by omega) h (by omega))
set_option maxRecDepth 20000 in
theorem w182_326 {σ : gS} {K : gK} (h : gE 182 7 [some (.ref 326), some (.int (-2)), some (.int 0), some (.int 0), none, none] [] σ K) : gE 182 0 [some (.ref 326), none, none, none, none, none] [] σ K :=
  gw_run (cy := 182) (cuts := [7, 17]) (inl := []) (pf := gpfH) gpfH_ok 400 (by decide) h
set_option maxRecDepth 20000 in
theorem v182_a {σ : gS} {K : gK} {best most a : Int32} {u1 u2 : Option Value} (h : (0 ≤ (3 : Int32) ∧ (3 : Int32) < 330) ∧ ((¬ a < (σ 326 3) → K (some (.int best)) σ) ∧ (a < (σ 326 3) → gE 182 17 [some (.ref 326), some (.int best), some (.int most), some (.int a), some (.int 0), u2] [] σ K))) : gE 182 7 [some (.ref 326), some (.int best), some (.int most), some (.int a), u1, u2] [] σ K :=
  gw_run (cy := 182) (cuts := [7, 17]) (inl := []) (pf := gpfH) gpfH_ok 400 (by decide) h
set_option maxRecDepth 20000 in
theorem v182_b {σ : gS} {K : gK} {best most a b : Int32} {u2 : Option Value} (h : (0 ≤ (3 : Int32) ∧ (3 : Int32) < 330) ∧ ((¬ b < (σ 326 3) → gE 182 7 [some (.ref 326), some (.int best), some (.int most), some (.int (a + 1)), some (.int b), u2] [] σ K) ∧ (b < (σ 326 3) → ((a = b → gE 182 17 [some (.ref 326), some (.int best), some (.int most), some (.int a), some (.int (b + 1)), u2] [] σ K) ∧ (¬ a = b → (((0 ≤ a ∧ a < 20) ∧ (0 ≤ b ∧ b < 20)) ∧ 0 ≤ σ 326 3 ∧ σ 326 3 ≤ 20) ∧ ((¬ 0 < (fWhy (σ 326) a.toNatClampNeg b.toNatClampNeg (0 : Int32)) → (((0 ≤ a ∧ a < 20) ∧ (0 ≤ b ∧ b < 20)) ∧ 0 ≤ σ 326 3 ∧ σ 326 3 ≤ 20) ∧ ((most < (fRA (σ 326) a.toNatClampNeg b.toNatClampNeg) → gE 182 17 [some (.ref 326), some (.int ((100 * a) + b)), some (.int (fRA (σ 326) a.toNatClampNeg b.toNatClampNeg)), some (.int a), some (.int (b + 1)), some (.int (fRA (σ 326) a.toNatClampNeg b.toNatClampNeg))] [] σ K) ∧ (¬ most < (fRA (σ 326) a.toNatClampNeg b.toNatClampNeg) → gE 182 17 [some (.ref 326), some (.int best), some (.int most), some (.int a), some (.int (b + 1)), some (.int (fRA (σ 326) a.toNatClampNeg b.toNatClampNeg))] [] σ K))) ∧ (0 < (fWhy (σ 326) a.toNatClampNeg b.toNatClampNeg (0 : Int32)) → gE 182 17 [some (.ref 326), some (.int best), some (.int most), some (.int a), some (.int (b + 1)), u2] [] σ K))))))) : gE 182 17 [some (.ref 326), some (.int best), some (.int most), some (.int a), some (.int b), u2] [] σ K :=
  gw_run (cy := 182) (cuts := [7, 17]) (inl := []) (pf := gpfH) gpfH_ok 400 (by decide) h
theorem s182_326 {σ : gS} {K : gK} (hc : 0 ≤ σ 326 3 ∧ σ 326 3 ≤ 20) (hK : K (some (.int (fBest (σ 326)))) σ) : gE 182 0 [some (.ref 326), none, none, none, none, none] [] σ K := by
  have hn := (nM_of hc).2
  have inner : ∀ (a : Nat) (s : Int32 × Int32) (u : Option Value), a < nM (σ 326) → (∀ u1 u2, gE 182 7 [some (.ref 326), some (.int (bsR (σ 326) a s).1), some (.int (bsR (σ 326) a s).2), some (.int (iN (a + 1))), u1, u2] [] σ K) → gE 182 17 [some (.ref 326), some (.int s.1), some (.int s.2), some (.int (iN a)), some (.int 0), u] [] σ K := by
    intro a s u ha hout
    have ha20 : a < 20 := by omega
    refine g_forJ (nM (σ 326)) (fun k u => [some (.ref 326), some (.int (nfold (bsS (σ 326) a) k s).1), some (.int (nfold (bsS (σ 326) a) k s).2), some (.int (iN a)), some (.int (iN k)), u]) (fun _ => σ) (fun _ => True) (fun _ u => ?_) (fun k hk _ ih u => ?_) 0 (Nat.zero_le _) trivial u
    · refine v182_b ⟨by decide, fun _ => ?_, fun h => ?_⟩
      · rw [iN_one]
        exact hout _ _
      · rw [nM_lt hc (by omega)] at h; omega
    · have hk20 : k < 20 := by omega
      have ih := ih trivial
      have e : nfold (bsS (σ 326) a) (k + 1) s = bsS (σ 326) a k (nfold (bsS (σ 326) a) k s) := rfl
      rw [e] at ih
      generalize nfold (bsS (σ 326) a) k s = s at ih ⊢
      unfold bsS at ih
      have na : (iN a).toNatClampNeg = a := iN_nat (by omega)
      have nk : (iN k).toNatClampNeg = k := iN_nat (by omega)
      refine v182_b ⟨by decide, fun h => ?_, fun _ => ⟨fun h => ?_, fun h => ⟨⟨⟨b20 ha20, b20 hk20⟩, hc⟩, fun h2 => ⟨⟨⟨b20 ha20, b20 hk20⟩, hc⟩, fun h3 => ?_, fun h3 => ?_⟩, fun h2 => ?_⟩⟩⟩
      · rw [nM_lt hc (by omega)] at h; omega
      · rw [iN_inj (by omega) (by omega)] at h
        rw [if_pos (Or.inl h)] at ih
        rw [iN_one]
        exact ih _
      · rw [iN_inj (by omega) (by omega)] at h
        rw [na, nk] at h2 h3
        rw [if_neg (fun e => e.elim h h2), if_neg (Int32.not_le.mpr h3)] at ih
        rw [iN_one, na, nk]
        exact ih _
      · rw [iN_inj (by omega) (by omega)] at h
        rw [na, nk] at h2 h3
        rw [if_neg (fun e => e.elim h h2), if_pos (Int32.not_lt.mp h3)] at ih
        rw [iN_one, na, nk]
        exact ih _
      · rw [na, nk] at h2
        rw [if_pos (Or.inr h2)] at ih
        rw [iN_one]
        exact ih _
  refine w182_326 ?_
  refine g_forJ (J := Option Value × Option Value) (nM (σ 326)) (fun k u => [some (.ref 326), some (.int (nfold (bsR (σ 326)) k (-2, 0)).1), some (.int (nfold (bsR (σ 326)) k (-2, 0)).2), some (.int (iN k)), u.1, u.2]) (fun _ => σ) (fun _ => True) (fun _ u => ?_) (fun k hk _ ih u => ?_) 0 (Nat.zero_le _) trivial (none, none)
  · refine v182_a ⟨by decide, fun _ => hK, fun h => ?_⟩
    rw [nM_lt hc (by omega)] at h; omega
  · refine v182_a ⟨by decide, fun h => ?_, fun _ => inner k _ _ hk (fun u1 u2 => ih trivial (u1, u2))⟩
    rw [nM_lt hc (by omega)] at h; omega
noncomputable def f182 : gD := fun Lv σ => match Lv with
  | [some (.ref p), none, none, none, none, none] => cond (Nat.beq p 326) (some (some (0 ≤ σ p 3 ∧ σ p 3 ≤ 20), some (.int (fBest (σ p))), σ)) none
  | _ => none
theorem ok182 : gFok 182 f182 := by
  intro Lv σ q h hc K hK
  unfold f182 at h
  split at h
  · rename_i p
    obtain ⟨hb, h⟩ := c_no h
    have hb0 := hb
    have e := b_eq hb0
    subst e
    cases h
    exact s182_326 (hc _ rfl) hK
  · cases h
noncomputable def gpfI_l : List (Nat × gD) := (182, f182) :: gpfH_l
noncomputable def gpfI : gP := gpl0 gpfI_l
theorem gpfI_ok : gPok gpfI := gpl0_cons ok182 (gpfH_ok)
end
section
-- text 13
/-! THE REFERENCE: settling, rows copied -/
theorem nfold_inv {α : Type} {f : Nat → α → α} {P : α → Prop} {s : α} (h0 : P s) : ∀ {n : Nat}, (∀ k s, k < n → P s → P (f k s)) → P (nfold f n s)
  | 0, _ => h0
  | n + 1, h => h n _ (by omega) (nfold_inv h0 (fun k s hk => h k s (by omega)))
def bsO (R : gW) (x : Int32) : Prop := x = -2 ∨ ∃ a b, a < nM R ∧ b < nM R ∧ x = 100 * iN a + iN b
theorem fBest_of (R : gW) : bsO R (fBest R) := by
  have h := nfold_inv (f := bsR R) (P := fun s : Int32 × Int32 => bsO R s.1) (s := (-2, 0)) (Or.inl rfl) (n := nM R) (fun a s ha hs => by
    refine nfold_inv (f := bsS R a) (P := fun s : Int32 × Int32 => bsO R s.1) hs (fun b s hb hs => ?_)
    unfold bsS
    split
    · exact hs
    · split
      · exact hs
      · exact Or.inr ⟨a, b, ha, hb, rfl⟩)
  exact h
theorem dm100 : ∀ a, a < 20 → ∀ b, b < 20 → (100 * iN a + iN b) / 100 = iN a ∧ (100 * iN a + iN b) - (100 * iN a + iN b) / 100 * 100 = iN b ∧ ¬ (100 * iN a + iN b) < 0 := by decide +kernel
def fNx (R : gW) : gW := rsw R (fBest R / 100).toNatClampNeg (fBest R - fBest R / 100 * 100).toNatClampNeg
theorem fNx_3 (R : gW) : fNx R 3 = R 3 := rsw_3 _ _ _
def fSt : Nat → gW → Nat × gW
  | 0, R => (0, R)
  | d + 1, R => if fBest R < 0 then (0, R) else ((fSt d (fNx R)).1 + 1, (fSt d (fNx R)).2)
theorem fSt_lt {d : Nat} {R : gW} (h : fBest R < 0) : fSt (d + 1) R = (0, R) := if_pos h
theorem fSt_ge {d : Nat} {R : gW} (h : ¬ fBest R < 0) : fSt (d + 1) R = ((fSt d (fNx R)).1 + 1, (fSt d (fNx R)).2) := if_neg h
set_option maxRecDepth 20000 in
theorem w183_326 {σ : gS} {K : gK} (h : (0 ≤ σ 326 3 ∧ σ 326 3 ≤ 20) ∧ gE 183 7 [some (.ref 326), some (.int 0), some (.int (fBest (σ 326)))] [] σ K) : gE 183 0 [some (.ref 326), none, none] [] σ K :=
  gw_run (cy := 183) (cuts := [7]) (inl := []) (pf := gpfI) gpfI_ok 400 (by decide) h
set_option maxRecDepth 20000 in
theorem v183_326 {σ : gS} {K : gK} {n best : Int32} (h : ((best < 0 → K (some (.int n)) σ) ∧ (¬ best < 0 → ((¬ n < 99 → K (some (.int n)) σ) ∧ (n < 99 → (100 : Int32) ≠ 0 ∧ (100 : Int32) ≠ 0 ∧ (((0 ≤ (best / 100) ∧ (best / 100) < 20) ∧ (0 ≤ (best - best / 100 * 100) ∧ (best - best / 100 * 100) < 20))) ∧ (0 ≤ (grow σ 326 (rsw (σ 326) (best / 100).toNatClampNeg (best - best / 100 * 100).toNatClampNeg)) 326 3 ∧ (grow σ 326 (rsw (σ 326) (best / 100).toNatClampNeg (best - best / 100 * 100).toNatClampNeg)) 326 3 ≤ 20) ∧ gE 183 7 [some (.ref 326), some (.int (n + 1)), some (.int (fBest ((grow σ 326 (rsw (σ 326) (best / 100).toNatClampNeg (best - best / 100 * 100).toNatClampNeg)) 326)))] [] (grow σ 326 (rsw (σ 326) (best / 100).toNatClampNeg (best - best / 100 * 100).toNatClampNeg)) K))))) : gE 183 7 [some (.ref 326), some (.int n), some (.int best)] [] σ K :=
  gw_run (cy := 183) (cuts := [7]) (inl := []) (pf := gpfI) gpfI_ok 400 (by decide) h
theorem s183_326 {σ : gS} {K : gK} (hc : 0 ≤ σ 326 3 ∧ σ 326 3 ≤ 20) (hK : K (some (.int (iN (fSt 99 (σ 326)).1))) (grow σ 326 (fSt 99 (σ 326)).2)) : gE 183 0 [some (.ref 326), none, none] [] σ K := by
  have key : ∀ (d : Nat) (R : gW), d ≤ 99 → (0 ≤ R 3 ∧ R 3 ≤ 20) → K (some (.int (iN (99 - d + (fSt d R).1)))) (grow σ 326 (fSt d R).2) → gE 183 7 [some (.ref 326), some (.int (iN (99 - d))), some (.int (fBest R))] [] (grow σ 326 R) K := by
    intro d
    induction d with
    | zero =>
      intro R _ _ hK
      refine v183_326 ⟨fun _ => hK, fun _ => ⟨fun _ => hK, fun h => ?_⟩⟩
      exact absurd h (by decide)
    | succ d ih =>
      intro R hd hR hK
      by_cases hb : fBest R < 0
      · rw [fSt_lt hb] at hK
        exact v183_326 ⟨fun _ => hK, fun h => absurd hb h⟩
      · rw [fSt_ge hb] at hK
        obtain ⟨a, b, ha, hb2, e⟩ : ∃ a b, a < nM R ∧ b < nM R ∧ fBest R = 100 * iN a + iN b := by
          rcases fBest_of R with h | h
          · rw [h] at hb; exact absurd (by decide) hb
          · exact h
        have hn := (nM_of hR).2
        obtain ⟨d1, d2, -⟩ := dm100 a (by omega) b (by omega)
        have e2 : fNx R = rsw R a b := by
          unfold fNx
          rw [e, d2, d1, iN_nat (by omega), iN_nat (by omega)]
        have ih := ih (fNx R) (by omega) (by rw [fNx_3]; exact hR) (by rw [show 99 - d + (fSt d (fNx R)).1 = 99 - (d + 1) + ((fSt d (fNx R)).1 + 1) by omega]; exact hK)
        refine v183_326 ⟨fun h => absurd h hb, fun _ => ⟨fun h => absurd ((iN_lt (m := 99) (by omega) (by omega)).mpr (by omega)) h, fun _ => ⟨by decide, by decide, ?_⟩⟩⟩
        rw [e, d2, d1, iN_nat (by omega), iN_nat (by omega)]
        refine ⟨⟨b20 (by omega), b20 (by omega)⟩, ?_⟩
        simp only [grow_grow, grow_at]
        refine ⟨by rw [rsw_3]; exact hR, ?_⟩
        rw [iN_one, show 99 - (d + 1) + 1 = 99 - d by omega, ← e2]
        exact ih
  refine w183_326 ⟨hc, ?_⟩
  have h := key 99 (σ 326) (by omega) hc
  rw [grow_id, show 99 - 99 + (fSt 99 (σ 326)).1 = (fSt 99 (σ 326)).1 by omega] at h
  exact h hK
noncomputable def f183 : gD := fun Lv σ => match Lv with
  | [some (.ref p), none, none] => cond (Nat.beq p 326) (some (some (0 ≤ σ p 3 ∧ σ p 3 ≤ 20), some (.int (iN (fSt 99 (σ p)).1)), grow σ p (fSt 99 (σ p)).2)) none
  | _ => none
theorem ok183 : gFok 183 f183 := by
  intro Lv σ q h hc K hK
  unfold f183 at h
  split at h
  · rename_i p
    obtain ⟨hb, h⟩ := c_no h
    have hb0 := hb
    have e := b_eq hb0
    subst e
    cases h
    exact s183_326 (hc _ rfl) hK
  · cases h
/-- 330 numbers of S from a on, laid into T from b on: the first k of them -/
def rla (S T : gW) (a b k : Nat) : gW := fun j => if b ≤ j ∧ j < b + k then S (a + (j - b)) else T j
theorem rla_0 (S T : gW) (a b : Nat) : rla S T a b 0 = T := by funext j; unfold rla; rw [if_neg (by omega)]
theorem rla_s (S T : gW) (a b k : Nat) : rup (rla S T a b k) (b + k) (S (a + k)) = rla S T a b (k + 1) := by
  funext j
  unfold rup rla
  by_cases h : j = b + k
  · rw [if_pos h, if_pos (by omega), h, show a + (b + k - b) = a + k by omega]
  · rw [if_neg h]
    by_cases h2 : b ≤ j ∧ j < b + k
    · rw [if_pos h2, if_pos (by omega)]
    · rw [if_neg h2, if_neg (by omega)]
theorem ix_ab {a : Int32} {k n : Nat} (ha : 0 ≤ a ∧ a ≤ iN (n * 330)) (hk : k < 330) (hn : n < 9) : (a + iN k).toNatClampNeg = a.toNatClampNeg + k ∧ 0 ≤ a + iN k ∧ a + iN k < iN (n * 330 + 330) := by
  obtain ⟨e, l⟩ := iN_of ha.1
  have l2 : a.toNatClampNeg ≤ n * 330 := by
    have h := ha.2
    rw [e, iN_le l (by omega)] at h
    exact h
  rw [e, iN_nat l, iN_add, iN_nat (by omega)]
  exact ⟨rfl, (iN_le (k := 0) (by decide) (by omega)).mpr (by omega), (iN_lt (by omega) (by omega)).mpr (by omega)⟩
set_option maxRecDepth 20000 in
theorem w153_324_326 {σ : gS} {K : gK} {a b : Int32} (h : gE 153 3 [some (.ref 324), some (.int a), some (.ref 326), some (.int b), some (.int 0)] [] σ K) : gE 153 0 [some (.ref 324), some (.int a), some (.ref 326), some (.int b), none] [] σ K :=
  gw_run (cy := 153) (cuts := [3]) (inl := []) (pf := gpfI) gpfI_ok 400 (by decide) h
set_option maxRecDepth 20000 in
theorem v153_324_326 {σ : gS} {K : gK} {a b k : Int32} (h : ((¬ k < 330 → K none σ) ∧ (k < 330 → (0 ≤ (a + k) ∧ (a + k) < 330) ∧ (0 ≤ (b + k) ∧ (b + k) < 330) ∧ gE 153 3 [some (.ref 324), some (.int a), some (.ref 326), some (.int b), some (.int (k + 1))] [] (gup σ 326 (b + k).toNatClampNeg (σ 324 (a + k).toNatClampNeg)) K))) : gE 153 3 [some (.ref 324), some (.int a), some (.ref 326), some (.int b), some (.int k)] [] σ K :=
  gw_run (cy := 153) (cuts := [3]) (inl := []) (pf := gpfI) gpfI_ok 400 (by decide) h
theorem s153_324_326 {σ : gS} {K : gK} {a b : Int32} (hc : (0 ≤ a ∧ a ≤ iN (gln 324 - 330)) ∧ (0 ≤ b ∧ b ≤ iN (gln 326 - 330)) ∧ (324 = 326 → b.toNatClampNeg + 330 ≤ a.toNatClampNeg)) (hK : K none (grow σ 326 (rla (σ 324) (σ 326) a.toNatClampNeg b.toNatClampNeg 330))) : gE 153 0 [some (.ref 324), some (.int a), some (.ref 326), some (.int b), none] [] σ K := by
  obtain ⟨ha, hb, hne⟩ := hc
  have ha : 0 ≤ a ∧ a ≤ iN (0 * 330) := ha
  have hb : 0 ≤ b ∧ b ≤ iN (0 * 330) := hb
  refine w153_324_326 ?_
  have h0 : σ = grow σ 326 (rla (σ 324) (σ 326) a.toNatClampNeg b.toNatClampNeg 0) := by rw [rla_0, grow_id]
  have main := g_forI (y := 153) (pc := 3) (K := K) 330 (fun k => [some (.ref 324), some (.int a), some (.ref 326), some (.int b), some (.int (iN k))]) (fun k => grow σ 326 (rla (σ 324) (σ 326) a.toNatClampNeg b.toNatClampNeg k)) (fun _ => True) (fun _ => v153_324_326 ⟨fun _ => hK, fun h => absurd h (by decide)⟩) (fun k hk _ ih => by
    obtain ⟨ea, a1, a2⟩ := ix_ab ha hk (by decide)
    obtain ⟨eb, b1, b2⟩ := ix_ab hb hk (by decide)
    refine v153_324_326 ⟨fun h => absurd ((iN_lt (m := 330) (by omega) (by omega)).mpr hk) h, fun _ => ⟨⟨a1, a2⟩, ⟨b1, b2⟩, ?_⟩⟩
    have ih := ih trivial
    rw [ea, eb, iN_one, gup_grow, grow_grow, grow_at]
    have hr : grow σ 326 (rla (σ 324) (σ 326) a.toNatClampNeg b.toNatClampNeg k) 324 (a.toNatClampNeg + k) = σ 324 (a.toNatClampNeg + k) := by
      rw [grow_ne (by decide)]
    rw [hr, rla_s]
    exact ih) 0 (Nat.zero_le _) trivial
  rw [← h0] at main
  exact main
set_option maxRecDepth 20000 in
theorem w153_325_324 {σ : gS} {K : gK} {a b : Int32} (h : gE 153 3 [some (.ref 325), some (.int a), some (.ref 324), some (.int b), some (.int 0)] [] σ K) : gE 153 0 [some (.ref 325), some (.int a), some (.ref 324), some (.int b), none] [] σ K :=
  gw_run (cy := 153) (cuts := [3]) (inl := []) (pf := gpfI) gpfI_ok 400 (by decide) h
set_option maxRecDepth 20000 in
theorem v153_325_324 {σ : gS} {K : gK} {a b k : Int32} (h : ((¬ k < 330 → K none σ) ∧ (k < 330 → (0 ≤ (a + k) ∧ (a + k) < 330) ∧ (0 ≤ (b + k) ∧ (b + k) < 330) ∧ gE 153 3 [some (.ref 325), some (.int a), some (.ref 324), some (.int b), some (.int (k + 1))] [] (gup σ 324 (b + k).toNatClampNeg (σ 325 (a + k).toNatClampNeg)) K))) : gE 153 3 [some (.ref 325), some (.int a), some (.ref 324), some (.int b), some (.int k)] [] σ K :=
  gw_run (cy := 153) (cuts := [3]) (inl := []) (pf := gpfI) gpfI_ok 400 (by decide) h
theorem s153_325_324 {σ : gS} {K : gK} {a b : Int32} (hc : (0 ≤ a ∧ a ≤ iN (gln 325 - 330)) ∧ (0 ≤ b ∧ b ≤ iN (gln 324 - 330)) ∧ (325 = 324 → b.toNatClampNeg + 330 ≤ a.toNatClampNeg)) (hK : K none (grow σ 324 (rla (σ 325) (σ 324) a.toNatClampNeg b.toNatClampNeg 330))) : gE 153 0 [some (.ref 325), some (.int a), some (.ref 324), some (.int b), none] [] σ K := by
  obtain ⟨ha, hb, hne⟩ := hc
  have ha : 0 ≤ a ∧ a ≤ iN (0 * 330) := ha
  have hb : 0 ≤ b ∧ b ≤ iN (0 * 330) := hb
  refine w153_325_324 ?_
  have h0 : σ = grow σ 324 (rla (σ 325) (σ 324) a.toNatClampNeg b.toNatClampNeg 0) := by rw [rla_0, grow_id]
  have main := g_forI (y := 153) (pc := 3) (K := K) 330 (fun k => [some (.ref 325), some (.int a), some (.ref 324), some (.int b), some (.int (iN k))]) (fun k => grow σ 324 (rla (σ 325) (σ 324) a.toNatClampNeg b.toNatClampNeg k)) (fun _ => True) (fun _ => v153_325_324 ⟨fun _ => hK, fun h => absurd h (by decide)⟩) (fun k hk _ ih => by
    obtain ⟨ea, a1, a2⟩ := ix_ab ha hk (by decide)
    obtain ⟨eb, b1, b2⟩ := ix_ab hb hk (by decide)
    refine v153_325_324 ⟨fun h => absurd ((iN_lt (m := 330) (by omega) (by omega)).mpr hk) h, fun _ => ⟨⟨a1, a2⟩, ⟨b1, b2⟩, ?_⟩⟩
    have ih := ih trivial
    rw [ea, eb, iN_one, gup_grow, grow_grow, grow_at]
    have hr : grow σ 324 (rla (σ 325) (σ 324) a.toNatClampNeg b.toNatClampNeg k) 325 (a.toNatClampNeg + k) = σ 325 (a.toNatClampNeg + k) := by
      rw [grow_ne (by decide)]
    rw [hr, rla_s]
    exact ih) 0 (Nat.zero_le _) trivial
  rw [← h0] at main
  exact main
set_option maxRecDepth 20000 in
theorem w153_326_324 {σ : gS} {K : gK} {a b : Int32} (h : gE 153 3 [some (.ref 326), some (.int a), some (.ref 324), some (.int b), some (.int 0)] [] σ K) : gE 153 0 [some (.ref 326), some (.int a), some (.ref 324), some (.int b), none] [] σ K :=
  gw_run (cy := 153) (cuts := [3]) (inl := []) (pf := gpfI) gpfI_ok 400 (by decide) h
set_option maxRecDepth 20000 in
theorem v153_326_324 {σ : gS} {K : gK} {a b k : Int32} (h : ((¬ k < 330 → K none σ) ∧ (k < 330 → (0 ≤ (a + k) ∧ (a + k) < 330) ∧ (0 ≤ (b + k) ∧ (b + k) < 330) ∧ gE 153 3 [some (.ref 326), some (.int a), some (.ref 324), some (.int b), some (.int (k + 1))] [] (gup σ 324 (b + k).toNatClampNeg (σ 326 (a + k).toNatClampNeg)) K))) : gE 153 3 [some (.ref 326), some (.int a), some (.ref 324), some (.int b), some (.int k)] [] σ K :=
  gw_run (cy := 153) (cuts := [3]) (inl := []) (pf := gpfI) gpfI_ok 400 (by decide) h
theorem s153_326_324 {σ : gS} {K : gK} {a b : Int32} (hc : (0 ≤ a ∧ a ≤ iN (gln 326 - 330)) ∧ (0 ≤ b ∧ b ≤ iN (gln 324 - 330)) ∧ (326 = 324 → b.toNatClampNeg + 330 ≤ a.toNatClampNeg)) (hK : K none (grow σ 324 (rla (σ 326) (σ 324) a.toNatClampNeg b.toNatClampNeg 330))) : gE 153 0 [some (.ref 326), some (.int a), some (.ref 324), some (.int b), none] [] σ K := by
  obtain ⟨ha, hb, hne⟩ := hc
  have ha : 0 ≤ a ∧ a ≤ iN (0 * 330) := ha
  have hb : 0 ≤ b ∧ b ≤ iN (0 * 330) := hb
  refine w153_326_324 ?_
  have h0 : σ = grow σ 324 (rla (σ 326) (σ 324) a.toNatClampNeg b.toNatClampNeg 0) := by rw [rla_0, grow_id]
  have main := g_forI (y := 153) (pc := 3) (K := K) 330 (fun k => [some (.ref 326), some (.int a), some (.ref 324), some (.int b), some (.int (iN k))]) (fun k => grow σ 324 (rla (σ 326) (σ 324) a.toNatClampNeg b.toNatClampNeg k)) (fun _ => True) (fun _ => v153_326_324 ⟨fun _ => hK, fun h => absurd h (by decide)⟩) (fun k hk _ ih => by
    obtain ⟨ea, a1, a2⟩ := ix_ab ha hk (by decide)
    obtain ⟨eb, b1, b2⟩ := ix_ab hb hk (by decide)
    refine v153_326_324 ⟨fun h => absurd ((iN_lt (m := 330) (by omega) (by omega)).mpr hk) h, fun _ => ⟨⟨a1, a2⟩, ⟨b1, b2⟩, ?_⟩⟩
    have ih := ih trivial
    rw [ea, eb, iN_one, gup_grow, grow_grow, grow_at]
    have hr : grow σ 324 (rla (σ 326) (σ 324) a.toNatClampNeg b.toNatClampNeg k) 326 (a.toNatClampNeg + k) = σ 326 (a.toNatClampNeg + k) := by
      rw [grow_ne (by decide)]
    rw [hr, rla_s]
    exact ih) 0 (Nat.zero_le _) trivial
  rw [← h0] at main
  exact main
set_option maxRecDepth 20000 in
theorem w153_324_327 {σ : gS} {K : gK} {a b : Int32} (h : gE 153 3 [some (.ref 324), some (.int a), some (.ref 327), some (.int b), some (.int 0)] [] σ K) : gE 153 0 [some (.ref 324), some (.int a), some (.ref 327), some (.int b), none] [] σ K :=
  gw_run (cy := 153) (cuts := [3]) (inl := []) (pf := gpfI) gpfI_ok 400 (by decide) h
set_option maxRecDepth 20000 in
theorem v153_324_327 {σ : gS} {K : gK} {a b k : Int32} (h : ((¬ k < 330 → K none σ) ∧ (k < 330 → (0 ≤ (a + k) ∧ (a + k) < 330) ∧ (0 ≤ (b + k) ∧ (b + k) < 2640) ∧ gE 153 3 [some (.ref 324), some (.int a), some (.ref 327), some (.int b), some (.int (k + 1))] [] (gup σ 327 (b + k).toNatClampNeg (σ 324 (a + k).toNatClampNeg)) K))) : gE 153 3 [some (.ref 324), some (.int a), some (.ref 327), some (.int b), some (.int k)] [] σ K :=
  gw_run (cy := 153) (cuts := [3]) (inl := []) (pf := gpfI) gpfI_ok 400 (by decide) h
theorem s153_324_327 {σ : gS} {K : gK} {a b : Int32} (hc : (0 ≤ a ∧ a ≤ iN (gln 324 - 330)) ∧ (0 ≤ b ∧ b ≤ iN (gln 327 - 330)) ∧ (324 = 327 → b.toNatClampNeg + 330 ≤ a.toNatClampNeg)) (hK : K none (grow σ 327 (rla (σ 324) (σ 327) a.toNatClampNeg b.toNatClampNeg 330))) : gE 153 0 [some (.ref 324), some (.int a), some (.ref 327), some (.int b), none] [] σ K := by
  obtain ⟨ha, hb, hne⟩ := hc
  have ha : 0 ≤ a ∧ a ≤ iN (0 * 330) := ha
  have hb : 0 ≤ b ∧ b ≤ iN (7 * 330) := hb
  refine w153_324_327 ?_
  have h0 : σ = grow σ 327 (rla (σ 324) (σ 327) a.toNatClampNeg b.toNatClampNeg 0) := by rw [rla_0, grow_id]
  have main := g_forI (y := 153) (pc := 3) (K := K) 330 (fun k => [some (.ref 324), some (.int a), some (.ref 327), some (.int b), some (.int (iN k))]) (fun k => grow σ 327 (rla (σ 324) (σ 327) a.toNatClampNeg b.toNatClampNeg k)) (fun _ => True) (fun _ => v153_324_327 ⟨fun _ => hK, fun h => absurd h (by decide)⟩) (fun k hk _ ih => by
    obtain ⟨ea, a1, a2⟩ := ix_ab ha hk (by decide)
    obtain ⟨eb, b1, b2⟩ := ix_ab hb hk (by decide)
    refine v153_324_327 ⟨fun h => absurd ((iN_lt (m := 330) (by omega) (by omega)).mpr hk) h, fun _ => ⟨⟨a1, a2⟩, ⟨b1, b2⟩, ?_⟩⟩
    have ih := ih trivial
    rw [ea, eb, iN_one, gup_grow, grow_grow, grow_at]
    have hr : grow σ 327 (rla (σ 324) (σ 327) a.toNatClampNeg b.toNatClampNeg k) 324 (a.toNatClampNeg + k) = σ 324 (a.toNatClampNeg + k) := by
      rw [grow_ne (by decide)]
    rw [hr, rla_s]
    exact ih) 0 (Nat.zero_le _) trivial
  rw [← h0] at main
  exact main
set_option maxRecDepth 20000 in
theorem w153_327_324 {σ : gS} {K : gK} {a b : Int32} (h : gE 153 3 [some (.ref 327), some (.int a), some (.ref 324), some (.int b), some (.int 0)] [] σ K) : gE 153 0 [some (.ref 327), some (.int a), some (.ref 324), some (.int b), none] [] σ K :=
  gw_run (cy := 153) (cuts := [3]) (inl := []) (pf := gpfI) gpfI_ok 400 (by decide) h
set_option maxRecDepth 20000 in
theorem v153_327_324 {σ : gS} {K : gK} {a b k : Int32} (h : ((¬ k < 330 → K none σ) ∧ (k < 330 → (0 ≤ (a + k) ∧ (a + k) < 2640) ∧ (0 ≤ (b + k) ∧ (b + k) < 330) ∧ gE 153 3 [some (.ref 327), some (.int a), some (.ref 324), some (.int b), some (.int (k + 1))] [] (gup σ 324 (b + k).toNatClampNeg (σ 327 (a + k).toNatClampNeg)) K))) : gE 153 3 [some (.ref 327), some (.int a), some (.ref 324), some (.int b), some (.int k)] [] σ K :=
  gw_run (cy := 153) (cuts := [3]) (inl := []) (pf := gpfI) gpfI_ok 400 (by decide) h
theorem s153_327_324 {σ : gS} {K : gK} {a b : Int32} (hc : (0 ≤ a ∧ a ≤ iN (gln 327 - 330)) ∧ (0 ≤ b ∧ b ≤ iN (gln 324 - 330)) ∧ (327 = 324 → b.toNatClampNeg + 330 ≤ a.toNatClampNeg)) (hK : K none (grow σ 324 (rla (σ 327) (σ 324) a.toNatClampNeg b.toNatClampNeg 330))) : gE 153 0 [some (.ref 327), some (.int a), some (.ref 324), some (.int b), none] [] σ K := by
  obtain ⟨ha, hb, hne⟩ := hc
  have ha : 0 ≤ a ∧ a ≤ iN (7 * 330) := ha
  have hb : 0 ≤ b ∧ b ≤ iN (0 * 330) := hb
  refine w153_327_324 ?_
  have h0 : σ = grow σ 324 (rla (σ 327) (σ 324) a.toNatClampNeg b.toNatClampNeg 0) := by rw [rla_0, grow_id]
  have main := g_forI (y := 153) (pc := 3) (K := K) 330 (fun k => [some (.ref 327), some (.int a), some (.ref 324), some (.int b), some (.int (iN k))]) (fun k => grow σ 324 (rla (σ 327) (σ 324) a.toNatClampNeg b.toNatClampNeg k)) (fun _ => True) (fun _ => v153_327_324 ⟨fun _ => hK, fun h => absurd h (by decide)⟩) (fun k hk _ ih => by
    obtain ⟨ea, a1, a2⟩ := ix_ab ha hk (by decide)
    obtain ⟨eb, b1, b2⟩ := ix_ab hb hk (by decide)
    refine v153_327_324 ⟨fun h => absurd ((iN_lt (m := 330) (by omega) (by omega)).mpr hk) h, fun _ => ⟨⟨a1, a2⟩, ⟨b1, b2⟩, ?_⟩⟩
    have ih := ih trivial
    rw [ea, eb, iN_one, gup_grow, grow_grow, grow_at]
    have hr : grow σ 324 (rla (σ 327) (σ 324) a.toNatClampNeg b.toNatClampNeg k) 327 (a.toNatClampNeg + k) = σ 327 (a.toNatClampNeg + k) := by
      rw [grow_ne (by decide)]
    rw [hr, rla_s]
    exact ih) 0 (Nat.zero_le _) trivial
  rw [← h0] at main
  exact main
set_option maxRecDepth 20000 in
theorem w153_327_327 {σ : gS} {K : gK} {a b : Int32} (h : gE 153 3 [some (.ref 327), some (.int a), some (.ref 327), some (.int b), some (.int 0)] [] σ K) : gE 153 0 [some (.ref 327), some (.int a), some (.ref 327), some (.int b), none] [] σ K :=
  gw_run (cy := 153) (cuts := [3]) (inl := []) (pf := gpfI) gpfI_ok 400 (by decide) h
set_option maxRecDepth 20000 in
theorem v153_327_327 {σ : gS} {K : gK} {a b k : Int32} (h : ((¬ k < 330 → K none σ) ∧ (k < 330 → (0 ≤ (a + k) ∧ (a + k) < 2640) ∧ (0 ≤ (b + k) ∧ (b + k) < 2640) ∧ gE 153 3 [some (.ref 327), some (.int a), some (.ref 327), some (.int b), some (.int (k + 1))] [] (gup σ 327 (b + k).toNatClampNeg (σ 327 (a + k).toNatClampNeg)) K))) : gE 153 3 [some (.ref 327), some (.int a), some (.ref 327), some (.int b), some (.int k)] [] σ K :=
  gw_run (cy := 153) (cuts := [3]) (inl := []) (pf := gpfI) gpfI_ok 400 (by decide) h
theorem s153_327_327 {σ : gS} {K : gK} {a b : Int32} (hc : (0 ≤ a ∧ a ≤ iN (gln 327 - 330)) ∧ (0 ≤ b ∧ b ≤ iN (gln 327 - 330)) ∧ (327 = 327 → b.toNatClampNeg + 330 ≤ a.toNatClampNeg)) (hK : K none (grow σ 327 (rla (σ 327) (σ 327) a.toNatClampNeg b.toNatClampNeg 330))) : gE 153 0 [some (.ref 327), some (.int a), some (.ref 327), some (.int b), none] [] σ K := by
  obtain ⟨ha, hb, hne⟩ := hc
  have ha : 0 ≤ a ∧ a ≤ iN (7 * 330) := ha
  have hb : 0 ≤ b ∧ b ≤ iN (7 * 330) := hb
  refine w153_327_327 ?_
  have h0 : σ = grow σ 327 (rla (σ 327) (σ 327) a.toNatClampNeg b.toNatClampNeg 0) := by rw [rla_0, grow_id]
  have main := g_forI (y := 153) (pc := 3) (K := K) 330 (fun k => [some (.ref 327), some (.int a), some (.ref 327), some (.int b), some (.int (iN k))]) (fun k => grow σ 327 (rla (σ 327) (σ 327) a.toNatClampNeg b.toNatClampNeg k)) (fun _ => True) (fun _ => v153_327_327 ⟨fun _ => hK, fun h => absurd h (by decide)⟩) (fun k hk _ ih => by
    obtain ⟨ea, a1, a2⟩ := ix_ab ha hk (by decide)
    obtain ⟨eb, b1, b2⟩ := ix_ab hb hk (by decide)
    refine v153_327_327 ⟨fun h => absurd ((iN_lt (m := 330) (by omega) (by omega)).mpr hk) h, fun _ => ⟨⟨a1, a2⟩, ⟨b1, b2⟩, ?_⟩⟩
    have ih := ih trivial
    rw [ea, eb, iN_one, gup_grow, grow_grow, grow_at]
    have hr : rla (σ 327) (σ 327) a.toNatClampNeg b.toNatClampNeg k (a.toNatClampNeg + k) = σ 327 (a.toNatClampNeg + k) := by
      unfold rla; have h9 := hne rfl; rw [if_neg (by omega)]
    rw [hr, rla_s]
    exact ih) 0 (Nat.zero_le _) trivial
  rw [← h0] at main
  exact main
set_option maxRecDepth 20000 in
theorem w153_324_328 {σ : gS} {K : gK} {a b : Int32} (h : gE 153 3 [some (.ref 324), some (.int a), some (.ref 328), some (.int b), some (.int 0)] [] σ K) : gE 153 0 [some (.ref 324), some (.int a), some (.ref 328), some (.int b), none] [] σ K :=
  gw_run (cy := 153) (cuts := [3]) (inl := []) (pf := gpfI) gpfI_ok 400 (by decide) h
set_option maxRecDepth 20000 in
theorem v153_324_328 {σ : gS} {K : gK} {a b k : Int32} (h : ((¬ k < 330 → K none σ) ∧ (k < 330 → (0 ≤ (a + k) ∧ (a + k) < 330) ∧ (0 ≤ (b + k) ∧ (b + k) < 660) ∧ gE 153 3 [some (.ref 324), some (.int a), some (.ref 328), some (.int b), some (.int (k + 1))] [] (gup σ 328 (b + k).toNatClampNeg (σ 324 (a + k).toNatClampNeg)) K))) : gE 153 3 [some (.ref 324), some (.int a), some (.ref 328), some (.int b), some (.int k)] [] σ K :=
  gw_run (cy := 153) (cuts := [3]) (inl := []) (pf := gpfI) gpfI_ok 400 (by decide) h
theorem s153_324_328 {σ : gS} {K : gK} {a b : Int32} (hc : (0 ≤ a ∧ a ≤ iN (gln 324 - 330)) ∧ (0 ≤ b ∧ b ≤ iN (gln 328 - 330)) ∧ (324 = 328 → b.toNatClampNeg + 330 ≤ a.toNatClampNeg)) (hK : K none (grow σ 328 (rla (σ 324) (σ 328) a.toNatClampNeg b.toNatClampNeg 330))) : gE 153 0 [some (.ref 324), some (.int a), some (.ref 328), some (.int b), none] [] σ K := by
  obtain ⟨ha, hb, hne⟩ := hc
  have ha : 0 ≤ a ∧ a ≤ iN (0 * 330) := ha
  have hb : 0 ≤ b ∧ b ≤ iN (1 * 330) := hb
  refine w153_324_328 ?_
  have h0 : σ = grow σ 328 (rla (σ 324) (σ 328) a.toNatClampNeg b.toNatClampNeg 0) := by rw [rla_0, grow_id]
  have main := g_forI (y := 153) (pc := 3) (K := K) 330 (fun k => [some (.ref 324), some (.int a), some (.ref 328), some (.int b), some (.int (iN k))]) (fun k => grow σ 328 (rla (σ 324) (σ 328) a.toNatClampNeg b.toNatClampNeg k)) (fun _ => True) (fun _ => v153_324_328 ⟨fun _ => hK, fun h => absurd h (by decide)⟩) (fun k hk _ ih => by
    obtain ⟨ea, a1, a2⟩ := ix_ab ha hk (by decide)
    obtain ⟨eb, b1, b2⟩ := ix_ab hb hk (by decide)
    refine v153_324_328 ⟨fun h => absurd ((iN_lt (m := 330) (by omega) (by omega)).mpr hk) h, fun _ => ⟨⟨a1, a2⟩, ⟨b1, b2⟩, ?_⟩⟩
    have ih := ih trivial
    rw [ea, eb, iN_one, gup_grow, grow_grow, grow_at]
    have hr : grow σ 328 (rla (σ 324) (σ 328) a.toNatClampNeg b.toNatClampNeg k) 324 (a.toNatClampNeg + k) = σ 324 (a.toNatClampNeg + k) := by
      rw [grow_ne (by decide)]
    rw [hr, rla_s]
    exact ih) 0 (Nat.zero_le _) trivial
  rw [← h0] at main
  exact main
set_option maxRecDepth 20000 in
theorem w153_328_324 {σ : gS} {K : gK} {a b : Int32} (h : gE 153 3 [some (.ref 328), some (.int a), some (.ref 324), some (.int b), some (.int 0)] [] σ K) : gE 153 0 [some (.ref 328), some (.int a), some (.ref 324), some (.int b), none] [] σ K :=
  gw_run (cy := 153) (cuts := [3]) (inl := []) (pf := gpfI) gpfI_ok 400 (by decide) h
set_option maxRecDepth 20000 in
theorem v153_328_324 {σ : gS} {K : gK} {a b k : Int32} (h : ((¬ k < 330 → K none σ) ∧ (k < 330 → (0 ≤ (a + k) ∧ (a + k) < 660) ∧ (0 ≤ (b + k) ∧ (b + k) < 330) ∧ gE 153 3 [some (.ref 328), some (.int a), some (.ref 324), some (.int b), some (.int (k + 1))] [] (gup σ 324 (b + k).toNatClampNeg (σ 328 (a + k).toNatClampNeg)) K))) : gE 153 3 [some (.ref 328), some (.int a), some (.ref 324), some (.int b), some (.int k)] [] σ K :=
  gw_run (cy := 153) (cuts := [3]) (inl := []) (pf := gpfI) gpfI_ok 400 (by decide) h
theorem s153_328_324 {σ : gS} {K : gK} {a b : Int32} (hc : (0 ≤ a ∧ a ≤ iN (gln 328 - 330)) ∧ (0 ≤ b ∧ b ≤ iN (gln 324 - 330)) ∧ (328 = 324 → b.toNatClampNeg + 330 ≤ a.toNatClampNeg)) (hK : K none (grow σ 324 (rla (σ 328) (σ 324) a.toNatClampNeg b.toNatClampNeg 330))) : gE 153 0 [some (.ref 328), some (.int a), some (.ref 324), some (.int b), none] [] σ K := by
  obtain ⟨ha, hb, hne⟩ := hc
  have ha : 0 ≤ a ∧ a ≤ iN (1 * 330) := ha
  have hb : 0 ≤ b ∧ b ≤ iN (0 * 330) := hb
  refine w153_328_324 ?_
  have h0 : σ = grow σ 324 (rla (σ 328) (σ 324) a.toNatClampNeg b.toNatClampNeg 0) := by rw [rla_0, grow_id]
  have main := g_forI (y := 153) (pc := 3) (K := K) 330 (fun k => [some (.ref 328), some (.int a), some (.ref 324), some (.int b), some (.int (iN k))]) (fun k => grow σ 324 (rla (σ 328) (σ 324) a.toNatClampNeg b.toNatClampNeg k)) (fun _ => True) (fun _ => v153_328_324 ⟨fun _ => hK, fun h => absurd h (by decide)⟩) (fun k hk _ ih => by
    obtain ⟨ea, a1, a2⟩ := ix_ab ha hk (by decide)
    obtain ⟨eb, b1, b2⟩ := ix_ab hb hk (by decide)
    refine v153_328_324 ⟨fun h => absurd ((iN_lt (m := 330) (by omega) (by omega)).mpr hk) h, fun _ => ⟨⟨a1, a2⟩, ⟨b1, b2⟩, ?_⟩⟩
    have ih := ih trivial
    rw [ea, eb, iN_one, gup_grow, grow_grow, grow_at]
    have hr : grow σ 324 (rla (σ 328) (σ 324) a.toNatClampNeg b.toNatClampNeg k) 328 (a.toNatClampNeg + k) = σ 328 (a.toNatClampNeg + k) := by
      rw [grow_ne (by decide)]
    rw [hr, rla_s]
    exact ih) 0 (Nat.zero_le _) trivial
  rw [← h0] at main
  exact main
noncomputable def f153 : gD := fun Lv σ => match Lv with
  | [some (.ref p), some (.int a), some (.ref q), some (.int b), none] => cond ((Nat.beq p 324 && Nat.beq q 326) || (Nat.beq p 325 && Nat.beq q 324) || (Nat.beq p 326 && Nat.beq q 324) || (Nat.beq p 324 && Nat.beq q 327) || (Nat.beq p 327 && Nat.beq q 324) || (Nat.beq p 327 && Nat.beq q 327) || (Nat.beq p 324 && Nat.beq q 328) || (Nat.beq p 328 && Nat.beq q 324)) (some (some ((0 ≤ a ∧ a ≤ iN (gln p - 330)) ∧ (0 ≤ b ∧ b ≤ iN (gln q - 330)) ∧ (p = q → b.toNatClampNeg + 330 ≤ a.toNatClampNeg)), none, grow σ q (rla (σ p) (σ q) a.toNatClampNeg b.toNatClampNeg 330))) none
  | _ => none
theorem ok153 : gFok 153 f153 := by
  intro Lv σ q h hc K hK
  unfold f153 at h
  split at h
  · rename_i p a q b
    obtain ⟨hb, h⟩ := c_no h
    have hb0 := hb
    rcases s_or hb0 with hb0 | hb0
    · rcases s_or hb0 with hb0 | hb0
      · rcases s_or hb0 with hb0 | hb0
        · rcases s_or hb0 with hb0 | hb0
          · rcases s_or hb0 with hb0 | hb0
            · rcases s_or hb0 with hb0 | hb0
              · rcases s_or hb0 with hb0 | hb0
                · obtain ⟨e1, e2⟩ := s_and hb0
                  have e1 := b_eq e1
                  have e2 := b_eq e2
                  subst e1
                  subst e2
                  cases h
                  exact s153_324_326 (hc _ rfl) hK
                · obtain ⟨e1, e2⟩ := s_and hb0
                  have e1 := b_eq e1
                  have e2 := b_eq e2
                  subst e1
                  subst e2
                  cases h
                  exact s153_325_324 (hc _ rfl) hK
              · obtain ⟨e1, e2⟩ := s_and hb0
                have e1 := b_eq e1
                have e2 := b_eq e2
                subst e1
                subst e2
                cases h
                exact s153_326_324 (hc _ rfl) hK
            · obtain ⟨e1, e2⟩ := s_and hb0
              have e1 := b_eq e1
              have e2 := b_eq e2
              subst e1
              subst e2
              cases h
              exact s153_324_327 (hc _ rfl) hK
          · obtain ⟨e1, e2⟩ := s_and hb0
            have e1 := b_eq e1
            have e2 := b_eq e2
            subst e1
            subst e2
            cases h
            exact s153_327_324 (hc _ rfl) hK
        · obtain ⟨e1, e2⟩ := s_and hb0
          have e1 := b_eq e1
          have e2 := b_eq e2
          subst e1
          subst e2
          cases h
          exact s153_327_327 (hc _ rfl) hK
      · obtain ⟨e1, e2⟩ := s_and hb0
        have e1 := b_eq e1
        have e2 := b_eq e2
        subst e1
        subst e2
        cases h
        exact s153_324_328 (hc _ rfl) hK
    · obtain ⟨e1, e2⟩ := s_and hb0
      have e1 := b_eq e1
      have e2 := b_eq e2
      subst e1
      subst e2
      cases h
      exact s153_328_324 (hc _ rfl) hK
  · cases h
noncomputable def gpfJ_l : List (Nat × gD) := (183, f183) :: (153, f153) :: gpfI_l
noncomputable def gpfJ : gP := gpl0 gpfJ_l
theorem gpfJ_ok : gPok gpfJ := gpl0_cons ok183 (gpl0_cons ok153 (gpfI_ok))
-- text 14
/-! THE REFERENCE: names, the log, what is kept for undo -/
theorem bmod_small {z : Int} (h1 : -2147483648 ≤ z) (h2 : z < 2147483648) : z.bmod (2 ^ 32) = z := by
  have e : (2 ^ 32 : Nat) = 4294967296 := by decide
  rw [e, Int.bmod_def]
  split <;> omega
theorem iN_div {m d : Nat} (hm : m < 2147483648) (hd : d < 2147483648) : iN m / iN d = iN (m / d) := by
  have hq : m / d ≤ m := Nat.div_le_self m d
  have h0 : (0 : Int) ≤ ((m / d : Nat) : Int) := Int.natCast_nonneg _
  apply Int32.toInt_inj.1
  rw [Int32.toInt_div, iN_int hm, iN_int hd, iN_int (by omega), ← Int.ofNat_tdiv, bmod_small (by omega) (by omega)]
theorem iN_sub {m d : Nat} (hm : m < 2147483648) (hd : d ≤ m) : iN m - iN d = iN (m - d) := by
  apply Int32.toInt_inj.1
  rw [Int32.toInt_sub, iN_int hm, iN_int (by omega), iN_int (by omega), bmod_small (by omega) (by omega)]
  omega
theorem iN_mod {m d : Nat} (hm : m < 2147483648) (hd : d < 2147483648) : iN m - iN m / iN d * iN d = iN (m % d) := by
  have h1 : m / d * d ≤ m := Nat.div_mul_le_self m d
  have h2 := Nat.div_add_mod m d
  rw [iN_div hm hd, iN_mul, iN_sub hm h1]
  congr 1
  rw [Nat.mul_comm] at h2
  omega
abbrev isKey (w : Int32) : Prop := w = 13550 ∨ w = 377669 ∨ w = 388978 ∨ w = 692581 ∨ w = 3379448 ∨ w = 10984100 ∨ w = 86887672 ∨ w = 284954995 ∨ w = 291828332 ∨ w = 335086736
/-- how many letters a name has -/
def nsN : Nat → Nat → Nat
  | 0, _ => 0
  | f + 1, m => if m = 0 then 0 else nsN f (m / 27) + 1
def nsz (w : Int32) : Nat := nsN 8 w.toNatClampNeg
def lOf (w : Int32) (i : Nat) : Nat := w.toNatClampNeg / 27 ^ (nsz w - 1 - i) % 27
theorem nsN_le : ∀ f m, nsN f m ≤ f
  | 0, _ => Nat.le_refl 0
  | f + 1, m => by
    have := nsN_le f (m / 27)
    unfold nsN
    split <;> omega
set_option maxRecDepth 20000 in
theorem w193 {σ : gS} {K : gK} {w : Int32} (h : ((w = 13550 → ((1 : Int32) = 0 ∨ (1 : Int32) = 1) ∧ K (some (.int 1)) σ) ∧ (¬ w = 13550 → ((w = 377669 → ((1 : Int32) = 0 ∨ (1 : Int32) = 1) ∧ K (some (.int 1)) σ) ∧ (¬ w = 377669 → ((w = 388978 → ((1 : Int32) = 0 ∨ (1 : Int32) = 1) ∧ K (some (.int 1)) σ) ∧ (¬ w = 388978 → ((w = 692581 → ((1 : Int32) = 0 ∨ (1 : Int32) = 1) ∧ K (some (.int 1)) σ) ∧ (¬ w = 692581 → ((w = 3379448 → ((1 : Int32) = 0 ∨ (1 : Int32) = 1) ∧ K (some (.int 1)) σ) ∧ (¬ w = 3379448 → ((w = 10984100 → ((1 : Int32) = 0 ∨ (1 : Int32) = 1) ∧ K (some (.int 1)) σ) ∧ (¬ w = 10984100 → ((w = 86887672 → ((1 : Int32) = 0 ∨ (1 : Int32) = 1) ∧ K (some (.int 1)) σ) ∧ (¬ w = 86887672 → ((w = 284954995 → ((1 : Int32) = 0 ∨ (1 : Int32) = 1) ∧ K (some (.int 1)) σ) ∧ (¬ w = 284954995 → ((w = 291828332 → ((1 : Int32) = 0 ∨ (1 : Int32) = 1) ∧ K (some (.int 1)) σ) ∧ (¬ w = 291828332 → ((w = 335086736 → ((1 : Int32) = 0 ∨ (1 : Int32) = 1) ∧ K (some (.int 1)) σ) ∧ (¬ w = 335086736 → ((0 : Int32) = 0 ∨ (0 : Int32) = 1) ∧ K (some (.int 0)) σ))))))))))))))))))))) : gE 193 0 [some (.int w)] [] σ K :=
  gw_run (cy := 193) (cuts := []) (inl := []) (pf := gpfJ) gpfJ_ok 400 (by decide) h
theorem s193 {σ : gS} {K : gK} {w : Int32} (hK : K (some (.int (bI (isKey w)))) σ) : gE 193 0 [some (.int w)] [] σ K := by
  refine w193 ?_
  grind (splits := 40) [bI]
noncomputable def f193 : gD := fun Lv σ => match Lv with
  | [some (.int w)] => some (none, some (.int (bI (isKey w))), σ)
  | _ => none
theorem ok193 : gFok 193 f193 := by
  intro Lv σ q h hc K hK
  unfold f193 at h
  split at h
  · rename_i w
    cases h
    exact s193 hK
  · cases h
set_option maxRecDepth 20000 in
theorem w199 {σ : gS} {K : gK} {w : Int32} (h : gE 199 4 [some (.int w), some (.int 0), some (.int w)] [] σ K) : gE 199 0 [some (.int w), none, none] [] σ K :=
  gw_run (cy := 199) (cuts := [4]) (inl := []) (pf := gpfJ) gpfJ_ok 400 (by decide) h
set_option maxRecDepth 20000 in
theorem v199 {σ : gS} {K : gK} {w n l : Int32} (h : ((¬ 0 < l → K (some (.int n)) σ) ∧ (0 < l → (27 : Int32) ≠ 0 ∧ gE 199 4 [some (.int w), some (.int (n + 1)), some (.int (l / 27))] [] σ K))) : gE 199 4 [some (.int w), some (.int n), some (.int l)] [] σ K :=
  gw_run (cy := 199) (cuts := [4]) (inl := []) (pf := gpfJ) gpfJ_ok 400 (by decide) h
theorem s199 {σ : gS} {K : gK} {w : Int32} (hc : 0 ≤ w) (hK : K (some (.int (iN (nsz w)))) σ) : gE 199 0 [some (.int w), none, none] [] σ K := by
  obtain ⟨e, l⟩ := iN_of hc
  have key : ∀ (f m i : Nat), m < 2147483648 → m < 27 ^ f → K (some (.int (iN (i + nsN f m)))) σ → gE 199 4 [some (.int w), some (.int (iN i)), some (.int (iN m))] [] σ K := by
    intro f
    induction f with
    | zero =>
      intro m i h1 h2 hK
      have : m = 0 := by omega
      subst this
      exact v199 ⟨fun _ => hK, fun h => absurd h (by decide)⟩
    | succ f ih =>
      intro m i h1 h2 hK
      refine v199 ⟨fun h => ?_, fun h => ⟨by decide, ?_⟩⟩
      · have : ¬ 0 < m := fun q => h ((iN_lt (k := 0) (by decide) h1).mpr q)
        have : m = 0 := by omega
        subst this
        exact hK
      · have h0 : 0 < m := (iN_lt (k := 0) (by decide) h1).mp h
        have e1 : nsN (f + 1) m = nsN f (m / 27) + 1 := if_neg (by omega)
        have e2 : iN m / 27 = iN (m / 27) := iN_div h1 (by decide)
        rw [e1] at hK
        rw [e2, iN_one]
        refine ih (m / 27) (i + 1) (by omega) ?_ ?_
        · rw [Nat.pow_succ] at h2
          omega
        · rw [show i + 1 + nsN f (m / 27) = i + (nsN f (m / 27) + 1) by omega]
          exact hK
  refine w199 ?_
  have h := key 8 w.toNatClampNeg 0 l (Nat.lt_trans l (by decide)) (by rw [Nat.zero_add]; exact hK)
  rw [← e] at h
  exact h
noncomputable def f199 : gD := fun Lv σ => match Lv with
  | [some (.int w), none, none] => some (some (0 ≤ w), some (.int (iN (nsz w))), σ)
  | _ => none
theorem ok199 : gFok 199 f199 := by
  intro Lv σ q h hc K hK
  unfold f199 at h
  split at h
  · rename_i w
    cases h
    exact s199 (hc _ rfl) hK
  · cases h
noncomputable def gpfK_l : List (Nat × gD) := (193, f193) :: (199, f199) :: gpfJ_l
noncomputable def gpfK : gP := gpl0 gpfK_l
theorem gpfK_ok : gPok gpfK := gpl0_cons ok193 (gpl0_cons ok199 (gpfJ_ok))
set_option maxRecDepth 20000 in
theorem w198 {σ : gS} {K : gK} {w : Int32} (h : (0 ≤ w) ∧ ((5 < (iN (nsz w)) → ((0 : Int32) = 0 ∨ (0 : Int32) = 1) ∧ K (some (.int 0)) σ) ∧ (¬ 5 < (iN (nsz w)) → ((¬ (bI (isKey w)) = 0 → ((0 : Int32) = 0 ∨ (0 : Int32) = 1) ∧ K (some (.int 0)) σ) ∧ ((bI (isKey w)) = 0 → ((1 : Int32) = 0 ∨ (1 : Int32) = 1) ∧ K (some (.int 1)) σ))))) : gE 198 0 [some (.int w)] [] σ K :=
  gw_run (cy := 198) (cuts := []) (inl := []) (pf := gpfK) gpfK_ok 400 (by decide) h
theorem s198 {σ : gS} {K : gK} {w : Int32} (hc : 0 ≤ w) (hK : K (some (.int (bI (nsz w ≤ 5 ∧ ¬ isKey w)))) σ) : gE 198 0 [some (.int w)] [] σ K := by
  have h8 : nsz w ≤ 8 := nsN_le 8 _
  have e : 5 < iN (nsz w) ↔ 5 < nsz w := iN_lt (k := 5) (by decide) (by omega)
  refine w198 ⟨hc, ?_⟩
  simp only [bI_0, e]
  refine ⟨fun h => ⟨by decide, ?_⟩, fun h => ⟨fun h2 => ⟨by decide, ?_⟩, fun h2 => ⟨by decide, ?_⟩⟩⟩
  · rw [bI_f (fun q => by omega)] at hK; exact hK
  · rw [bI_f (fun q => h2 q.2)] at hK; exact hK
  · rw [bI_t ⟨by omega, h2⟩] at hK; exact hK
noncomputable def f198 : gD := fun Lv σ => match Lv with
  | [some (.int w)] => some (some (0 ≤ w), some (.int (bI (nsz w ≤ 5 ∧ ¬ isKey w))), σ)
  | _ => none
theorem ok198 : gFok 198 f198 := by
  intro Lv σ q h hc K hK
  unfold f198 at h
  split at h
  · rename_i w
    cases h
    exact s198 (hc _ rfl) hK
  · cases h
set_option maxRecDepth 20000 in
theorem w200 {σ : gS} {K : gK} {w x : Int32} (h : (0 ≤ w) ∧ gE 200 9 [some (.int w), some (.int x), some (.int w), some (.int ((iN (nsz w)) - 1))] [] σ K) : gE 200 0 [some (.int w), some (.int x), none, none] [] σ K :=
  gw_run (cy := 200) (cuts := [9]) (inl := []) (pf := gpfK) gpfK_ok 400 (by decide) h
set_option maxRecDepth 20000 in
theorem v200 {σ : gS} {K : gK} {w x l k : Int32} (h : ((¬ x < k → (27 : Int32) ≠ 0 ∧ K (some (.int (l - l / 27 * 27))) σ) ∧ (x < k → (27 : Int32) ≠ 0 ∧ gE 200 9 [some (.int w), some (.int x), some (.int (l / 27)), some (.int (k + (-1)))] [] σ K))) : gE 200 9 [some (.int w), some (.int x), some (.int l), some (.int k)] [] σ K :=
  gw_run (cy := 200) (cuts := [9]) (inl := []) (pf := gpfK) gpfK_ok 400 (by decide) h
theorem s200 {σ : gS} {K : gK} {w x : Int32} (hc : 0 ≤ w ∧ (0 ≤ x ∧ x < 20)) (hK : K (some (.int (iN (lOf w x.toNatClampNeg)))) σ) : gE 200 0 [some (.int w), some (.int x), none, none] [] σ K := by
  obtain ⟨hw, hx⟩ := hc
  obtain ⟨e, l⟩ := iN_of hw
  obtain ⟨ex, lx⟩ := t20 hx
  obtain ⟨m, hm⟩ : ∃ m, x.toNatClampNeg = m := ⟨_, rfl⟩
  rw [hm] at ex lx hK
  subst ex
  have h8 : nsz w ≤ 8 := nsN_le 8 _
  have key : ∀ (d q : Nat), q < 2147483648 → d < 20 → K (some (.int (iN (q / 27 ^ d % 27)))) σ → gE 200 9 [some (.int w), some (.int (iN m)), some (.int (iN q)), some (.int (iN (m + d)))] [] σ K := by
    intro d
    induction d with
    | zero =>
      intro q hq _ hK
      refine v200 ⟨fun _ => ⟨by decide, ?_⟩, fun h => ?_⟩
      · rw [show (27 : Int32) = iN 27 from rfl, iN_mod hq (by decide)]
        rw [Nat.pow_zero, Nat.div_one] at hK
        exact hK
      · rw [iN_lt (by omega) (by omega)] at h; omega
    | succ d ih =>
      intro q hq hd hK
      refine v200 ⟨fun h => ?_, fun _ => ⟨by decide, ?_⟩⟩
      · rw [iN_lt (by omega) (by omega)] at h; omega
      · have e2 : iN q / 27 = iN (q / 27) := iN_div hq (by decide)
        have e3 : iN (m + (d + 1)) + -1 = iN (m + d) := by
          rw [show m + (d + 1) = m + d + 1 by omega, ← iN_one (m + d)]
          grind
        rw [e2, e3]
        refine ih (q / 27) (by omega) (by omega) ?_
        rw [Nat.div_div_eq_div_mul, Nat.mul_comm, ← Nat.pow_succ]
        exact hK
  refine w200 ⟨hw, ?_⟩
  by_cases h1 : m + 1 ≤ nsz w
  · have h := key (nsz w - 1 - m) w.toNatClampNeg l (by omega) hK
    rw [← e, show m + (nsz w - 1 - m) = nsz w - 1 by omega] at h
    rw [show (1 : Int32) = iN 1 from rfl, iN_sub (by omega) (by omega)]
    exact h
  · have hz : nsz w - 1 - m = 0 := by omega
    unfold lOf at hK
    rw [hz, Nat.pow_zero, Nat.div_one] at hK
    refine v200 ⟨fun _ => ⟨by decide, ?_⟩, fun h => ?_⟩
    · rw [e, show (27 : Int32) = iN 27 from rfl, iN_mod l (by decide)]
      exact hK
    · exfalso
      rw [Int32.lt_iff_toInt_lt, Int32.toInt_sub, iN_int (by omega), iN_int (by omega), show (1 : Int32).toInt = 1 from rfl, bmod_small (by omega) (by omega)] at h
      omega
noncomputable def f200 : gD := fun Lv σ => match Lv with
  | [some (.int w), some (.int x), none, none] => some (some (0 ≤ w ∧ (0 ≤ x ∧ x < 20)), some (.int (iN (lOf w x.toNatClampNeg))), σ)
  | _ => none
theorem ok200 : gFok 200 f200 := by
  intro Lv σ q h hc K hK
  unfold f200 at h
  split at h
  · rename_i w x
    cases h
    exact s200 (hc _ rfl) hK
  · cases h
noncomputable def gpfL_l : List (Nat × gD) := (198, f198) :: (200, f200) :: gpfK_l
noncomputable def gpfL : gP := gpl0 gpfL_l
theorem gpfL_ok : gPok gpfL := gpl0_cons ok198 (gpl0_cons ok200 (gpfK_ok))
end
section
-- text 15
/-! THE REFERENCE: the log, what is kept for undo -/
def lsh (R : gW) (k : Nat) : gW := fun j => if 210 ≤ j ∧ j < 210 + k then R (j + 3) else R j
theorem lsh_0 (R : gW) : lsh R 0 = R := by funext j; unfold lsh; rw [if_neg (by omega)]
theorem lsh_s (R : gW) (k : Nat) : rup (lsh R k) (210 + k) (lsh R k (210 + k + 3)) = lsh R (k + 1) := by
  funext j
  unfold rup lsh
  by_cases h : j = 210 + k
  · rw [if_pos h, if_neg (by omega), if_pos (by omega), h]
  · rw [if_neg h]
    by_cases h2 : 210 ≤ j ∧ j < 210 + k
    · rw [if_pos h2, if_pos (by omega)]
    · rw [if_neg h2, if_neg (by omega)]
/-- an entry behind the last -/
def fTe0 (R : gW) (w a b : Int32) : gW := rup (rup (rup (rup R (210 + 3 * (R 209).toNatClampNeg) w) (210 + 3 * (R 209).toNatClampNeg + 1) a) (210 + 3 * (R 209).toNatClampNeg + 2) b) 209 (R 209 + 1)
def fTe (R : gW) (w a b : Int32) : gW := if R 209 = 40 then fTe0 (rup (lsh R 117) 209 39) w a b else fTe0 R w a b
theorem ix_l {s : Nat} (hs : s < 40) : ((210 + 3 * iN s : Int32).toNatClampNeg = 210 + 3 * s ∧ (210 + 3 * iN s + 1 : Int32).toNatClampNeg = 210 + 3 * s + 1 ∧ (210 + 3 * iN s + 2 : Int32).toNatClampNeg = 210 + 3 * s + 2) ∧ (0 ≤ 210 + 3 * iN s ∧ 210 + 3 * iN s < 330) ∧ (0 ≤ 210 + 3 * iN s + 1 ∧ 210 + 3 * iN s + 1 < 330) ∧ (0 ≤ 210 + 3 * iN s + 2 ∧ 210 + 3 * iN s + 2 < 330) := by
  have e0 : (210 + 3 * iN s : Int32) = iN (210 + 3 * s) := by
    show iN 210 + iN 3 * iN s = _
    rw [iN_mul, iN_add]
  have e1 : (210 + 3 * iN s + 1 : Int32) = iN (210 + 3 * s + 1) := by rw [e0, iN_one]
  have e2 : (210 + 3 * iN s + 2 : Int32) = iN (210 + 3 * s + 2) := by rw [e0]; exact iN_add _ 2
  rw [e1, e2, e0, iN_nat (by omega), iN_nat (by omega), iN_nat (by omega)]
  have lo : ∀ k, k < 330 → 0 ≤ iN k ∧ iN k < 330 := fun k hk => ⟨(iN_le (k := 0) (by decide) (by omega)).mpr (by omega), (iN_lt (m := 330) (by omega) (by decide)).mpr hk⟩
  exact ⟨⟨rfl, rfl, rfl⟩, lo _ (by omega), lo _ (by omega), lo _ (by omega)⟩
theorem i330 {k : Nat} (hk : k < 330) : (0 : Int32) ≤ iN k ∧ iN k < 330 := ⟨(iN_le (k := 0) (by decide) (by omega)).mpr (by omega), (iN_lt (m := 330) (by omega) (by decide)).mpr hk⟩
set_option maxRecDepth 20000 in
theorem w204 {σ : gS} {K : gK} {w a b : Int32} (h : (0 ≤ (209 : Int32) ∧ (209 : Int32) < 330) ∧ ((¬ (σ 324 209) = 40 → gE 204 65 [some (.ref 323), some (.int w), some (.int a), some (.int b), none] [] σ K) ∧ ((σ 324 209) = 40 → gE 204 16 [some (.ref 323), some (.int w), some (.int a), some (.int b), some (.int 0)] [] σ K))) : gE 204 0 [some (.ref 323), some (.int w), some (.int a), some (.int b), none] [] σ K :=
  gw_run (cy := 204) (cuts := [16, 65]) (inl := []) (pf := gpfL) gpfL_ok 400 (by decide) h
set_option maxRecDepth 20000 in
theorem v204 {σ : gS} {K : gK} {w a b k : Int32} (h : ((¬ k < 117 → (0 ≤ (209 : Int32) ∧ (209 : Int32) < 330) ∧ (0 ≤ (209 : Int32) ∧ (209 : Int32) < 330) ∧ gE 204 65 [some (.ref 323), some (.int w), some (.int a), some (.int b), some (.int k)] [] (gup σ 324 209 ((σ 324 209) - 1)) K) ∧ (k < 117 → (0 ≤ ((210 + k) + 3) ∧ ((210 + k) + 3) < 330) ∧ (0 ≤ (210 + k) ∧ (210 + k) < 330) ∧ gE 204 16 [some (.ref 323), some (.int w), some (.int a), some (.int b), some (.int (k + 1))] [] (gup σ 324 (210 + k).toNatClampNeg (σ 324 ((210 + k) + 3).toNatClampNeg)) K))) : gE 204 16 [some (.ref 323), some (.int w), some (.int a), some (.int b), some (.int k)] [] σ K :=
  gw_run (cy := 204) (cuts := [16, 65]) (inl := []) (pf := gpfL) gpfL_ok 400 (by decide) h
set_option maxRecDepth 20000 in
theorem x204 {σ : gS} {K : gK} {w a b : Int32} {u : Option Value} (h : (0 ≤ (209 : Int32) ∧ (209 : Int32) < 330) ∧ (0 ≤ (210 + (3 * (σ 324 209))) ∧ (210 + (3 * (σ 324 209))) < 330) ∧ (0 ≤ ((210 + (3 * (σ 324 209))) + 1) ∧ ((210 + (3 * (σ 324 209))) + 1) < 330) ∧ (0 ≤ ((210 + (3 * (σ 324 209))) + 2) ∧ ((210 + (3 * (σ 324 209))) + 2) < 330) ∧ (0 ≤ (209 : Int32) ∧ (209 : Int32) < 330) ∧ (0 ≤ (209 : Int32) ∧ (209 : Int32) < 330) ∧ K none (gup (gup (gup (gup σ 324 (210 + (3 * (σ 324 209))).toNatClampNeg w) 324 ((210 + (3 * (σ 324 209))) + 1).toNatClampNeg a) 324 ((210 + (3 * (σ 324 209))) + 2).toNatClampNeg b) 324 209 (((gup (gup (gup σ 324 (210 + (3 * (σ 324 209))).toNatClampNeg w) 324 ((210 + (3 * (σ 324 209))) + 1).toNatClampNeg a) 324 ((210 + (3 * (σ 324 209))) + 2).toNatClampNeg b) 324 209) + 1))) : gE 204 65 [some (.ref 323), some (.int w), some (.int a), some (.int b), u] [] σ K :=
  gw_run (cy := 204) (cuts := [16]) (inl := []) (pf := gpfL) gpfL_ok 400 (by decide) h
theorem y204 {σ : gS} {K : gK} {w a b : Int32} (u : Option Value) (hc : 0 ≤ σ 324 209 ∧ σ 324 209 ≤ 39) (hK : K none (grow σ 324 (fTe0 (σ 324) w a b))) : gE 204 65 [some (.ref 323), some (.int w), some (.int a), some (.int b), u] [] σ K := by
  obtain ⟨e, l⟩ := iN_of hc.1
  obtain ⟨s, hs⟩ : ∃ s, (σ 324 209).toNatClampNeg = s := ⟨_, rfl⟩
  rw [hs] at e l
  have ls : s ≤ 39 := by
    have h := hc.2
    rw [e] at h
    exact (iN_le l (by decide)).mp h
  obtain ⟨⟨x0, x1, x2⟩, b0, b1, b2⟩ := ix_l (s := s) (by omega)
  refine x204 ?_
  unfold fTe0 at hK
  simp only [gup_grow, grow_grow, grow_at]
  rw [e] at hK ⊢
  rw [x0, x1, x2]
  rw [iN_nat l] at hK
  refine ⟨by decide, b0, b1, b2, by decide, by decide, ?_⟩
  rw [rup_ne (by omega), rup_ne (by omega), rup_ne (by omega), e]
  exact hK
theorem s204 {σ : gS} {K : gK} {w a b : Int32} (hc : 0 ≤ σ 324 209 ∧ σ 324 209 ≤ 40) (hK : K none (grow σ 324 (fTe (σ 324) w a b))) : gE 204 0 [some (.ref 323), some (.int w), some (.int a), some (.int b), none] [] σ K := by
  by_cases h40 : σ 324 209 = 40
  · have e : fTe (σ 324) w a b = fTe0 (rup (lsh (σ 324) 117) 209 39) w a b := if_pos h40
    rw [e] at hK
    refine w204 ⟨by decide, fun h => absurd h40 h, fun _ => ?_⟩
    have main := g_forI (y := 204) (pc := 16) (K := K) 117 (fun k => [some (.ref 323), some (.int w), some (.int a), some (.int b), some (.int (iN k))]) (fun k => grow σ 324 (lsh (σ 324) k)) (fun _ => True) (fun _ => by
      refine v204 ⟨fun _ => ⟨by decide, by decide, ?_⟩, fun h => absurd h (by decide)⟩
      have e9 : lsh (σ 324) 117 209 = 40 := by unfold lsh; rw [if_neg (by omega)]; exact h40
      have e39 : (40 - 1 : Int32) = 39 := by decide
      rw [grow_at, e9, e39, gup_grow, grow_grow, grow_at]
      refine y204 _ ?_ ?_
      · rw [grow_at, rup_at]; decide
      · rw [grow_grow, grow_at]; exact hK) (fun k hk _ ih => by
      have ex : (210 + iN k : Int32) = iN (210 + k) := iN_add 210 k
      have ex3 : (210 + iN k + 3 : Int32) = iN (210 + k + 3) := by rw [ex]; exact iN_add _ 3
      have ih := ih trivial
      refine v204 ⟨fun h => absurd ((iN_lt (m := 117) (by omega) (by decide)).mpr hk) h, fun _ => ?_⟩
      rw [ex3, ex, iN_nat (by omega), iN_nat (by omega), iN_one, gup_grow, grow_grow, grow_at, lsh_s]
      exact ⟨i330 (by omega), i330 (by omega), ih⟩) 0 (Nat.zero_le _) trivial
    rw [lsh_0, grow_id] at main
    exact main
  · have e : fTe (σ 324) w a b = fTe0 (σ 324) w a b := if_neg h40
    rw [e] at hK
    refine w204 ⟨by decide, fun _ => ?_, fun h => absurd h h40⟩
    refine y204 _ ⟨hc.1, ?_⟩ hK
    have h2 := hc.2
    grind
noncomputable def f204 : gD := fun Lv σ => match Lv with
  | [some (.ref q0), some (.int w), some (.int a), some (.int b), none] => cond (Nat.beq q0 323) (some (some (0 ≤ σ 324 209 ∧ σ 324 209 ≤ 40), none, grow σ 324 (fTe (σ 324) w a b))) none
  | _ => none
theorem ok204 : gFok 204 f204 := by
  intro Lv σ q h hc K hK
  unfold f204 at h
  split at h
  · rename_i q0 w a b
    obtain ⟨hb, h⟩ := c_no h
    have hb0 := hb
    have e0 := b_eq hb0
    subst e0
    cases h
    exact s204 (hc _ rfl) hK
  · cases h
/-- the first m rows of 330 dropped by one -/
def esh (E : gW) (m : Nat) : gW := fun j => if j < 330 * m then E (j + 330) else E j
theorem esh_0 (E : gW) : esh E 0 = E := by funext j; unfold esh; rw [if_neg (by omega)]
theorem esh_s (E : gW) (m : Nat) : rla (esh E m) (esh E m) (330 * (m + 1)) (330 * m) 330 = esh E (m + 1) := by
  funext j
  unfold rla esh
  by_cases h : 330 * m ≤ j ∧ j < 330 * m + 330
  · rw [if_pos h, if_neg (by omega), if_pos (by omega), show 330 * (m + 1) + (j - 330 * m) = j + 330 by omega]
  · rw [if_neg h]
    by_cases h2 : j < 330 * m
    · rw [if_pos h2, if_pos (by omega)]
    · rw [if_neg h2, if_neg (by omega)]
/-- how many rows are kept, and the rows, behind one more -/
def fKu (u : Int32) : Int32 := if u = 8 then 8 else u + 1
def fKe (N E : gW) (u : Int32) : gW := if u = 8 then rla N (esh E 7) 0 2310 330 else rla N E 0 (330 * u.toNatClampNeg) 330
def hKe (σ : gS) : gS := grow (grow σ 327 (fKe (σ 324) (σ 327) (σ 323 6))) 323 (rup (σ 323) 6 (fKu (σ 323 6)))
set_option maxRecDepth 20000 in
theorem w205 {σ : gS} {K : gK} (h : ((¬ (σ 323 6) = 8 → ((0 ≤ (0 : Int32) ∧ (0 : Int32) ≤ iN (gln 324 - 330)) ∧ (0 ≤ (330 * (σ 323 6)) ∧ (330 * (σ 323 6)) ≤ iN (gln 327 - 330)) ∧ (324 = 327 → (330 * (σ 323 6)).toNatClampNeg + 330 ≤ (0 : Int32).toNatClampNeg)) ∧ K none (gup (grow σ 327 (rla (σ 324) (σ 327) (0 : Int32).toNatClampNeg (330 * (σ 323 6)).toNatClampNeg 330)) 323 6 (((grow σ 327 (rla (σ 324) (σ 327) (0 : Int32).toNatClampNeg (330 * (σ 323 6)).toNatClampNeg 330)) 323 6) + 1))) ∧ ((σ 323 6) = 8 → gE 205 11 [some (.ref 323), some (.int 1)] [] σ K))) : gE 205 0 [some (.ref 323), none] [] σ K :=
  gw_run (cy := 205) (cuts := [11]) (inl := []) (pf := gpfL) gpfL_ok 400 (by decide) h
set_option maxRecDepth 20000 in
theorem v205 {σ : gS} {K : gK} {k : Int32} (h : ((¬ k < 8 → ((0 ≤ (0 : Int32) ∧ (0 : Int32) ≤ iN (gln 324 - 330)) ∧ (0 ≤ (330 * ((gup σ 323 6 ((σ 323 6) - 1)) 323 6)) ∧ (330 * ((gup σ 323 6 ((σ 323 6) - 1)) 323 6)) ≤ iN (gln 327 - 330)) ∧ (324 = 327 → (330 * ((gup σ 323 6 ((σ 323 6) - 1)) 323 6)).toNatClampNeg + 330 ≤ (0 : Int32).toNatClampNeg)) ∧ K none (gup (grow (gup σ 323 6 ((σ 323 6) - 1)) 327 (rla ((gup σ 323 6 ((σ 323 6) - 1)) 324) ((gup σ 323 6 ((σ 323 6) - 1)) 327) (0 : Int32).toNatClampNeg (330 * ((gup σ 323 6 ((σ 323 6) - 1)) 323 6)).toNatClampNeg 330)) 323 6 (((grow (gup σ 323 6 ((σ 323 6) - 1)) 327 (rla ((gup σ 323 6 ((σ 323 6) - 1)) 324) ((gup σ 323 6 ((σ 323 6) - 1)) 327) (0 : Int32).toNatClampNeg (330 * ((gup σ 323 6 ((σ 323 6) - 1)) 323 6)).toNatClampNeg 330)) 323 6) + 1))) ∧ (k < 8 → ((0 ≤ (330 * k) ∧ (330 * k) ≤ iN (gln 327 - 330)) ∧ (0 ≤ (330 * (k - 1)) ∧ (330 * (k - 1)) ≤ iN (gln 327 - 330)) ∧ (327 = 327 → (330 * (k - 1)).toNatClampNeg + 330 ≤ (330 * k).toNatClampNeg)) ∧ gE 205 11 [some (.ref 323), some (.int (k + 1))] [] (grow σ 327 (rla (σ 327) (σ 327) (330 * k).toNatClampNeg (330 * (k - 1)).toNatClampNeg 330)) K))) : gE 205 11 [some (.ref 323), some (.int k)] [] σ K :=
  gw_run (cy := 205) (cuts := [11]) (inl := []) (pf := gpfL) gpfL_ok 400 (by decide) h
theorem s205 {σ : gS} {K : gK} (hc : 0 ≤ σ 323 6 ∧ σ 323 6 ≤ 8) (hK : K none (hKe σ)) : gE 205 0 [some (.ref 323), none] [] σ K := by
  have z0 : (0 : Int32).toNatClampNeg = 0 := by decide
  unfold hKe at hK
  by_cases h8 : σ 323 6 = 8
  · have e1 : fKe (σ 324) (σ 327) (σ 323 6) = rla (σ 324) (esh (σ 327) 7) 0 2310 330 := if_pos h8
    have e2 : fKu (σ 323 6) = 8 := if_pos h8
    rw [e1, e2] at hK
    refine w205 ⟨fun h => absurd h8 h, fun _ => ?_⟩
    have main := g_forI (y := 205) (pc := 11) (K := K) 7 (fun k => [some (.ref 323), some (.int (iN (k + 1)))]) (fun k => grow σ 327 (esh (σ 327) k)) (fun _ => True) (fun _ => by
      refine v205 ⟨fun _ => ?_, fun h => absurd h (by decide)⟩
      have e7 : (8 - 1 : Int32) = 7 := by decide
      have e8 : (7 + 1 : Int32) = 8 := by decide
      have n0 : grow σ 327 (esh (σ 327) 7) 323 6 = 8 := by rw [grow_ne (by decide)]; exact h8
      rw [n0, e7]
      simp (disch := decide) only [gup_grow, grow_grow, grow_at, grow_ne, rup_at]
      have em : (330 * 7 : Int32).toNatClampNeg = 2310 := by decide
      rw [z0, em, e8]
      refine ⟨⟨by decide, by decide, fun h => absurd h (by decide)⟩, ?_⟩
      have ee : grow (grow (grow (grow σ 327 (esh (σ 327) 7)) 323 (rup (σ 323) 6 7)) 327 (rla (σ 324) (esh (σ 327) 7) 0 2310 330)) 323 (rup (rup (σ 323) 6 7) 6 8) = grow (grow σ 327 (rla (σ 324) (esh (σ 327) 7) 0 2310 330)) 323 (rup (σ 323) 6 8) := by
        funext b j
        unfold grow rup
        grind
      rw [ee]
      exact hK) (fun k hk _ ih => by
      have ih := ih trivial
      have ek : (iN (k + 1) - 1 : Int32) = iN k := iN_sub (d := 1) (by omega) (by omega)
      have m1 : (330 * iN (k + 1) : Int32) = iN (330 * (k + 1)) := iN_mul 330 _
      have m0 : (330 * iN k : Int32) = iN (330 * k) := iN_mul 330 _
      refine v205 ⟨fun h => absurd ((iN_lt (m := 8) (by omega) (by decide)).mpr (by omega)) h, fun _ => ?_⟩
      rw [ek, m1, m0, iN_nat (by omega), iN_nat (by omega), iN_one, grow_grow, grow_at, esh_s]
      have b : ∀ n, n ≤ 2310 → (0 : Int32) ≤ iN n ∧ iN n ≤ iN (gln 327 - 330) := fun n hn => by
        show (0 : Int32) ≤ iN n ∧ iN n ≤ iN 2310
        exact ⟨(iN_le (k := 0) (by decide) (by omega)).mpr (by omega), (iN_le (by omega) (by decide)).mpr hn⟩
      exact ⟨⟨b _ (by omega), b _ (by omega), fun _ => by omega⟩, ih⟩) 0 (Nat.zero_le _) trivial
    rw [esh_0, grow_id] at main
    exact main
  · have e1 : fKe (σ 324) (σ 327) (σ 323 6) = rla (σ 324) (σ 327) 0 (330 * (σ 323 6).toNatClampNeg) 330 := if_neg h8
    have e2 : fKu (σ 323 6) = σ 323 6 + 1 := if_neg h8
    rw [e1, e2] at hK
    obtain ⟨e, l⟩ := iN_of hc.1
    obtain ⟨u, hu⟩ : ∃ u, (σ 323 6).toNatClampNeg = u := ⟨_, rfl⟩
    rw [hu] at e l hK
    have lu : u ≤ 7 := by
      have h := hc.2
      rw [e] at h h8
      have h := (iN_le l (by decide : (8 : Nat) < 2147483648)).mp h
      have : u ≠ 8 := fun q => h8 (by rw [q]; rfl)
      omega
    have m0 : (330 * iN u : Int32) = iN (330 * u) := iN_mul 330 _
    refine w205 ⟨fun _ => ?_, fun h => absurd h h8⟩
    rw [gup_grow, grow_ne (by decide), e, m0, iN_nat (by omega), z0]
    rw [e] at hK
    refine ⟨⟨by decide, ?_, fun h => absurd h (by decide)⟩, hK⟩
    show (0 : Int32) ≤ iN (330 * u) ∧ iN (330 * u) ≤ iN 2310
    exact ⟨(iN_le (k := 0) (by decide) (by omega)).mpr (by omega), (iN_le (by omega) (by decide)).mpr (by omega)⟩
noncomputable def f205 : gD := fun Lv σ => match Lv with
  | [some (.ref q0), none] => cond (Nat.beq q0 323) (some (some (0 ≤ σ 323 6 ∧ σ 323 6 ≤ 8), none, hKe σ)) none
  | _ => none
theorem ok205 : gFok 205 f205 := by
  intro Lv σ q h hc K hK
  unfold f205 at h
  split at h
  · rename_i q0
    obtain ⟨hb, h⟩ := c_no h
    have hb0 := hb
    have e0 := b_eq hb0
    subst e0
    cases h
    exact s205 (hc _ rfl) hK
  · cases h
noncomputable def gpfM_l : List (Nat × gD) := (204, f204) :: (205, f205) :: gpfL_l
noncomputable def gpfM : gP := gpl0 gpfM_l
theorem gpfM_ok : gPok gpfM := gpl0_cons ok204 (gpl0_cons ok205 (gpfL_ok))
-- text 16
/-! THE REFERENCE: its calls, first part -/
theorem hKe_324 (σ : gS) : hKe σ 324 = σ 324 := by unfold hKe; rw [grow_ne (by decide), grow_ne (by decide)]
theorem hKe_6 (σ : gS) : hKe σ 323 = rup (σ 323) 6 (fKu (σ 323 6)) := by unfold hKe; rw [grow_at]
/-- a row's bounds that the reference stands on -/
abbrev bN (R : gW) : Prop := (0 ≤ R 3 ∧ R 3 ≤ 20) ∧ (0 ≤ R 209 ∧ R 209 ≤ 40)
abbrev RS (σ : gS) : Prop := bN (σ 324) ∧ (0 ≤ σ 323 6 ∧ σ 323 6 ≤ 8)
/-- a call that goes through is kept for undo -/
def hOp (σ : gS) (g : Prop) [Decidable g] (n : gW) : gS := if g then grow (hKe σ) 324 n else σ
abbrev isT (R : gW) (t : Int32) : Prop := 0 ≤ t ∧ t ≤ R 3 - 1
abbrev isS (R : gW) (x : Int32) : Prop := 0 ≤ x ∧ x ≤ 4 * R 0 - 1
abbrev isP (R : gW) (a b : Int32) : Prop := (isT R a ∧ isT R b) ∧ ¬ a = b
theorem isT_of {R : gW} {t : Int32} (hc : 0 ≤ R 3 ∧ R 3 ≤ 20) (h : isT R t) : 0 ≤ t ∧ t < 20 := by
  obtain ⟨h1, h2⟩ := h
  exact ⟨h1, by grind⟩
theorem isP_of {R : gW} {a b : Int32} (hc : 0 ≤ R 3 ∧ R 3 ≤ 20) (h : isP R a b) : (0 ≤ a ∧ a < 20) ∧ (0 ≤ b ∧ b < 20) := ⟨isT_of hc h.1.1, isT_of hc h.1.2⟩
theorem nn_ne {a b : Int32} (ha : 0 ≤ a ∧ a < 20) (hb : 0 ≤ b ∧ b < 20) (h : ¬ a = b) : a.toNatClampNeg ≠ b.toNatClampNeg := by
  intro e
  rw [(t20 ha).1, (t20 hb).1, e] at h
  exact h rfl
set_option maxRecDepth 20000 in
theorem w156 {σ : gS} {K : gK} {t : Int32} (h : (0 ≤ (3 : Int32) ∧ (3 : Int32) < 330) ∧ ((bI ((0 : Int32) ≤ t ∧ t ≤ ((σ 324 3) - 1))) = 0 ∨ (bI ((0 : Int32) ≤ t ∧ t ≤ ((σ 324 3) - 1))) = 1) ∧ K (some (.int (bI ((0 : Int32) ≤ t ∧ t ≤ ((σ 324 3) - 1))))) σ) : gE 156 0 [some (.ref 323), some (.int t)] [] σ K :=
  gw_run (cy := 156) (cuts := []) (inl := []) (pf := gpfM) gpfM_ok 400 (by decide) h
theorem s156 {σ : gS} {K : gK} {t : Int32} (hK : K (some (.int (bI (isT (σ 324) t)))) σ) : gE 156 0 [some (.ref 323), some (.int t)] [] σ K := by
  exact w156 ⟨by decide, bI_01, hK⟩
noncomputable def f156 : gD := fun Lv σ => match Lv with
  | [some (.ref q0), some (.int t)] => cond (Nat.beq q0 323) (some (none, some (.int (bI (isT (σ 324) t))), σ)) none
  | _ => none
theorem ok156 : gFok 156 f156 := by
  intro Lv σ q h hc K hK
  unfold f156 at h
  split at h
  · rename_i q0 t
    obtain ⟨hb, h⟩ := c_no h
    have hb0 := hb
    have e0 := b_eq hb0
    subst e0
    cases h
    exact s156 hK
  · cases h
set_option maxRecDepth 20000 in
theorem w157 {σ : gS} {K : gK} {x : Int32} (h : (0 ≤ (0 : Int32) ∧ (0 : Int32) < 330) ∧ ((bI ((0 : Int32) ≤ x ∧ x ≤ ((4 * (σ 324 0)) - 1))) = 0 ∨ (bI ((0 : Int32) ≤ x ∧ x ≤ ((4 * (σ 324 0)) - 1))) = 1) ∧ K (some (.int (bI ((0 : Int32) ≤ x ∧ x ≤ ((4 * (σ 324 0)) - 1))))) σ) : gE 157 0 [some (.ref 323), some (.int x)] [] σ K :=
  gw_run (cy := 157) (cuts := []) (inl := []) (pf := gpfM) gpfM_ok 400 (by decide) h
theorem s157 {σ : gS} {K : gK} {x : Int32} (hK : K (some (.int (bI (isS (σ 324) x)))) σ) : gE 157 0 [some (.ref 323), some (.int x)] [] σ K := by
  exact w157 ⟨by decide, bI_01, hK⟩
noncomputable def f157 : gD := fun Lv σ => match Lv with
  | [some (.ref q0), some (.int x)] => cond (Nat.beq q0 323) (some (none, some (.int (bI (isS (σ 324) x))), σ)) none
  | _ => none
theorem ok157 : gFok 157 f157 := by
  intro Lv σ q h hc K hK
  unfold f157 at h
  split at h
  · rename_i q0 x
    obtain ⟨hb, h⟩ := c_no h
    have hb0 := hb
    have e0 := b_eq hb0
    subst e0
    cases h
    exact s157 hK
  · cases h
set_option maxRecDepth 20000 in
theorem w159 {σ : gS} {K : gK} {x : Int32} (h : ((bI ((0 : Int32) ≤ x ∧ x ≤ (9 : Int32))) = 0 ∨ (bI ((0 : Int32) ≤ x ∧ x ≤ (9 : Int32))) = 1) ∧ K (some (.int (bI ((0 : Int32) ≤ x ∧ x ≤ (9 : Int32))))) σ) : gE 159 0 [some (.int x)] [] σ K :=
  gw_run (cy := 159) (cuts := []) (inl := []) (pf := gpfM) gpfM_ok 400 (by decide) h
theorem s159 {σ : gS} {K : gK} {x : Int32} (hK : K (some (.int (bI (0 ≤ x ∧ x ≤ 9)))) σ) : gE 159 0 [some (.int x)] [] σ K := by
  exact w159 ⟨bI_01, hK⟩
noncomputable def f159 : gD := fun Lv σ => match Lv with
  | [some (.int x)] => some (none, some (.int (bI (0 ≤ x ∧ x ≤ 9))), σ)
  | _ => none
theorem ok159 : gFok 159 f159 := by
  intro Lv σ q h hc K hK
  unfold f159 at h
  split at h
  · rename_i x
    cases h
    exact s159 hK
  · cases h
set_option maxRecDepth 20000 in
theorem w209 {σ : gS} {K : gK} {w : Int32} (h : ((¬ w = 4 → K (some (.int (3 + w))) σ) ∧ (w = 4 → K (some (.int 1)) σ))) : gE 209 0 [some (.int w)] [] σ K :=
  gw_run (cy := 209) (cuts := []) (inl := []) (pf := gpfM) gpfM_ok 400 (by decide) h
theorem s209 {σ : gS} {K : gK} {w : Int32} (hK : K (some (.int (if w = 4 then 1 else 3 + w))) σ) : gE 209 0 [some (.int w)] [] σ K := by
  refine w209 ⟨fun h => ?_, fun h => ?_⟩
  · rw [if_neg h] at hK; exact hK
  · rw [if_pos h] at hK; exact hK
noncomputable def f209 : gD := fun Lv σ => match Lv with
  | [some (.int w)] => some (none, some (.int (if w = 4 then 1 else 3 + w)), σ)
  | _ => none
theorem ok209 : gFok 209 f209 := by
  intro Lv σ q h hc K hK
  unfold f209 at h
  split at h
  · rename_i w
    cases h
    exact s209 hK
  · cases h
noncomputable def gpfN_l : List (Nat × gD) := (156, f156) :: (157, f157) :: (159, f159) :: (209, f209) :: gpfM_l
noncomputable def gpfN : gP := gpl0 gpfN_l
theorem gpfN_ok : gPok gpfN := gpl0_cons ok156 (gpl0_cons ok157 (gpl0_cons ok159 (gpl0_cons ok209 (gpfM_ok))))
set_option maxRecDepth 20000 in
theorem w158 {σ : gS} {K : gK} {a b : Int32} (h : (((bI (isT (σ 324) a)) = 0 → ((0 : Int32) = 0 ∨ (0 : Int32) = 1) ∧ K (some (.int 0)) σ) ∧ (¬ (bI (isT (σ 324) a)) = 0 → (((bI (isT (σ 324) b)) = 0 → ((0 : Int32) = 0 ∨ (0 : Int32) = 1) ∧ K (some (.int 0)) σ) ∧ (¬ (bI (isT (σ 324) b)) = 0 → ((a = b → ((0 : Int32) = 0 ∨ (0 : Int32) = 1) ∧ K (some (.int 0)) σ) ∧ (¬ a = b → ((1 : Int32) = 0 ∨ (1 : Int32) = 1) ∧ K (some (.int 1)) σ))))))) : gE 158 0 [some (.ref 323), some (.int a), some (.int b)] [] σ K :=
  gw_run (cy := 158) (cuts := []) (inl := []) (pf := gpfN) gpfN_ok 400 (by decide) h
theorem s158 {σ : gS} {K : gK} {a b : Int32} (hK : K (some (.int (bI (isP (σ 324) a b)))) σ) : gE 158 0 [some (.ref 323), some (.int a), some (.int b)] [] σ K := by
  refine w158 ?_
  simp only [bI_0]
  grind [bI]
noncomputable def f158 : gD := fun Lv σ => match Lv with
  | [some (.ref q0), some (.int a), some (.int b)] => cond (Nat.beq q0 323) (some (none, some (.int (bI (isP (σ 324) a b))), σ)) none
  | _ => none
theorem ok158 : gFok 158 f158 := by
  intro Lv σ q h hc K hK
  unfold f158 at h
  split at h
  · rename_i q0 a b
    obtain ⟨hb, h⟩ := c_no h
    have hb0 := hb
    have e0 := b_eq hb0
    subst e0
    cases h
    exact s158 hK
  · cases h
abbrev inR (R : gW) (w n : Int32) : Prop := ((w = 0 ∨ w = 1) ∧ -9 ≤ n ∧ n ≤ 9) ∨ (w = 2 ∧ 0 ≤ n ∧ n ≤ R 0 - 1) ∨ (w = 3 ∧ 0 ≤ n ∧ n ≤ 3) ∨ (w = 4 ∧ 0 ≤ n ∧ n ≤ 1)
set_option maxRecDepth 20000 in
theorem w210 {σ : gS} {K : gK} {w n : Int32} (h : ((0 : Int) + 5 = 4 + 1 ∧ ((w = 0 → ((bI (((-9) : Int32) ≤ n ∧ n ≤ (9 : Int32))) = 0 ∨ (bI (((-9) : Int32) ≤ n ∧ n ≤ (9 : Int32))) = 1) ∧ K (some (.int (bI (((-9) : Int32) ≤ n ∧ n ≤ (9 : Int32))))) σ) ∧ (¬ w = 0 → ((w = 1 → ((bI (((-9) : Int32) ≤ n ∧ n ≤ (9 : Int32))) = 0 ∨ (bI (((-9) : Int32) ≤ n ∧ n ≤ (9 : Int32))) = 1) ∧ K (some (.int (bI (((-9) : Int32) ≤ n ∧ n ≤ (9 : Int32))))) σ) ∧ (¬ w = 1 → ((w = 2 → (0 ≤ (0 : Int32) ∧ (0 : Int32) < 330) ∧ ((bI ((0 : Int32) ≤ n ∧ n ≤ ((σ 324 0) - 1))) = 0 ∨ (bI ((0 : Int32) ≤ n ∧ n ≤ ((σ 324 0) - 1))) = 1) ∧ K (some (.int (bI ((0 : Int32) ≤ n ∧ n ≤ ((σ 324 0) - 1))))) σ) ∧ (¬ w = 2 → ((w = 3 → ((bI ((0 : Int32) ≤ n ∧ n ≤ (3 : Int32))) = 0 ∨ (bI ((0 : Int32) ≤ n ∧ n ≤ (3 : Int32))) = 1) ∧ K (some (.int (bI ((0 : Int32) ≤ n ∧ n ≤ (3 : Int32))))) σ) ∧ (¬ w = 3 → ((w = 4 → ((bI ((0 : Int32) ≤ n ∧ n ≤ (1 : Int32))) = 0 ∨ (bI ((0 : Int32) ≤ n ∧ n ≤ (1 : Int32))) = 1) ∧ K (some (.int (bI ((0 : Int32) ≤ n ∧ n ≤ (1 : Int32))))) σ) ∧ (¬ w = 4 → ((0 : Int32) = 0 ∨ (0 : Int32) = 1) ∧ K (some (.int 0)) σ)))))))))))) : gE 210 0 [some (.ref 323), some (.int w), some (.int n)] [] σ K :=
  gw_run (cy := 210) (cuts := []) (inl := []) (pf := gpfN) gpfN_ok 400 (by decide) h
theorem s210 {σ : gS} {K : gK} {w n : Int32} (hK : K (some (.int (bI (inR (σ 324) w n)))) σ) : gE 210 0 [some (.ref 323), some (.int w), some (.int n)] [] σ K := by
  have h01 : ∀ (p : Prop) [Decidable p], bI p = 0 ∨ bI p = 1 := fun p _ => bI_01
  have key : ∀ (p : Prop) [Decidable p], (p ↔ inR (σ 324) w n) → K (some (.int (bI p))) σ := by
    intro p _ h
    have e : bI p = bI (inR (σ 324) w n) := by
      by_cases q : p
      · rw [bI_t q, bI_t (h.mp q)]
      · rw [bI_f q, bI_f (fun e => q (h.mpr e))]
    rw [e]; exact hK
  refine w210 ⟨by decide, fun h => ⟨h01 _, key _ ?_⟩, fun h0 => ⟨fun h => ⟨h01 _, key _ ?_⟩, fun h1 => ⟨fun h => ⟨by decide, h01 _, key _ ?_⟩, fun h2 => ⟨fun h => ⟨h01 _, key _ ?_⟩, fun h3 => ⟨fun h => ⟨h01 _, key _ ?_⟩, fun h4 => ⟨by decide, ?_⟩⟩⟩⟩⟩⟩
  · subst h; exact ⟨fun q => Or.inl ⟨Or.inl rfl, q⟩, fun q => by rcases q with q | q | q | q <;> first | exact q.2 | exact absurd q.1 (by decide)⟩
  · subst h; exact ⟨fun q => Or.inl ⟨Or.inr rfl, q⟩, fun q => by rcases q with q | q | q | q <;> first | exact q.2 | exact absurd q.1 (by decide)⟩
  · subst h; exact ⟨fun q => Or.inr (Or.inl ⟨rfl, q⟩), fun q => by rcases q with q | q | q | q <;> first | exact absurd q.1 (by decide) | exact q.2⟩
  · subst h; exact ⟨fun q => Or.inr (Or.inr (Or.inl ⟨rfl, q⟩)), fun q => by rcases q with q | q | q | q <;> first | exact absurd q.1 (by decide) | exact q.2⟩
  · subst h; exact ⟨fun q => Or.inr (Or.inr (Or.inr ⟨rfl, q⟩)), fun q => by rcases q with q | q | q | q <;> first | exact absurd q.1 (by decide) | exact q.2⟩
  · have e : bI (inR (σ 324) w n) = 0 := bI_f (fun q => by rcases q with q | q | q | q <;> first | exact h4 q.1 | exact h3 q.1 | exact h2 q.1 | exact q.1.elim h0 h1)
    rw [e] at hK; exact hK
noncomputable def f210 : gD := fun Lv σ => match Lv with
  | [some (.ref q0), some (.int w), some (.int n)] => cond (Nat.beq q0 323) (some (none, some (.int (bI (inR (σ 324) w n))), σ)) none
  | _ => none
theorem ok210 : gFok 210 f210 := by
  intro Lv σ q h hc K hK
  unfold f210 at h
  split at h
  · rename_i q0 w n
    obtain ⟨hb, h⟩ := c_no h
    have hb0 := hb
    have e0 := b_eq hb0
    subst e0
    cases h
    exact s210 hK
  · cases h
noncomputable def gpfO_l : List (Nat × gD) := (158, f158) :: (210, f210) :: gpfN_l
noncomputable def gpfO : gP := gpl0 gpfO_l
theorem gpfO_ok : gPok gpfO := gpl0_cons ok158 (gpl0_cons ok210 (gpfN_ok))
abbrev gFir (R : gW) (f : Int32) : Prop := (0 ≤ f ∧ f ≤ R 0) ∧ ¬ R 1 = f ∧ ¬ 0 < fBar R f
def aFir (R : gW) (f : Int32) : Int32 := if 0 ≤ f ∧ f ≤ R 0 then (if R 1 = f then -2 else if 0 < fBar R f then -4 else R 1) else -1
def nFir (R : gW) (f : Int32) : gW := fTe (rup R 1 f) 7 0 (R 1)
set_option maxRecDepth 20000 in
theorem w213 {σ : gS} {K : gK} {f : Int32} (h : (0 ≤ (0 : Int32) ∧ (0 : Int32) < 330) ∧ ((¬ (bI ((0 : Int32) ≤ f ∧ f ≤ (σ 324 0))) = 0 → (0 ≤ (1 : Int32) ∧ (1 : Int32) < 330) ∧ ((¬ (σ 324 1) = f → (0 ≤ σ 324 3 ∧ σ 324 3 ≤ 20) ∧ ((¬ 0 < (fBar (σ 324) f) → (0 ≤ σ 323 6 ∧ σ 323 6 ≤ 8) ∧ (0 ≤ (1 : Int32) ∧ (1 : Int32) < 330) ∧ (0 ≤ (gup (hKe σ) 324 1 f) 324 209 ∧ (gup (hKe σ) 324 1 f) 324 209 ≤ 40) ∧ K (some (.int (σ 324 1))) (grow (gup (hKe σ) 324 1 f) 324 (fTe ((gup (hKe σ) 324 1 f) 324) (7 : Int32) (0 : Int32) (σ 324 1)))) ∧ (0 < (fBar (σ 324) f) → K (some (.int (-4))) σ))) ∧ ((σ 324 1) = f → K (some (.int (-2))) σ))) ∧ ((bI ((0 : Int32) ≤ f ∧ f ≤ (σ 324 0))) = 0 → K (some (.int (-1))) σ))) : gE 213 0 [some (.ref 323), some (.int f), none] [] σ K :=
  gw_run (cy := 213) (cuts := []) (inl := []) (pf := gpfO) gpfO_ok 400 (by decide) h
theorem s213 {σ : gS} {K : gK} {f : Int32} (hc : RS σ) (hK : K (some (.int (aFir (σ 324) f))) (hOp σ (gFir (σ 324) f) (nFir (σ 324) f))) : gE 213 0 [some (.ref 323), some (.int f), none] [] σ K := by
  obtain ⟨⟨h3, h9⟩, hu⟩ := hc
  refine w213 ?_
  simp (disch := decide) only [gup_grow, grow_grow, grow_at, hKe_324, rup_at, rup_ne]
  simp only [bI_0]
  unfold aFir hOp nFir at hK
  grind
noncomputable def f213 : gD := fun Lv σ => match Lv with
  | [some (.ref q0), some (.int f), none] => cond (Nat.beq q0 323) (some (some (RS σ), some (.int (aFir (σ 324) f)), hOp σ (gFir (σ 324) f) (nFir (σ 324) f))) none
  | _ => none
theorem ok213 : gFok 213 f213 := by
  intro Lv σ q h hc K hK
  unfold f213 at h
  split at h
  · rename_i q0 f
    obtain ⟨hb, h⟩ := c_no h
    have hb0 := hb
    have e0 := b_eq hb0
    subst e0
    cases h
    exact s213 (hc _ rfl) hK
  · cases h
abbrev gSwa (R : gW) (a b x : Int32) : Prop := (isP R a b ∧ 0 ≤ x ∧ x ≤ 9) ∧ ¬ 0 < fWhy R a.toNatClampNeg b.toNatClampNeg x
def aSwa (R : gW) (a b x : Int32) : Int32 := if isP R a b ∧ 0 ≤ x ∧ x ≤ 9 then (if 0 < fWhy R a.toNatClampNeg b.toNatClampNeg x then -10 - fWhy R a.toNatClampNeg b.toNatClampNeg x else fRise R a.toNatClampNeg b.toNatClampNeg a.toNatClampNeg + fRise R a.toNatClampNeg b.toNatClampNeg b.toNatClampNeg + 100) else -1
end
section
-- text 17
/-! THE REFERENCE: its calls, swap, move, ring, set -/
theorem idx {a : Int32} (ha : 0 ≤ a ∧ a < 20) (f : Nat) (hf : f < 20) : (9 + 10 * a + iN f).toNatClampNeg = 9 + 10 * a.toNatClampNeg + f ∧ 0 ≤ 9 + 10 * a + iN f ∧ 9 + 10 * a + iN f < 330 := by
  obtain ⟨e, l⟩ := t20 ha
  obtain ⟨m, hm⟩ : ∃ m, a.toNatClampNeg = m := ⟨_, rfl⟩
  rw [hm] at e l ⊢
  rw [e]
  exact ⟨ixn f m l hf, ixbn f m l hf⟩
/-- a number of a row changed by so much -/
def radd (R : gW) (k : Nat) (x : Int32) : gW := rup R k (R k + x)
def nSwa (R : gW) (a b x : Int32) : gW := fTe (radd (radd (radd (radd (rsw R a.toNatClampNeg b.toNatClampNeg) (9 + 10 * a.toNatClampNeg + 7) (-x)) (9 + 10 * b.toNatClampNeg + 7) x) 7 x) 4 1) 1 (100 * a + b) x
set_option maxRecDepth 20000 in
theorem w214 {σ : gS} {K : gK} {a b x : Int32} (h : (((bI (isP (σ 324) a b)) = 0 → K (some (.int (-1))) σ) ∧ (¬ (bI (isP (σ 324) a b)) = 0 → ((¬ (bI (0 ≤ x ∧ x ≤ 9)) = 0 → (((0 ≤ a ∧ a < 20) ∧ (0 ≤ b ∧ b < 20)) ∧ 0 ≤ σ 324 3 ∧ σ 324 3 ≤ 20) ∧ ((¬ 0 < (fWhy (σ 324) a.toNatClampNeg b.toNatClampNeg x) → (0 ≤ σ 323 6 ∧ σ 323 6 ≤ 8) ∧ (((0 ≤ a ∧ a < 20) ∧ (0 ≤ b ∧ b < 20)) ∧ (0 ≤ a ∧ a < 20) ∧ 0 ≤ (hKe σ) 324 3 ∧ (hKe σ) 324 3 ≤ 20) ∧ (((0 ≤ a ∧ a < 20) ∧ (0 ≤ b ∧ b < 20)) ∧ (0 ≤ b ∧ b < 20) ∧ 0 ≤ (hKe σ) 324 3 ∧ (hKe σ) 324 3 ≤ 20) ∧ (((0 ≤ a ∧ a < 20) ∧ (0 ≤ b ∧ b < 20))) ∧ (0 ≤ (9 + 10 * a + (7 : Int32)) ∧ (9 + 10 * a + (7 : Int32)) < 330) ∧ (0 ≤ (9 + 10 * a + (7 : Int32)) ∧ (9 + 10 * a + (7 : Int32)) < 330) ∧ gE 214 92 [some (.ref 323), some (.int a), some (.int b), some (.int x), some (.int (fWhy (σ 324) a.toNatClampNeg b.toNatClampNeg x)), some (.int ((fRise ((hKe σ) 324) a.toNatClampNeg b.toNatClampNeg a.toNatClampNeg) + (fRise ((hKe σ) 324) a.toNatClampNeg b.toNatClampNeg b.toNatClampNeg)))] [] (gup (grow (hKe σ) 324 (rsw ((hKe σ) 324) a.toNatClampNeg b.toNatClampNeg)) 324 (9 + 10 * a + (7 : Int32)).toNatClampNeg (((grow (hKe σ) 324 (rsw ((hKe σ) 324) a.toNatClampNeg b.toNatClampNeg)) 324 (9 + 10 * a + (7 : Int32)).toNatClampNeg) - x)) K) ∧ (0 < (fWhy (σ 324) a.toNatClampNeg b.toNatClampNeg x) → K (some (.int (-10 - (fWhy (σ 324) a.toNatClampNeg b.toNatClampNeg x)))) σ))) ∧ ((bI (0 ≤ x ∧ x ≤ 9)) = 0 → K (some (.int (-1))) σ))))) : gE 214 0 [some (.ref 323), some (.int a), some (.int b), some (.int x), none, none] [] σ K :=
  gw_run (cy := 214) (cuts := [80, 92, 107, 118, 128]) (inl := []) (pf := gpfO) gpfO_ok 400 (by decide) h
set_option maxRecDepth 20000 in
theorem c214_92 {σ : gS} {K : gK} {l1 l2 l3 l4 l5 : Int32} (h : (0 ≤ (9 + 10 * l2 + (7 : Int32)) ∧ (9 + 10 * l2 + (7 : Int32)) < 330) ∧ (0 ≤ (9 + 10 * l2 + (7 : Int32)) ∧ (9 + 10 * l2 + (7 : Int32)) < 330) ∧ gE 214 107 [some (.ref 323), some (.int l1), some (.int l2), some (.int l3), some (.int l4), some (.int l5)] [] (gup σ 324 (9 + 10 * l2 + (7 : Int32)).toNatClampNeg ((σ 324 (9 + 10 * l2 + (7 : Int32)).toNatClampNeg) + l3)) K) : gE 214 92 [some (.ref 323), some (.int l1), some (.int l2), some (.int l3), some (.int l4), some (.int l5)] [] σ K :=
  gw_run (cy := 214) (cuts := [80, 92, 107, 118, 128]) (inl := []) (pf := gpfO) gpfO_ok 400 (by decide) h
set_option maxRecDepth 20000 in
theorem c214_107 {σ : gS} {K : gK} {l1 l2 l3 l4 l5 : Int32} (h : (0 ≤ (7 : Int32) ∧ (7 : Int32) < 330) ∧ (0 ≤ (7 : Int32) ∧ (7 : Int32) < 330) ∧ gE 214 118 [some (.ref 323), some (.int l1), some (.int l2), some (.int l3), some (.int l4), some (.int l5)] [] (gup σ 324 7 ((σ 324 7) + l3)) K) : gE 214 107 [some (.ref 323), some (.int l1), some (.int l2), some (.int l3), some (.int l4), some (.int l5)] [] σ K :=
  gw_run (cy := 214) (cuts := [80, 92, 107, 118, 128]) (inl := []) (pf := gpfO) gpfO_ok 400 (by decide) h
set_option maxRecDepth 20000 in
theorem c214_118 {σ : gS} {K : gK} {l1 l2 l3 l4 l5 : Int32} (h : (0 ≤ (4 : Int32) ∧ (4 : Int32) < 330) ∧ (0 ≤ (4 : Int32) ∧ (4 : Int32) < 330) ∧ gE 214 128 [some (.ref 323), some (.int l1), some (.int l2), some (.int l3), some (.int l4), some (.int l5)] [] (gup σ 324 4 ((σ 324 4) + 1)) K) : gE 214 118 [some (.ref 323), some (.int l1), some (.int l2), some (.int l3), some (.int l4), some (.int l5)] [] σ K :=
  gw_run (cy := 214) (cuts := [80, 92, 107, 118, 128]) (inl := []) (pf := gpfO) gpfO_ok 400 (by decide) h
set_option maxRecDepth 20000 in
theorem c214_128 {σ : gS} {K : gK} {l1 l2 l3 l4 l5 : Int32} (h : (0 ≤ σ 324 209 ∧ σ 324 209 ≤ 40) ∧ K (some (.int (l5 + 100))) (grow σ 324 (fTe (σ 324) (1 : Int32) ((100 * l1) + l2) l3))) : gE 214 128 [some (.ref 323), some (.int l1), some (.int l2), some (.int l3), some (.int l4), some (.int l5)] [] σ K :=
  gw_run (cy := 214) (cuts := [80, 92, 107, 118, 128]) (inl := []) (pf := gpfO) gpfO_ok 400 (by decide) h
theorem bnd209 {R : gW} {k : Nat} {x : Int32} (h : ¬ 209 = k) (hR : 0 ≤ R 209 ∧ R 209 ≤ 40) : 0 ≤ rup R k x 209 ∧ rup R k x 209 ≤ 40 := by rw [rup_ne h]; exact hR
theorem s214 {σ : gS} {K : gK} {a b x : Int32} (hc : RS σ) (hK : K (some (.int (aSwa (σ 324) a b x))) (hOp σ (gSwa (σ 324) a b x) (nSwa (σ 324) a b x))) : gE 214 0 [some (.ref 323), some (.int a), some (.int b), some (.int x), none, none] [] σ K := by
  obtain ⟨⟨h3, h9⟩, hu⟩ := hc
  have hk3 : 0 ≤ hKe σ 324 3 ∧ hKe σ 324 3 ≤ 20 := by rw [hKe_324]; exact h3
  unfold aSwa hOp at hK
  refine w214 ?_
  simp only [bI_0]
  refine ⟨fun h => ?_, fun h => ⟨fun h1 => ?_, fun h1 => ?_⟩⟩
  · rw [if_neg (fun q => h q.1), if_neg (fun q => h q.1.1)] at hK; exact hK
  · have h := Decidable.not_not.mp h
    have h1 := Decidable.not_not.mp h1
    obtain ⟨ha, hb⟩ := isP_of h3 h
    have la := (t20 ha).2
    have lb := (t20 hb).2
    rw [if_pos ⟨h, h1⟩] at hK
    obtain ⟨ia, ja⟩ := idx ha 7 (by decide)
    obtain ⟨ib, jb⟩ := idx hb 7 (by decide)
    have ia : (9 + 10 * a + (7 : Int32)).toNatClampNeg = 9 + 10 * a.toNatClampNeg + 7 := ia
    have ib : (9 + 10 * b + (7 : Int32)).toNatClampNeg = 9 + 10 * b.toNatClampNeg + 7 := ib
    refine ⟨⟨⟨ha, hb⟩, h3⟩, fun h2 => ⟨hu, ⟨⟨ha, hb⟩, ha, hk3⟩, ⟨⟨ha, hb⟩, hb, hk3⟩, ⟨ha, hb⟩, ja, ja, ?_⟩, fun h2 => ?_⟩
    · rw [if_neg h2, if_pos ⟨⟨h, h1⟩, h2⟩] at hK
      refine c214_92 ⟨jb, jb, c214_107 ⟨by decide, by decide, c214_118 ⟨by decide, by decide, c214_128 ?_⟩⟩⟩
      rw [ia, ib]
      simp (disch := decide) only [gup_grow, grow_grow, grow_at, hKe_324]
      refine ⟨?_, ?_⟩
      · refine bnd209 (by decide) (bnd209 (by decide) (bnd209 (by omega) (bnd209 (by omega) ?_)))
        rw [rsw_eq, if_neg (by omega), if_neg (by omega)]
        exact h9
      · unfold nSwa radd at hK
        simp only [Int32.sub_eq_add_neg]
        exact hK
    · rw [if_pos h2, if_neg (fun q => q.2 h2)] at hK; exact hK
  · rw [if_neg (fun q => h1 q.2), if_neg (fun q => h1 q.1.2)] at hK; exact hK
noncomputable def f214 : gD := fun Lv σ => match Lv with
  | [some (.ref q0), some (.int a), some (.int b), some (.int x), none, none] => cond (Nat.beq q0 323) (some (some (RS σ), some (.int (aSwa (σ 324) a b x)), hOp σ (gSwa (σ 324) a b x) (nSwa (σ 324) a b x))) none
  | _ => none
theorem ok214 : gFok 214 f214 := by
  intro Lv σ q h hc K hK
  unfold f214 at h
  split at h
  · rename_i q0 a b x
    obtain ⟨hb, h⟩ := c_no h
    have hb0 := hb
    have e0 := b_eq hb0
    subst e0
    cases h
    exact s214 (hc _ rfl) hK
  · cases h
abbrev gMov (R : gW) (a x : Int32) : Prop := (isT R a ∧ isS R x) ∧ ¬ 0 < fWhyM R a.toNatClampNeg x
def aMov (R : gW) (a x : Int32) : Int32 := if isT R a ∧ isS R x then (if 0 < fWhyM R a.toNatClampNeg x then -10 - fWhyM R a.toNatClampNeg x else fJoy R a.toNatClampNeg x - fJo R a.toNatClampNeg) else -1
def nMov (R : gW) (a x : Int32) : gW := fTe (radd (rup R (9 + 10 * a.toNatClampNeg + 0) x) 5 1) 2 a (fld R a.toNatClampNeg 0)
set_option maxRecDepth 20000 in
theorem w215 {σ : gS} {K : gK} {a x : Int32} (h : (((bI (isT (σ 324) a)) = 0 → K (some (.int (-1))) σ) ∧ (¬ (bI (isT (σ 324) a)) = 0 → ((¬ (bI (isS (σ 324) x)) = 0 → ((0 ≤ a ∧ a < 20) ∧ 0 ≤ σ 324 3 ∧ σ 324 3 ≤ 20) ∧ ((¬ 0 < (fWhyM (σ 324) a.toNatClampNeg x) → (0 ≤ σ 323 6 ∧ σ 323 6 ≤ 8) ∧ (0 ≤ (9 + 10 * a + (0 : Int32)) ∧ (9 + 10 * a + (0 : Int32)) < 330) ∧ ((0 ≤ a ∧ a < 20) ∧ 0 ≤ (hKe σ) 324 3 ∧ (hKe σ) 324 3 ≤ 20) ∧ ((0 ≤ a ∧ a < 20) ∧ 0 ≤ (hKe σ) 324 3 ∧ (hKe σ) 324 3 ≤ 20) ∧ (0 ≤ (9 + 10 * a + (0 : Int32)) ∧ (9 + 10 * a + (0 : Int32)) < 330) ∧ gE 215 84 [some (.ref 323), some (.int a), some (.int x), some (.int (fWhyM (σ 324) a.toNatClampNeg x)), some (.int ((hKe σ) 324 (9 + 10 * a + (0 : Int32)).toNatClampNeg)), some (.int ((fJoy ((hKe σ) 324) a.toNatClampNeg x) - (fJo ((hKe σ) 324) a.toNatClampNeg)))] [] (gup (hKe σ) 324 (9 + 10 * a + (0 : Int32)).toNatClampNeg x) K) ∧ (0 < (fWhyM (σ 324) a.toNatClampNeg x) → K (some (.int (-10 - (fWhyM (σ 324) a.toNatClampNeg x)))) σ))) ∧ ((bI (isS (σ 324) x)) = 0 → K (some (.int (-1))) σ))))) : gE 215 0 [some (.ref 323), some (.int a), some (.int x), none, none, none] [] σ K :=
  gw_run (cy := 215) (cuts := [84, 94]) (inl := []) (pf := gpfO) gpfO_ok 400 (by decide) h
set_option maxRecDepth 20000 in
theorem c215_84 {σ : gS} {K : gK} {l1 l2 l3 l4 l5 : Int32} (h : (0 ≤ (5 : Int32) ∧ (5 : Int32) < 330) ∧ (0 ≤ (5 : Int32) ∧ (5 : Int32) < 330) ∧ gE 215 94 [some (.ref 323), some (.int l1), some (.int l2), some (.int l3), some (.int l4), some (.int l5)] [] (gup σ 324 5 ((σ 324 5) + 1)) K) : gE 215 84 [some (.ref 323), some (.int l1), some (.int l2), some (.int l3), some (.int l4), some (.int l5)] [] σ K :=
  gw_run (cy := 215) (cuts := [84, 94]) (inl := []) (pf := gpfO) gpfO_ok 400 (by decide) h
set_option maxRecDepth 20000 in
theorem c215_94 {σ : gS} {K : gK} {l1 l2 l3 l4 l5 : Int32} (h : (0 ≤ σ 324 209 ∧ σ 324 209 ≤ 40) ∧ K (some (.int l5)) (grow σ 324 (fTe (σ 324) (2 : Int32) l1 l4))) : gE 215 94 [some (.ref 323), some (.int l1), some (.int l2), some (.int l3), some (.int l4), some (.int l5)] [] σ K :=
  gw_run (cy := 215) (cuts := [84, 94]) (inl := []) (pf := gpfO) gpfO_ok 400 (by decide) h
theorem s215 {σ : gS} {K : gK} {a x : Int32} (hc : RS σ) (hK : K (some (.int (aMov (σ 324) a x))) (hOp σ (gMov (σ 324) a x) (nMov (σ 324) a x))) : gE 215 0 [some (.ref 323), some (.int a), some (.int x), none, none, none] [] σ K := by
  obtain ⟨⟨h3, h9⟩, hu⟩ := hc
  have hk3 : 0 ≤ hKe σ 324 3 ∧ hKe σ 324 3 ≤ 20 := by rw [hKe_324]; exact h3
  unfold aMov hOp at hK
  refine w215 ?_
  simp only [bI_0]
  refine ⟨fun h => ?_, fun h => ⟨fun h1 => ?_, fun h1 => ?_⟩⟩
  · rw [if_neg (fun q => h q.1), if_neg (fun q => h q.1.1)] at hK; exact hK
  · have h := Decidable.not_not.mp h
    have h1 := Decidable.not_not.mp h1
    have ha := isT_of h3 h
    have la := (t20 ha).2
    rw [if_pos ⟨h, h1⟩] at hK
    obtain ⟨ia, ja⟩ := idx ha 0 (by decide)
    have ia : (9 + 10 * a + (0 : Int32)).toNatClampNeg = 9 + 10 * a.toNatClampNeg + 0 := ia
    refine ⟨⟨ha, h3⟩, fun h2 => ⟨hu, ja, ⟨ha, hk3⟩, ⟨ha, hk3⟩, ja, ?_⟩, fun h2 => ?_⟩
    · rw [if_neg h2, if_pos ⟨⟨h, h1⟩, h2⟩] at hK
      refine c215_84 ⟨by decide, by decide, c215_94 ?_⟩
      rw [ia]
      simp (disch := decide) only [gup_grow, grow_grow, grow_at, hKe_324]
      exact ⟨bnd209 (by decide) (bnd209 (by omega) h9), hK⟩
    · rw [if_pos h2, if_neg (fun q => q.2 h2)] at hK; exact hK
  · rw [if_neg (fun q => h1 q.2), if_neg (fun q => h1 q.1.2)] at hK; exact hK
noncomputable def f215 : gD := fun Lv σ => match Lv with
  | [some (.ref q0), some (.int a), some (.int x), none, none, none] => cond (Nat.beq q0 323) (some (some (RS σ), some (.int (aMov (σ 324) a x)), hOp σ (gMov (σ 324) a x) (nMov (σ 324) a x))) none
  | _ => none
theorem ok215 : gFok 215 f215 := by
  intro Lv σ q h hc K hK
  unfold f215 at h
  split at h
  · rename_i q0 a x
    obtain ⟨hb, h⟩ := c_no h
    have hb0 := hb
    have e0 := b_eq hb0
    subst e0
    cases h
    exact s215 (hc _ rfl) hK
  · cases h
abbrev isR3 (R : gW) (a b c : Int32) : Prop := (isP R a b ∧ isP R b c) ∧ ¬ a = c
abbrev gRin (R : gW) (a b c : Int32) : Prop := isR3 R a b c ∧ ¬ 0 < fWhyR R a.toNatClampNeg b.toNatClampNeg c.toNatClampNeg
def aRin (R : gW) (a b c : Int32) : Int32 := if isR3 R a b c then (if 0 < fWhyR R a.toNatClampNeg b.toNatClampNeg c.toNatClampNeg then -10 - fWhyR R a.toNatClampNeg b.toNatClampNeg c.toNatClampNeg else fROR R a.toNatClampNeg b.toNatClampNeg c.toNatClampNeg) else -1
def nRin (R : gW) (a b c : Int32) : gW := fTe (radd (rtu R a.toNatClampNeg b.toNatClampNeg c.toNatClampNeg) 6 1) 3 (10000 * a + 100 * b + c) 0
set_option maxRecDepth 20000 in
theorem w216 {σ : gS} {K : gK} {a b c : Int32} (h : (((bI (isP (σ 324) a b)) = 0 → K (some (.int (-1))) σ) ∧ (¬ (bI (isP (σ 324) a b)) = 0 → (((bI (isP (σ 324) b c)) = 0 → K (some (.int (-1))) σ) ∧ (¬ (bI (isP (σ 324) b c)) = 0 → ((¬ a = c → (((0 ≤ a ∧ a < 20) ∧ (0 ≤ b ∧ b < 20) ∧ (0 ≤ c ∧ c < 20)) ∧ (a.toNatClampNeg ≠ b.toNatClampNeg ∧ b.toNatClampNeg ≠ c.toNatClampNeg ∧ a.toNatClampNeg ≠ c.toNatClampNeg) ∧ 0 ≤ σ 324 3 ∧ σ 324 3 ≤ 20) ∧ ((¬ 0 < (fWhyR (σ 324) a.toNatClampNeg b.toNatClampNeg c.toNatClampNeg) → (0 ≤ σ 323 6 ∧ σ 323 6 ≤ 8) ∧ (((0 ≤ a ∧ a < 20) ∧ (0 ≤ b ∧ b < 20) ∧ (0 ≤ c ∧ c < 20)) ∧ (a.toNatClampNeg ≠ b.toNatClampNeg ∧ b.toNatClampNeg ≠ c.toNatClampNeg ∧ a.toNatClampNeg ≠ c.toNatClampNeg) ∧ 0 ≤ (hKe σ) 324 3 ∧ (hKe σ) 324 3 ≤ 20) ∧ (((0 ≤ a ∧ a < 20) ∧ (0 ≤ b ∧ b < 20) ∧ (0 ≤ c ∧ c < 20))) ∧ (0 ≤ (6 : Int32) ∧ (6 : Int32) < 330) ∧ (0 ≤ (6 : Int32) ∧ (6 : Int32) < 330) ∧ gE 216 85 [some (.ref 323), some (.int a), some (.int b), some (.int c), some (.int (fWhyR (σ 324) a.toNatClampNeg b.toNatClampNeg c.toNatClampNeg)), some (.int (fROR ((hKe σ) 324) a.toNatClampNeg b.toNatClampNeg c.toNatClampNeg))] [] (gup (grow (hKe σ) 324 (rtu ((hKe σ) 324) a.toNatClampNeg b.toNatClampNeg c.toNatClampNeg)) 324 6 (((grow (hKe σ) 324 (rtu ((hKe σ) 324) a.toNatClampNeg b.toNatClampNeg c.toNatClampNeg)) 324 6) + 1)) K) ∧ (0 < (fWhyR (σ 324) a.toNatClampNeg b.toNatClampNeg c.toNatClampNeg) → K (some (.int (-10 - (fWhyR (σ 324) a.toNatClampNeg b.toNatClampNeg c.toNatClampNeg)))) σ))) ∧ (a = c → K (some (.int (-1))) σ))))))) : gE 216 0 [some (.ref 323), some (.int a), some (.int b), some (.int c), none, none] [] σ K :=
  gw_run (cy := 216) (cuts := [85]) (inl := []) (pf := gpfO) gpfO_ok 400 (by decide) h
set_option maxRecDepth 20000 in
theorem c216_85 {σ : gS} {K : gK} {l1 l2 l3 l4 l5 : Int32} (h : (0 ≤ σ 324 209 ∧ σ 324 209 ≤ 40) ∧ K (some (.int l5)) (grow σ 324 (fTe (σ 324) (3 : Int32) (((10000 * l1) + (100 * l2)) + l3) (0 : Int32)))) : gE 216 85 [some (.ref 323), some (.int l1), some (.int l2), some (.int l3), some (.int l4), some (.int l5)] [] σ K :=
  gw_run (cy := 216) (cuts := [85]) (inl := []) (pf := gpfO) gpfO_ok 400 (by decide) h
theorem s216 {σ : gS} {K : gK} {a b c : Int32} (hc : RS σ) (hK : K (some (.int (aRin (σ 324) a b c))) (hOp σ (gRin (σ 324) a b c) (nRin (σ 324) a b c))) : gE 216 0 [some (.ref 323), some (.int a), some (.int b), some (.int c), none, none] [] σ K := by
  obtain ⟨⟨h3, h9⟩, hu⟩ := hc
  have hk3 : 0 ≤ hKe σ 324 3 ∧ hKe σ 324 3 ≤ 20 := by rw [hKe_324]; exact h3
  unfold aRin hOp at hK
  refine w216 ?_
  simp only [bI_0]
  have no : ¬ isR3 (σ 324) a b c → K (some (.int (-1))) σ := by
    intro q
    rw [if_neg q, if_neg (fun e => q e.1)] at hK
    exact hK
  refine ⟨fun h => no (fun q => h q.1.1), fun h => ⟨fun h1 => no (fun q => h1 q.1.2), fun h1 => ⟨fun h2 => ?_, fun h2 => no (fun q => q.2 h2)⟩⟩⟩
  have h := Decidable.not_not.mp h
  have h1 := Decidable.not_not.mp h1
  obtain ⟨ha, hb⟩ := isP_of h3 h
  obtain ⟨-, hcc⟩ := isP_of h3 h1
  have la := (t20 ha).2
  have lb := (t20 hb).2
  have lc := (t20 hcc).2
  have hd : a.toNatClampNeg ≠ b.toNatClampNeg ∧ b.toNatClampNeg ≠ c.toNatClampNeg ∧ a.toNatClampNeg ≠ c.toNatClampNeg := ⟨nn_ne ha hb h.2, nn_ne hb hcc h1.2, nn_ne ha hcc h2⟩
  rw [if_pos ⟨⟨h, h1⟩, h2⟩] at hK
  refine ⟨⟨⟨ha, hb, hcc⟩, hd, h3⟩, fun h4 => ⟨hu, ⟨⟨ha, hb, hcc⟩, hd, hk3⟩, ⟨ha, hb, hcc⟩, by decide, by decide, ?_⟩, fun h4 => ?_⟩
  · rw [if_neg h4, if_pos ⟨⟨⟨h, h1⟩, h2⟩, h4⟩] at hK
    refine c216_85 ?_
    simp (disch := decide) only [gup_grow, grow_grow, grow_at, hKe_324]
    refine ⟨bnd209 (by decide) ?_, hK⟩
    rw [rtu_eq hd, if_neg (by omega), if_neg (by omega), if_neg (by omega)]
    exact h9
  · rw [if_pos h4, if_neg (fun q => q.2 h4)] at hK; exact hK
noncomputable def f216 : gD := fun Lv σ => match Lv with
  | [some (.ref q0), some (.int a), some (.int b), some (.int c), none, none] => cond (Nat.beq q0 323) (some (some (RS σ), some (.int (aRin (σ 324) a b c)), hOp σ (gRin (σ 324) a b c) (nRin (σ 324) a b c))) none
  | _ => none
theorem ok216 : gFok 216 f216 := by
  intro Lv σ q h hc K hK
  unfold f216 at h
  split at h
  · rename_i q0 a b c
    obtain ⟨hb, h⟩ := c_no h
    have hb0 := hb
    have e0 := b_eq hb0
    subst e0
    cases h
    exact s216 (hc _ rfl) hK
  · cases h
-- text 18
/-! THE REFERENCE: its calls, set, settle, keep, restore, undo -/
def fof (w : Int32) : Nat := if w = 4 then 1 else 3 + w.toNatClampNeg
theorem inR_cases {R : gW} {w n : Int32} (h : inR R w n) : w = 0 ∨ w = 1 ∨ w = 2 ∨ w = 3 ∨ w = 4 := by
  rcases h with q | q | q | q
  · exact q.1.elim Or.inl (fun e => Or.inr (Or.inl e))
  · exact Or.inr (Or.inr (Or.inl q.1))
  · exact Or.inr (Or.inr (Or.inr (Or.inl q.1)))
  · exact Or.inr (Or.inr (Or.inr (Or.inr q.1)))
theorem idf {R : gW} {t w n : Int32} (ht : 0 ≤ t ∧ t < 20) (h : inR R w n) : (9 + 10 * t + (if w = 4 then 1 else 3 + w)).toNatClampNeg = 9 + 10 * t.toNatClampNeg + fof w ∧ 0 ≤ 9 + 10 * t + (if w = 4 then 1 else 3 + w) ∧ 9 + 10 * t + (if w = 4 then 1 else 3 + w) < 330 := by
  rcases inR_cases h with e | e | e | e | e <;> subst e
  · exact idx ht 3 (by decide)
  · exact idx ht 4 (by decide)
  · exact idx ht 5 (by decide)
  · exact idx ht 6 (by decide)
  · exact idx ht 1 (by decide)
theorem fof_le {R : gW} {w n : Int32} (h : inR R w n) : 1 ≤ fof w ∧ fof w ≤ 6 := by
  rcases inR_cases h with e | e | e | e | e <;> subst e <;> decide
abbrev gSet (R : gW) (t w v : Int32) : Prop := ((isT R t ∧ inR R w v) ∧ ¬ fld R t.toNatClampNeg (fof w) = v) ∧ ¬ (w = 4 ∧ ¬ (v = 1 ∨ R 1 ≤ fld R t.toNatClampNeg 0 / 4))
def aSet (R : gW) (t w v : Int32) : Int32 := if isT R t ∧ inR R w v then (if fld R t.toNatClampNeg (fof w) = v then -2 else if w = 4 ∧ ¬ (v = 1 ∨ R 1 ≤ fld R t.toNatClampNeg 0 / 4) then -4 else if w < 2 then fld R t.toNatClampNeg (fof w) + 9 else fld R t.toNatClampNeg (fof w)) else -1
def nSet (R : gW) (t w v : Int32) : gW := fTe (rup R (9 + 10 * t.toNatClampNeg + fof w) v) 6 (10 * t + w) (fld R t.toNatClampNeg (fof w))
set_option maxRecDepth 20000 in
theorem w211 {σ : gS} {K : gK} {t w v : Int32} (h : (((bI (isT (σ 324) t)) = 0 → K (some (.int (-1))) σ) ∧ (¬ (bI (isT (σ 324) t)) = 0 → ((¬ (bI (inR (σ 324) w v)) = 0 → (0 ≤ (9 + 10 * t + (if w = 4 then 1 else 3 + w)) ∧ (9 + 10 * t + (if w = 4 then 1 else 3 + w)) < 330) ∧ ((¬ (σ 324 (9 + 10 * t + (if w = 4 then 1 else 3 + w)).toNatClampNeg) = v → ((¬ w = 4 → (0 ≤ σ 323 6 ∧ σ 323 6 ≤ 8) ∧ (0 ≤ (9 + 10 * t + (if w = 4 then 1 else 3 + w)) ∧ (9 + 10 * t + (if w = 4 then 1 else 3 + w)) < 330) ∧ gE 211 92 [some (.ref 323), some (.int t), some (.int w), some (.int v), some (.int (σ 324 (9 + 10 * t + (if w = 4 then 1 else 3 + w)).toNatClampNeg))] [] (gup (hKe σ) 324 (9 + 10 * t + (if w = 4 then 1 else 3 + w)).toNatClampNeg v) K) ∧ (w = 4 → (0 ≤ (9 + 10 * t + (0 : Int32)) ∧ (9 + 10 * t + (0 : Int32)) < 330) ∧ (0 ≤ (1 : Int32) ∧ (1 : Int32) < 330) ∧ ((¬ (bI (v = 1 ∨ (σ 324 1) ≤ (σ 324 (9 + 10 * t + (0 : Int32)).toNatClampNeg) / 4)) = 0 → (0 ≤ σ 323 6 ∧ σ 323 6 ≤ 8) ∧ (0 ≤ (9 + 10 * t + (if w = 4 then 1 else 3 + w)) ∧ (9 + 10 * t + (if w = 4 then 1 else 3 + w)) < 330) ∧ gE 211 92 [some (.ref 323), some (.int t), some (.int w), some (.int v), some (.int (σ 324 (9 + 10 * t + (if w = 4 then 1 else 3 + w)).toNatClampNeg))] [] (gup (hKe σ) 324 (9 + 10 * t + (if w = 4 then 1 else 3 + w)).toNatClampNeg v) K) ∧ ((bI (v = 1 ∨ (σ 324 1) ≤ (σ 324 (9 + 10 * t + (0 : Int32)).toNatClampNeg) / 4)) = 0 → K (some (.int (-4))) σ))))) ∧ ((σ 324 (9 + 10 * t + (if w = 4 then 1 else 3 + w)).toNatClampNeg) = v → K (some (.int (-2))) σ))) ∧ ((bI (inR (σ 324) w v)) = 0 → K (some (.int (-1))) σ))))) : gE 211 0 [some (.ref 323), some (.int t), some (.int w), some (.int v), none] [] σ K :=
  gw_run (cy := 211) (cuts := [92]) (inl := []) (pf := gpfO) gpfO_ok 400 (by decide) h
set_option maxRecDepth 20000 in
theorem c211_92 {σ : gS} {K : gK} {l1 l2 l3 l4 : Int32} (h : (0 ≤ σ 324 209 ∧ σ 324 209 ≤ 40) ∧ ((¬ l2 < 2 → K (some (.int l4)) (grow σ 324 (fTe (σ 324) (6 : Int32) ((10 * l1) + l2) l4))) ∧ (l2 < 2 → K (some (.int (l4 + 9))) (grow σ 324 (fTe (σ 324) (6 : Int32) ((10 * l1) + l2) l4))))) : gE 211 92 [some (.ref 323), some (.int l1), some (.int l2), some (.int l3), some (.int l4)] [] σ K :=
  gw_run (cy := 211) (cuts := [92]) (inl := []) (pf := gpfO) gpfO_ok 400 (by decide) h
theorem s211 {σ : gS} {K : gK} {t w v : Int32} (hc : RS σ) (hK : K (some (.int (aSet (σ 324) t w v))) (hOp σ (gSet (σ 324) t w v) (nSet (σ 324) t w v))) : gE 211 0 [some (.ref 323), some (.int t), some (.int w), some (.int v), none] [] σ K := by
  obtain ⟨⟨h3, h9⟩, hu⟩ := hc
  unfold aSet hOp at hK
  refine w211 ?_
  simp only [bI_0]
  have no : ¬ (isT (σ 324) t ∧ inR (σ 324) w v) → K (some (.int (-1))) σ := by
    intro q
    rw [if_neg q, if_neg (fun e => q e.1.1)] at hK
    exact hK
  refine ⟨fun h => no (fun q => h q.1), fun h => ⟨fun h1 => ?_, fun h1 => no (fun q => h1 q.2)⟩⟩
  have h := Decidable.not_not.mp h
  have h1 := Decidable.not_not.mp h1
  have ht := isT_of h3 h
  have lt := (t20 ht).2
  obtain ⟨ia, ja⟩ := idf ht h1
  obtain ⟨i0, j0⟩ := idx ht 0 (by decide)
  have i0 : (9 + 10 * t + (0 : Int32)).toNatClampNeg = 9 + 10 * t.toNatClampNeg + 0 := i0
  have fl := fof_le h1
  rw [if_pos ⟨h, h1⟩] at hK
  have fin : ¬ fld (σ 324) t.toNatClampNeg (fof w) = v → ¬ (w = 4 ∧ ¬ (v = 1 ∨ σ 324 1 ≤ fld (σ 324) t.toNatClampNeg 0 / 4)) → gE 211 92 [some (.ref 323), some (.int t), some (.int w), some (.int v), some (.int (σ 324 (9 + 10 * t.toNatClampNeg + fof w)))] [] (gup (hKe σ) 324 (9 + 10 * t.toNatClampNeg + fof w) v) K := by
    intro h2 h4
    rw [if_neg h2, if_neg h4, if_pos (show gSet (σ 324) t w v from ⟨⟨⟨h, h1⟩, h2⟩, h4⟩)] at hK
    refine c211_92 ?_
    simp (disch := decide) only [gup_grow, grow_grow, grow_at, hKe_324]
    refine ⟨bnd209 (by omega) h9, fun q => ?_, fun q => ?_⟩
    · rw [if_neg q] at hK; exact hK
    · rw [if_pos q] at hK; exact hK
  rw [ia, i0]
  refine ⟨ja, fun h2 => ⟨fun h4 => ⟨hu, ja, fin h2 (fun q => h4 q.1)⟩, fun h4 => ⟨j0, by decide, fun h5 => ⟨hu, ja, fin h2 (fun q => h5 q.2)⟩, fun h5 => ?_⟩⟩, fun h2 => ?_⟩
  · have h2 : ¬ fld (σ 324) t.toNatClampNeg (fof w) = v := h2
    rw [if_neg h2, if_pos (show w = 4 ∧ ¬ (v = 1 ∨ σ 324 1 ≤ fld (σ 324) t.toNatClampNeg 0 / 4) from ⟨h4, h5⟩), if_neg (show ¬ gSet (σ 324) t w v from fun q => q.2 ⟨h4, h5⟩)] at hK; exact hK
  · have h2 : fld (σ 324) t.toNatClampNeg (fof w) = v := h2
    rw [if_pos h2, if_neg (show ¬ gSet (σ 324) t w v from fun q => q.1.2 h2)] at hK; exact hK
noncomputable def f211 : gD := fun Lv σ => match Lv with
  | [some (.ref q0), some (.int t), some (.int w), some (.int v), none] => cond (Nat.beq q0 323) (some (some (RS σ), some (.int (aSet (σ 324) t w v)), hOp σ (gSet (σ 324) t w v) (nSet (σ 324) t w v))) none
  | _ => none
theorem ok211 : gFok 211 f211 := by
  intro Lv σ q h hc K hK
  unfold f211 at h
  split at h
  · rename_i q0 t w v
    obtain ⟨hb, h⟩ := c_no h
    have hb0 := hb
    have e0 := b_eq hb0
    subst e0
    cases h
    exact s211 (hc _ rfl) hK
  · cases h
/-- rows end with zeros -/
abbrev zR (R : gW) : Prop := ∀ j, 330 ≤ j → R j = 0
def rowAt (E : gW) (u : Nat) : gW := fun j => if j < 330 then E (330 * u + j) else 0
theorem rla_row {E N : gW} (u : Nat) (hz : zR N) : rla E N (330 * u) 0 330 = rowAt E u := by
  funext j
  unfold rla rowAt
  by_cases h : j < 330
  · rw [if_pos ⟨by omega, by omega⟩, if_pos h, Nat.sub_zero]
  · rw [if_neg (by omega), if_neg h, hz j (by omega)]
theorem rla_all {N S : gW} (hz : zR N) (hs : zR S) : rla N S 0 0 330 = N := by
  funext j
  unfold rla
  by_cases h : j < 330
  · rw [if_pos ⟨by omega, by omega⟩, Nat.sub_zero, Nat.zero_add]
  · rw [if_neg (by omega), hs j (by omega), hz j (by omega)]
abbrev RZ (σ : gS) : Prop := zR (σ 324) ∧ zR (σ 325) ∧ zR (σ 326)
theorem hKe_ne {σ : gS} {q : Nat} (h : ¬ q = 323) (h2 : ¬ q = 327) : hKe σ q = σ q := by unfold hKe; rw [grow_ne h, grow_ne h2]
theorem z_nat : (0 : Int32).toNatClampNeg = 0 := by decide
set_option maxRecDepth 20000 in
theorem w154 {σ : gS} {K : gK} (h : ((0 ≤ (0 : Int32) ∧ (0 : Int32) ≤ iN (gln 324 - 330)) ∧ (0 ≤ (0 : Int32) ∧ (0 : Int32) ≤ iN (gln 326 - 330)) ∧ (324 = 326 → (0 : Int32).toNatClampNeg + 330 ≤ (0 : Int32).toNatClampNeg)) ∧ K none (grow σ 326 (rla (σ 324) (σ 326) (0 : Int32).toNatClampNeg (0 : Int32).toNatClampNeg 330))) : gE 154 0 [some (.ref 323)] [] σ K :=
  gw_run (cy := 154) (cuts := []) (inl := []) (pf := gpfO) gpfO_ok 400 (by decide) h
theorem s154 {σ : gS} {K : gK} (hc : RZ σ) (hK : K none (grow σ 326 (σ 324))) : gE 154 0 [some (.ref 323)] [] σ K := by
  refine w154 ⟨⟨by decide, by decide, fun h => absurd h (by decide)⟩, ?_⟩
  rw [z_nat, rla_all hc.1 hc.2.2]
  exact hK
noncomputable def f154 : gD := fun Lv σ => match Lv with
  | [some (.ref q0)] => cond (Nat.beq q0 323) (some (some (RZ σ), none, grow σ 326 (σ 324))) none
  | _ => none
theorem ok154 : gFok 154 f154 := by
  intro Lv σ q h hc K hK
  unfold f154 at h
  split at h
  · rename_i q0
    obtain ⟨hb, h⟩ := c_no h
    have hb0 := hb
    have e0 := b_eq hb0
    subst e0
    cases h
    exact s154 (hc _ rfl) hK
  · cases h
theorem fSt_3 : ∀ (d : Nat) (R : gW), (fSt d R).2 3 = R 3
  | 0, R => rfl
  | d + 1, R => by
    by_cases h : fBest R < 0
    · rw [fSt_lt h]
    · rw [fSt_ge h]
      show (fSt d (fNx R)).2 3 = R 3
      rw [fSt_3 d, fNx_3]
theorem rsw_z {R : gW} {a b : Nat} (ha : a < 32) (hb : b < 32) (h : zR R) : zR (rsw R a b) := by
  intro j hj
  rw [rsw_eq, if_neg (by omega), if_neg (by omega)]
  exact h j hj
theorem fBest_ab {R : gW} (hR : 0 ≤ R 3 ∧ R 3 ≤ 20) (h : ¬ fBest R < 0) : ∃ a b, a < nM R ∧ b < nM R ∧ nM R ≤ 20 ∧ fNx R = rsw R a b := by
  have hn := (nM_of hR).2
  rcases fBest_of R with e | ⟨a, b, ha, hb, e⟩
  · rw [e] at h; exact absurd (by decide) h
  · obtain ⟨d1, d2, -⟩ := dm100 a (by omega) b (by omega)
    refine ⟨a, b, ha, hb, hn, ?_⟩
    unfold fNx
    rw [e, d2, d1, iN_nat (by omega), iN_nat (by omega)]
/-- settling changes seats alone -/
theorem fSt_same {P : gW → Prop} (hP : ∀ R a b, a < 20 → b < 20 → P R → P (rsw R a b)) : ∀ (d : Nat) (R : gW), (0 ≤ R 3 ∧ R 3 ≤ 20) → P R → P (fSt d R).2
  | 0, R, _, h => h
  | d + 1, R, hR, h => by
    by_cases hb : fBest R < 0
    · rw [fSt_lt hb]; exact h
    · rw [fSt_ge hb]
      obtain ⟨a, b, ha, hb2, hn, e⟩ := fBest_ab hR hb
      refine fSt_same hP d (fNx R) (by rw [fNx_3]; exact hR) ?_
      rw [e]
      exact hP R a b (by omega) (by omega) h
theorem fSt_z {d : Nat} {R : gW} (hR : 0 ≤ R 3 ∧ R 3 ≤ 20) (h : zR R) : zR (fSt d R).2 := fSt_same (fun R a b ha hb h => rsw_z (by omega) (by omega) h) d R hR h
theorem fSt_9 {d : Nat} {R : gW} (hR : 0 ≤ R 3 ∧ R 3 ≤ 20) : (fSt d R).2 209 = R 209 := fSt_same (P := fun S => S 209 = R 209) (fun S a b ha hb h => by
  show rsw S a b 209 = R 209
  rw [rsw_eq, if_neg (by omega), if_neg (by omega)]
  exact h) d R hR rfl
theorem fSt_n : ∀ (d : Nat) (R : gW), (fSt d R).1 ≤ d
  | 0, _ => Nat.le_refl 0
  | d + 1, R => by
    by_cases h : fBest R < 0
    · rw [fSt_lt h]; exact Nat.zero_le _
    · rw [fSt_ge h]
      have := fSt_n d (fNx R)
      show (fSt d (fNx R)).1 + 1 ≤ d + 1
      omega
theorem fSt_0 {d : Nat} {R : gW} (h : (fSt d R).1 = 0) : (fSt d R).2 = R := by
  cases d with
  | zero => rfl
  | succ d =>
    by_cases hb : fBest R < 0
    · rw [fSt_lt hb]
    · rw [fSt_ge hb] at h; exact absurd h (by simp)
abbrev gStl (R : gW) : Prop := ¬ (fSt 99 R).1 = 0
def aStl (R : gW) : Int32 := if (fSt 99 R).1 = 0 then -2 else iN (fSt 99 R).1
def nStl (R : gW) : gW := fTe (radd (fSt 99 R).2 4 (iN (fSt 99 R).1)) 5 (iN (fSt 99 R).1) (fJa (radd (fSt 99 R).2 4 (iN (fSt 99 R).1)) - fJa R)
noncomputable def gpfP_l : List (Nat × gD) := (154, f154) :: gpfO_l
noncomputable def gpfP : gP := gpl0 gpfP_l
theorem gpfP_ok : gPok gpfP := gpl0_cons ok154 (gpfO_ok)
set_option maxRecDepth 20000 in
theorem w217 {σ : gS} {K : gK} (h : (RZ σ) ∧ (0 ≤ (grow σ 326 (σ 324)) 326 3 ∧ (grow σ 326 (σ 324)) 326 3 ≤ 20) ∧ (0 ≤ (grow σ 326 (σ 324)) 326 3 ∧ (grow σ 326 (σ 324)) 326 3 ≤ 20) ∧ ((¬ (iN (fSt 99 ((grow σ 326 (σ 324)) 326)).1) = 0 → (0 ≤ (grow (grow σ 326 (σ 324)) 326 (fSt 99 ((grow σ 326 (σ 324)) 326)).2) 323 6 ∧ (grow (grow σ 326 (σ 324)) 326 (fSt 99 ((grow σ 326 (σ 324)) 326)).2) 323 6 ≤ 8) ∧ ((0 ≤ (0 : Int32) ∧ (0 : Int32) ≤ iN (gln 326 - 330)) ∧ (0 ≤ (0 : Int32) ∧ (0 : Int32) ≤ iN (gln 324 - 330)) ∧ (326 = 324 → (0 : Int32).toNatClampNeg + 330 ≤ (0 : Int32).toNatClampNeg)) ∧ gE 217 44 [some (.ref 323), some (.int (fJa ((grow σ 326 (σ 324)) 326))), some (.int (iN (fSt 99 ((grow σ 326 (σ 324)) 326)).1))] [] (grow (hKe (grow (grow σ 326 (σ 324)) 326 (fSt 99 ((grow σ 326 (σ 324)) 326)).2)) 324 (rla ((hKe (grow (grow σ 326 (σ 324)) 326 (fSt 99 ((grow σ 326 (σ 324)) 326)).2)) 326) ((hKe (grow (grow σ 326 (σ 324)) 326 (fSt 99 ((grow σ 326 (σ 324)) 326)).2)) 324) (0 : Int32).toNatClampNeg (0 : Int32).toNatClampNeg 330)) K) ∧ ((iN (fSt 99 ((grow σ 326 (σ 324)) 326)).1) = 0 → K (some (.int (-2))) (grow (grow σ 326 (σ 324)) 326 (fSt 99 ((grow σ 326 (σ 324)) 326)).2)))) : gE 217 0 [some (.ref 323), none, none] [] σ K :=
  gw_run (cy := 217) (cuts := [44, 54]) (inl := []) (pf := gpfP) gpfP_ok 400 (by decide) h
set_option maxRecDepth 20000 in
theorem c217_44 {σ : gS} {K : gK} {l1 l2 : Int32} (h : (0 ≤ (4 : Int32) ∧ (4 : Int32) < 330) ∧ (0 ≤ (4 : Int32) ∧ (4 : Int32) < 330) ∧ gE 217 54 [some (.ref 323), some (.int l1), some (.int l2)] [] (gup σ 324 4 ((σ 324 4) + l2)) K) : gE 217 44 [some (.ref 323), some (.int l1), some (.int l2)] [] σ K :=
  gw_run (cy := 217) (cuts := [44, 54]) (inl := []) (pf := gpfP) gpfP_ok 400 (by decide) h
set_option maxRecDepth 20000 in
theorem c217_54 {σ : gS} {K : gK} {l1 l2 : Int32} (h : (0 ≤ σ 324 3 ∧ σ 324 3 ≤ 20) ∧ (0 ≤ σ 324 209 ∧ σ 324 209 ≤ 40) ∧ K (some (.int l2)) (grow σ 324 (fTe (σ 324) (5 : Int32) l2 ((fJa (σ 324)) - l1)))) : gE 217 54 [some (.ref 323), some (.int l1), some (.int l2)] [] σ K :=
  gw_run (cy := 217) (cuts := [44, 54]) (inl := []) (pf := gpfP) gpfP_ok 400 (by decide) h
theorem s217 {σ : gS} {K : gK} (hc : RS σ ∧ RZ σ) (hK : K (some (.int (aStl (σ 324)))) (hOp (grow σ 326 (fSt 99 (σ 324)).2) (gStl (σ 324)) (nStl (σ 324)))) : gE 217 0 [some (.ref 323), none, none] [] σ K := by
  obtain ⟨⟨⟨h3, h9⟩, hu⟩, hz⟩ := hc
  unfold aStl hOp at hK
  have e0 : iN (fSt 99 (σ 324)).1 = 0 ↔ (fSt 99 (σ 324)).1 = 0 := by
    have := fSt_n 99 (σ 324)
    exact iN_inj (m := 0) (by omega) (by decide)
  refine w217 ?_
  rw [grow_at, e0]
  refine ⟨hz, h3, h3, fun h => ?_, fun h => ?_⟩
  · rw [if_neg h, if_pos h] at hK
    rw [grow_grow, grow_ne (by decide), z_nat]
    refine ⟨hu, ⟨by decide, by decide, fun h => absurd h (by decide)⟩, ?_⟩
    rw [hKe_324, hKe_ne (by decide) (by decide), grow_at, grow_ne (by decide), rla_all (fSt_z h3 hz.1) hz.1]
    refine c217_44 ⟨by decide, by decide, c217_54 ?_⟩
    simp (disch := decide) only [gup_grow, grow_grow, grow_at]
    refine ⟨?_, bnd209 (by decide) (by rw [fSt_9 h3]; exact h9), hK⟩
    rw [rup_ne (by decide), fSt_3]
    exact h3
  · rw [if_pos h, if_neg (fun q => q h)] at hK
    rw [grow_grow]
    exact hK
noncomputable def f217 : gD := fun Lv σ => match Lv with
  | [some (.ref q0), none, none] => cond (Nat.beq q0 323) (some (some (RS σ ∧ RZ σ), some (.int (aStl (σ 324))), hOp (grow σ 326 (fSt 99 (σ 324)).2) (gStl (σ 324)) (nStl (σ 324)))) none
  | _ => none
theorem ok217 : gFok 217 f217 := by
  intro Lv σ q h hc K hK
  unfold f217 at h
  split at h
  · rename_i q0
    obtain ⟨hb, h⟩ := c_no h
    have hb0 := hb
    have e0 := b_eq hb0
    subst e0
    cases h
    exact s217 (hc _ rfl) hK
  · cases h
end
section
-- text 19
/-! THE REFERENCE: its calls, keep, restore, undo, station -/
theorem s01 {f : Int32} (h : 0 ≤ f ∧ f ≤ 1) : f = iN f.toNatClampNeg ∧ f.toNatClampNeg ≤ 1 := by
  obtain ⟨e, l⟩ := iN_of h.1
  refine ⟨e, ?_⟩
  have h2 := h.2
  rw [e] at h2
  exact (iN_le (m := 1) l (by decide)).mp h2
theorem i330m (k n : Nat) (hk : k ≤ n) (hn : n < 9) : (330 * iN k : Int32) = iN (330 * k) ∧ (330 * iN k : Int32).toNatClampNeg = 330 * k ∧ (0 : Int32) ≤ 330 * iN k ∧ 330 * iN k ≤ iN (330 * n) := by
  have e : (330 * iN k : Int32) = iN (330 * k) := iN_mul 330 k
  rw [e, iN_nat (by omega)]
  exact ⟨rfl, rfl, (iN_le (k := 0) (by decide) (by omega)).mpr (by omega), (iN_le (by omega) (by omega)).mpr (by omega)⟩
def hKp (σ : gS) (f : Nat) : gS := grow (grow σ 328 (rla (σ 324) (σ 328) 0 (330 * f) 330)) 329 (rup (σ 329) f 1)
abbrev isSl (f : Int32) : Prop := 0 ≤ f ∧ f ≤ 1
set_option maxRecDepth 20000 in
theorem w221 {σ : gS} {K : gK} {f : Int32} (h : ((¬ (bI ((0 : Int32) ≤ f ∧ f ≤ (1 : Int32))) = 0 → ((0 ≤ (0 : Int32) ∧ (0 : Int32) ≤ iN (gln 324 - 330)) ∧ (0 ≤ (330 * f) ∧ (330 * f) ≤ iN (gln 328 - 330)) ∧ (324 = 328 → (330 * f).toNatClampNeg + 330 ≤ (0 : Int32).toNatClampNeg)) ∧ ((0 ≤ f ∧ f < 2) ∧ ((1 : Int32) = 0 ∨ (1 : Int32) = 1)) ∧ (0 ≤ (3 : Int32) ∧ (3 : Int32) < 330) ∧ K (some (.int ((gup (grow σ 328 (rla (σ 324) (σ 328) (0 : Int32).toNatClampNeg (330 * f).toNatClampNeg 330)) 329 f.toNatClampNeg 1) 324 3))) (gup (grow σ 328 (rla (σ 324) (σ 328) (0 : Int32).toNatClampNeg (330 * f).toNatClampNeg 330)) 329 f.toNatClampNeg 1)) ∧ ((bI ((0 : Int32) ≤ f ∧ f ≤ (1 : Int32))) = 0 → K (some (.int (-1))) σ))) : gE 221 0 [some (.ref 323), some (.int f)] [] σ K :=
  gw_run (cy := 221) (cuts := []) (inl := []) (pf := gpfP) gpfP_ok 400 (by decide) h
theorem s221 {σ : gS} {K : gK} {f : Int32} (hK : K (some (.int (if isSl f then σ 324 3 else -1))) (if isSl f then hKp σ f.toNatClampNeg else σ)) : gE 221 0 [some (.ref 323), some (.int f)] [] σ K := by
  refine w221 ?_
  simp only [bI_0]
  refine ⟨fun h => ?_, fun h => ?_⟩
  · have h := Decidable.not_not.mp h
    rw [if_pos h, if_pos h] at hK
    obtain ⟨e, l⟩ := s01 h
    obtain ⟨m, hm⟩ : ∃ m, f.toNatClampNeg = m := ⟨_, rfl⟩
    rw [hm] at e l hK
    rw [e]
    obtain ⟨-, x1, x2, x3⟩ := i330m m 1 l (by decide)
    rw [x1, z_nat, iN_nat (by omega)]
    refine ⟨⟨by decide, ⟨x2, x3⟩, fun h => absurd h (by decide)⟩, ⟨⟨(iN_le (k := 0) (by decide) (by omega)).mpr (by omega), (iN_lt (m := 2) (by omega) (by decide)).mpr (by omega)⟩, by decide⟩, by decide, ?_⟩
    simp (disch := decide) only [gup_grow, grow_ne]
    exact hK
  · rw [if_neg h, if_neg h] at hK; exact hK
noncomputable def f221 : gD := fun Lv σ => match Lv with
  | [some (.ref q0), some (.int f)] => cond (Nat.beq q0 323) (some (none, some (.int (if isSl f then σ 324 3 else -1)), if isSl f then hKp σ f.toNatClampNeg else σ)) none
  | _ => none
theorem ok221 : gFok 221 f221 := by
  intro Lv σ q h hc K hK
  unfold f221 at h
  split at h
  · rename_i q0 f
    obtain ⟨hb, h⟩ := c_no h
    have hb0 := hb
    have e0 := b_eq hb0
    subst e0
    cases h
    exact s221 hK
  · cases h
abbrev gRes (σ : gS) (f : Int32) : Prop := isSl f ∧ ¬ σ 329 f.toNatClampNeg = 0
def aRes (σ : gS) (f : Int32) : Int32 := if isSl f then (if σ 329 f.toNatClampNeg = 0 then -2 else rowAt (σ 328) f.toNatClampNeg 3) else -1
set_option maxRecDepth 20000 in
theorem w222 {σ : gS} {K : gK} {f : Int32} (h : ((¬ (bI ((0 : Int32) ≤ f ∧ f ≤ (1 : Int32))) = 0 → (0 ≤ f ∧ f < 2) ∧ ((¬ (σ 329 f.toNatClampNeg) = 0 → (0 ≤ σ 323 6 ∧ σ 323 6 ≤ 8) ∧ ((0 ≤ (330 * f) ∧ (330 * f) ≤ iN (gln 328 - 330)) ∧ (0 ≤ (0 : Int32) ∧ (0 : Int32) ≤ iN (gln 324 - 330)) ∧ (328 = 324 → (0 : Int32).toNatClampNeg + 330 ≤ (330 * f).toNatClampNeg)) ∧ (0 ≤ (3 : Int32) ∧ (3 : Int32) < 330) ∧ K (some (.int ((grow (hKe σ) 324 (rla ((hKe σ) 328) ((hKe σ) 324) (330 * f).toNatClampNeg (0 : Int32).toNatClampNeg 330)) 324 3))) (grow (hKe σ) 324 (rla ((hKe σ) 328) ((hKe σ) 324) (330 * f).toNatClampNeg (0 : Int32).toNatClampNeg 330))) ∧ ((σ 329 f.toNatClampNeg) = 0 → K (some (.int (-2))) σ))) ∧ ((bI ((0 : Int32) ≤ f ∧ f ≤ (1 : Int32))) = 0 → K (some (.int (-1))) σ))) : gE 222 0 [some (.ref 323), some (.int f)] [] σ K :=
  gw_run (cy := 222) (cuts := []) (inl := []) (pf := gpfP) gpfP_ok 400 (by decide) h
theorem s222 {σ : gS} {K : gK} {f : Int32} (hc : RS σ ∧ RZ σ) (hK : K (some (.int (aRes σ f))) (hOp σ (gRes σ f) (rowAt (σ 328) f.toNatClampNeg))) : gE 222 0 [some (.ref 323), some (.int f)] [] σ K := by
  obtain ⟨⟨⟨h3, h9⟩, hu⟩, hz⟩ := hc
  unfold aRes hOp at hK
  refine w222 ?_
  simp only [bI_0]
  refine ⟨fun h => ?_, fun h => ?_⟩
  · have h := Decidable.not_not.mp h
    rw [if_pos h] at hK
    obtain ⟨e, l⟩ := s01 h
    obtain ⟨m, hm⟩ : ∃ m, f.toNatClampNeg = m := ⟨_, rfl⟩
    have hf := h
    rw [hm] at e l
    obtain ⟨-, x1, x2, x3⟩ := i330m m 1 l (by decide)
    refine ⟨⟨h.1, by rw [e]; exact (iN_lt (m := 2) (by omega) (by decide)).mpr (by omega)⟩, fun h2 => ⟨hu, ⟨?_, by decide, fun h => absurd h (by decide)⟩, by decide, ?_⟩, fun h2 => ?_⟩
    · rw [e]; exact ⟨x2, x3⟩
    · rw [if_neg h2, if_pos (show gRes σ f from ⟨h, h2⟩), hm] at hK
      rw [grow_at, e, x1, z_nat, hKe_324, hKe_ne (by decide) (by decide), rla_row m hz.1]
      exact hK
    · rw [if_pos h2, if_neg (show ¬ gRes σ f from fun q => q.2 h2)] at hK; exact hK
  · rw [if_neg h, if_neg (show ¬ gRes σ f from fun q => h q.1)] at hK; exact hK
noncomputable def f222 : gD := fun Lv σ => match Lv with
  | [some (.ref q0), some (.int f)] => cond (Nat.beq q0 323) (some (some (RS σ ∧ RZ σ), some (.int (aRes σ f)), hOp σ (gRes σ f) (rowAt (σ 328) f.toNatClampNeg))) none
  | _ => none
theorem ok222 : gFok 222 f222 := by
  intro Lv σ q h hc K hK
  unfold f222 at h
  split at h
  · rename_i q0 f
    obtain ⟨hb, h⟩ := c_no h
    have hb0 := hb
    have e0 := b_eq hb0
    subst e0
    cases h
    exact s222 (hc _ rfl) hK
  · cases h
def hUn (σ : gS) : gS := if σ 323 6 = 0 then σ else grow (grow σ 323 (rup (σ 323) 6 (σ 323 6 - 1))) 324 (rowAt (σ 327) (σ 323 6 - 1).toNatClampNeg)
set_option maxRecDepth 20000 in
theorem w223 {σ : gS} {K : gK} (h : ((¬ (σ 323 6) = 0 → ((0 ≤ (330 * ((gup σ 323 6 ((σ 323 6) - 1)) 323 6)) ∧ (330 * ((gup σ 323 6 ((σ 323 6) - 1)) 323 6)) ≤ iN (gln 327 - 330)) ∧ (0 ≤ (0 : Int32) ∧ (0 : Int32) ≤ iN (gln 324 - 330)) ∧ (327 = 324 → (0 : Int32).toNatClampNeg + 330 ≤ (330 * ((gup σ 323 6 ((σ 323 6) - 1)) 323 6)).toNatClampNeg)) ∧ K (some (.int ((grow (gup σ 323 6 ((σ 323 6) - 1)) 324 (rla ((gup σ 323 6 ((σ 323 6) - 1)) 327) ((gup σ 323 6 ((σ 323 6) - 1)) 324) (330 * ((gup σ 323 6 ((σ 323 6) - 1)) 323 6)).toNatClampNeg (0 : Int32).toNatClampNeg 330)) 323 6))) (grow (gup σ 323 6 ((σ 323 6) - 1)) 324 (rla ((gup σ 323 6 ((σ 323 6) - 1)) 327) ((gup σ 323 6 ((σ 323 6) - 1)) 324) (330 * ((gup σ 323 6 ((σ 323 6) - 1)) 323 6)).toNatClampNeg (0 : Int32).toNatClampNeg 330))) ∧ ((σ 323 6) = 0 → K (some (.int (-1))) σ))) : gE 223 0 [some (.ref 323)] [] σ K :=
  gw_run (cy := 223) (cuts := []) (inl := []) (pf := gpfP) gpfP_ok 400 (by decide) h
theorem s223 {σ : gS} {K : gK} (hc : RS σ ∧ RZ σ) (hK : K (some (.int (if σ 323 6 = 0 then -1 else σ 323 6 - 1))) (hUn σ)) : gE 223 0 [some (.ref 323)] [] σ K := by
  obtain ⟨⟨⟨h3, h9⟩, hu⟩, hz⟩ := hc
  unfold hUn at hK
  refine w223 ⟨fun h => ?_, fun h => ?_⟩
  · rw [if_neg h, if_neg h] at hK
    obtain ⟨m, hm, hm7⟩ : ∃ m, σ 323 6 - 1 = iN m ∧ m ≤ 7 := by
      have g0 : 0 ≤ σ 323 6 - 1 := by grind
      obtain ⟨e, l⟩ := iN_of g0
      refine ⟨_, e, ?_⟩
      have g7 : σ 323 6 - 1 ≤ 7 := by grind
      rw [e] at g7
      exact (iN_le (m := 7) l (by decide)).mp g7
    obtain ⟨-, x1, x2, x3⟩ := i330m m 7 hm7 (by decide)
    rw [hm, iN_nat (by omega)] at hK
    simp (disch := decide) only [gup_grow, grow_at, grow_ne, rup_at]
    rw [hm, x1, z_nat, rla_row m hz.1]
    exact ⟨⟨⟨x2, x3⟩, by decide, fun h => absurd h (by decide)⟩, hK⟩
  · rw [if_pos h, if_pos h] at hK; exact hK
noncomputable def f223 : gD := fun Lv σ => match Lv with
  | [some (.ref q0)] => cond (Nat.beq q0 323) (some (some (RS σ ∧ RZ σ), some (.int (if σ 323 6 = 0 then -1 else σ 323 6 - 1)), hUn σ)) none
  | _ => none
theorem ok223 : gFok 223 f223 := by
  intro Lv σ q h hc K hK
  unfold f223 at h
  split at h
  · rename_i q0
    obtain ⟨hb, h⟩ := c_no h
    have hb0 := hb
    have e0 := b_eq hb0
    subst e0
    cases h
    exact s223 (hc _ rfl) hK
  · cases h
/-- the travellers behind moved one place down: k numbers from a on -/
def csh (R : gW) (a k : Nat) : gW := fun j => if a ≤ j ∧ j < a + k then R (j + 10) else R j
theorem csh_0 (R : gW) (a : Nat) : csh R a 0 = R := by funext j; unfold csh; rw [if_neg (by omega)]
theorem csh_s (R : gW) (a k : Nat) : rup (csh R a k) (a + k) (csh R a k (a + k + 10)) = csh R a (k + 1) := by
  funext j
  unfold rup csh
  by_cases h : j = a + k
  · rw [if_pos h, if_neg (by omega), if_pos (by omega), h]
  · rw [if_neg h]
    by_cases h2 : a ≤ j ∧ j < a + k
    · rw [if_pos h2, if_pos (by omega)]
    · rw [if_neg h2, if_neg (by omega)]
/-- traveller t gets off -/
def fOff (R : gW) (t : Nat) : gW := radd (csh (radd (fTe R 4 (iN t) (fld R t 0)) 3 (-1)) (9 + 10 * t) (10 * (nM R - 1 - t))) 8 1
theorem fTe_ne {R : gW} {w a b : Int32} {j : Nat} (hR : 0 ≤ R 209 ∧ R 209 ≤ 40) (h : j < 209 ∨ 330 ≤ j) : fTe R w a b j = R j := by
  have key : ∀ S : gW, S 209 ≤ 39 → 0 ≤ S 209 → fTe0 S w a b j = S j := by
    intro S h1 h2
    obtain ⟨e, l⟩ := iN_of h2
    have l9 : (S 209).toNatClampNeg ≤ 39 := by
      rw [e] at h1
      exact (iN_le (m := 39) l (by decide)).mp h1
    unfold fTe0
    rw [rup_ne (by omega), rup_ne (by omega), rup_ne (by omega), rup_ne (by omega)]
  unfold fTe
  by_cases h40 : R 209 = 40
  · rw [if_pos h40, key _ (by rw [rup_at]; decide) (by rw [rup_at]; decide), rup_ne (by omega)]
    unfold lsh
    rw [if_neg (by omega)]
  · rw [if_neg h40]
    exact key R (by have := hR.2; grind) hR.1
theorem fTe_209 {R : gW} {w a b : Int32} (hR : 0 ≤ R 209 ∧ R 209 ≤ 40) : fTe R w a b 209 = if R 209 = 40 then 40 else R 209 + 1 := by
  unfold fTe
  by_cases h40 : R 209 = 40
  · rw [if_pos h40, if_pos h40]
    unfold fTe0
    rw [rup_at, rup_at]
    decide
  · rw [if_neg h40, if_neg h40]
    unfold fTe0
    rw [rup_at]
theorem fTe_b {R : gW} {w a b : Int32} (hR : 0 ≤ R 209 ∧ R 209 ≤ 40) : 0 ≤ fTe R w a b 209 ∧ fTe R w a b 209 ≤ 40 := by
  rw [fTe_209 hR]
  by_cases h40 : R 209 = 40
  · rw [if_pos h40]; decide
  · rw [if_neg h40]; have := hR.2; have := hR.1; grind
set_option maxRecDepth 20000 in
theorem w218 {σ : gS} {K : gK} {t : Int32} (h : (0 ≤ (9 + 10 * t + (0 : Int32)) ∧ (9 + 10 * t + (0 : Int32)) < 330) ∧ (0 ≤ σ 324 209 ∧ σ 324 209 ≤ 40) ∧ (0 ≤ (3 : Int32) ∧ (3 : Int32) < 330) ∧ (0 ≤ (3 : Int32) ∧ (3 : Int32) < 330) ∧ gE 218 26 [some (.ref 323), some (.int t), none] [] (gup (grow σ 324 (fTe (σ 324) (4 : Int32) t (σ 324 (9 + 10 * t + (0 : Int32)).toNatClampNeg))) 324 3 (((grow σ 324 (fTe (σ 324) (4 : Int32) t (σ 324 (9 + 10 * t + (0 : Int32)).toNatClampNeg))) 324 3) - 1)) K) : gE 218 0 [some (.ref 323), some (.int t), none] [] σ K :=
  gw_run (cy := 218) (cuts := [26, 32, 61, 78]) (inl := []) (pf := gpfP) gpfP_ok 400 (by decide) h
set_option maxRecDepth 20000 in
theorem c218_26 {σ : gS} {K : gK} {l1 : Int32} (h : gE 218 32 [some (.ref 323), some (.int l1), some (.int (9 + 10 * l1 + (0 : Int32)))] [] σ K) : gE 218 26 [some (.ref 323), some (.int l1), none] [] σ K :=
  gw_run (cy := 218) (cuts := [26, 32, 61, 78]) (inl := []) (pf := gpfP) gpfP_ok 400 (by decide) h
set_option maxRecDepth 20000 in
theorem c218_32 {σ : gS} {K : gK} {l1 l2 : Int32} (h : (0 ≤ (3 : Int32) ∧ (3 : Int32) < 330) ∧ ((¬ l2 < (9 + 10 * (σ 324 3) + (0 : Int32)) → (0 ≤ (8 : Int32) ∧ (8 : Int32) < 330) ∧ (0 ≤ (8 : Int32) ∧ (8 : Int32) < 330) ∧ gE 218 78 [some (.ref 323), some (.int l1), some (.int l2)] [] (gup σ 324 8 ((σ 324 8) + 1)) K) ∧ (l2 < (9 + 10 * (σ 324 3) + (0 : Int32)) → (0 ≤ (l2 + 10) ∧ (l2 + 10) < 330) ∧ (0 ≤ l2 ∧ l2 < 330) ∧ gE 218 61 [some (.ref 323), some (.int l1), some (.int l2)] [] (gup σ 324 l2.toNatClampNeg (σ 324 (l2 + 10).toNatClampNeg)) K))) : gE 218 32 [some (.ref 323), some (.int l1), some (.int l2)] [] σ K :=
  gw_run (cy := 218) (cuts := [26, 32, 61, 78]) (inl := []) (pf := gpfP) gpfP_ok 400 (by decide) h
set_option maxRecDepth 20000 in
theorem c218_78 {σ : gS} {K : gK} {l1 l2 : Int32} (h : K none σ) : gE 218 78 [some (.ref 323), some (.int l1), some (.int l2)] [] σ K :=
  gw_run (cy := 218) (cuts := [26, 32, 61, 78]) (inl := []) (pf := gpfP) gpfP_ok 400 (by decide) h
set_option maxRecDepth 20000 in
theorem c218_61 {σ : gS} {K : gK} {l1 l2 : Int32} (h : gE 218 32 [some (.ref 323), some (.int l1), some (.int (l2 + 1))] [] σ K) : gE 218 61 [some (.ref 323), some (.int l1), some (.int l2)] [] σ K :=
  gw_run (cy := 218) (cuts := [26, 32, 61, 78]) (inl := []) (pf := gpfP) gpfP_ok 400 (by decide) h
theorem s218 {σ : gS} {K : gK} {t : Int32} (hc : bN (σ 324) ∧ (0 ≤ t ∧ t < 20) ∧ t.toNatClampNeg < nM (σ 324)) (hK : K none (grow σ 324 (fOff (σ 324) t.toNatClampNeg))) : gE 218 0 [some (.ref 323), some (.int t), none] [] σ K := by
  obtain ⟨⟨h3, h9⟩, ht, hn⟩ := hc
  obtain ⟨e3, l3⟩ := nM_of h3
  obtain ⟨et, lt⟩ := t20 ht
  obtain ⟨m, hm⟩ : ∃ m, t.toNatClampNeg = m := ⟨_, rfl⟩
  rw [hm] at et lt hK hn
  subst et
  refine w218 ⟨ixb0 lt, h9, by decide, by decide, c218_26 ?_⟩
  rw [ix0 lt]
  simp (disch := decide) only [gup_grow, grow_grow, grow_at]
  obtain ⟨Q, hQ⟩ : ∃ Q, Q = radd (fTe (σ 324) 4 (iN m) (fld (σ 324) m 0)) 3 (-1) := ⟨_, rfl⟩
  have hQ2 : rup (fTe (σ 324) 4 (iN m) (σ 324 (9 + 10 * m + 0))) 3 (fTe (σ 324) 4 (iN m) (σ 324 (9 + 10 * m + 0)) 3 - 1) = Q := by
    rw [hQ]
    unfold radd
    rw [Int32.sub_eq_add_neg]
    rfl
  have hQ3 : Q 3 = iN (nM (σ 324) - 1) := by
    rw [← hQ2, rup_at, fTe_ne h9 (by omega), e3]
    exact iN_sub (d := 1) (by omega) (by omega)
  rw [hQ2]
  have e9 : (9 + 10 * iN m + (0 : Int32)) = iN (9 + 10 * m) := by
    show iN 9 + iN 10 * iN m + iN 0 = _
    rw [iN_mul, iN_add, iN_add, Nat.add_zero]
  have en : ∀ k, k < 100 → (9 + 10 * iN k + (0 : Int32)) = iN (9 + 10 * k) := by
    intro k hk
    show iN 9 + iN 10 * iN k + iN 0 = _
    rw [iN_mul, iN_add, iN_add, Nat.add_zero]
  rw [e9]
  unfold fOff at hK
  rw [← hQ] at hK
  have c3 : ∀ k, csh Q (9 + 10 * m) k 3 = iN (nM (σ 324) - 1) := by
    intro k
    unfold csh
    rw [if_neg (by omega)]
    exact hQ3
  have main := g_forI (y := 218) (pc := 32) (K := K) (10 * (nM (σ 324) - 1 - m)) (fun k => [some (.ref 323), some (.int (iN m)), some (.int (iN (9 + 10 * m + k)))]) (fun k => grow σ 324 (csh Q (9 + 10 * m) k)) (fun _ => True) (fun _ => by
    refine c218_32 ⟨by decide, fun h => ⟨by decide, by decide, c218_78 ?_⟩, fun h => ?_⟩
    · simp (disch := decide) only [gup_grow, grow_grow, grow_at]
      exact hK
    · exfalso
      rw [grow_at, c3, en _ (by omega), iN_lt (by omega) (by omega)] at h
      omega) (fun k hk _ ih => by
    have ih := ih trivial
    refine c218_32 ⟨by decide, fun h => ?_, fun h => ?_⟩
    · exfalso
      rw [grow_at, c3, en _ (by omega), iN_lt (by omega) (by omega)] at h
      omega
    · have e10 : (iN (9 + 10 * m + k) + 10 : Int32) = iN (9 + 10 * m + k + 10) := iN_add _ 10
      rw [e10, iN_nat (by omega), iN_nat (by omega)]
      refine ⟨i330 (by omega), i330 (by omega), c218_61 ?_⟩
      rw [gup_grow, grow_grow, grow_at, csh_s, iN_one]
      exact ih) 0 (Nat.zero_le _) trivial
  rw [csh_0] at main
  exact main
noncomputable def f218 : gD := fun Lv σ => match Lv with
  | [some (.ref q0), some (.int t), none] => cond (Nat.beq q0 323) (some (some (bN (σ 324) ∧ (0 ≤ t ∧ t < 20) ∧ t.toNatClampNeg < nM (σ 324)), none, grow σ 324 (fOff (σ 324) t.toNatClampNeg))) none
  | _ => none
theorem ok218 : gFok 218 f218 := by
  intro Lv σ q h hc K hK
  unfold f218 at h
  split at h
  · rename_i q0 t
    obtain ⟨hb, h⟩ := c_no h
    have hb0 := hb
    have e0 := b_eq hb0
    subst e0
    cases h
    exact s218 (hc _ rfl) hK
  · cases h
noncomputable def gpfQ_l : List (Nat × gD) := (218, f218) :: gpfP_l
noncomputable def gpfQ : gP := gpl0 gpfQ_l
theorem gpfQ_ok : gPok gpfQ := gpl0_cons ok218 (gpfP_ok)
-- text 20
/-! THE REFERENCE: stations, the tape, the name on the tape -/
theorem radd_ne {R : gW} {k j : Nat} {x : Int32} (h : ¬ j = k) : radd R k x j = R j := rup_ne h
theorem radd_at (R : gW) (k : Nat) (x : Int32) : radd R k x k = R k + x := rup_at _ _ _
theorem csh_lo {R : gW} {a k j : Nat} (h : j < a ∨ a + k ≤ j) : csh R a k j = R j := by unfold csh; rw [if_neg (by omega)]
theorem nM_iN {R : gW} {n : Nat} (h : R 3 = iN n) (hn : n < 2147483648) : nM R = n := by unfold nM; rw [h, iN_nat hn]
theorem fOff_3 {R : gW} {t : Nat} (hb : bN R) (ht : t < nM R) : fOff R t 3 = iN (nM R - 1) := by
  obtain ⟨e, l⟩ := nM_of hb.1
  unfold fOff
  rw [radd_ne (by decide), csh_lo (by omega), radd_at, fTe_ne hb.2 (by omega), e, ← Int32.sub_eq_add_neg]
  exact iN_sub (d := 1) (by omega) (by omega)
theorem fOff_2 {R : gW} {t : Nat} (hb : bN R) : fOff R t 2 = R 2 := by
  unfold fOff
  rw [radd_ne (by decide), csh_lo (by omega), radd_ne (by decide), fTe_ne hb.2 (by omega)]
theorem fOff_b {R : gW} {t : Nat} (hb : bN R) (ht : t < nM R) : bN (fOff R t) := by
  obtain ⟨e, l⟩ := nM_of hb.1
  refine ⟨?_, ?_⟩
  · rw [fOff_3 hb ht]
    exact ⟨(iN_le (k := 0) (by decide) (by omega)).mpr (by omega), (iN_le (m := 20) (by omega) (by decide)).mpr (by omega)⟩
  · unfold fOff
    rw [radd_ne (by decide), csh_lo (by omega), radd_ne (by decide)]
    exact fTe_b hb.2
def stp1 (R : gW) (k : Nat) : gW := if fld R k 8 = R 2 then fOff R k else R
def stpN : Nat → gW → gW
  | 0, R => R
  | k + 1, R => stpN k (stp1 R k)
/-- one station -/
def fStp (R : gW) : gW := stpN (nM R) (radd R 2 1)
def stm : Nat → gW → gW
  | 0, R => R
  | k + 1, R => fStp (stm k R)
theorem stp1_b {R : gW} {k : Nat} (hb : bN R) (hk : k < nM R) : bN (stp1 R k) ∧ k ≤ nM (stp1 R k) := by
  unfold stp1
  by_cases h : fld R k 8 = R 2
  · rw [if_pos h]
    obtain ⟨e, l⟩ := nM_of hb.1
    refine ⟨fOff_b hb hk, ?_⟩
    rw [nM_iN (fOff_3 hb hk) (by omega)]
    omega
  · rw [if_neg h]
    exact ⟨hb, by omega⟩
theorem stpN_b : ∀ {k : Nat} {R : gW}, bN R → k ≤ nM R → bN (stpN k R)
  | 0, R, hb, _ => hb
  | k + 1, R, hb, hk => by
    obtain ⟨h1, h2⟩ := stp1_b hb (show k < nM R by omega)
    show bN (stpN k (stp1 R k))
    exact stpN_b h1 h2
theorem radd2_b {R : gW} (hb : bN R) : bN (radd R 2 1) ∧ nM (radd R 2 1) = nM R := by
  refine ⟨⟨?_, ?_⟩, ?_⟩
  · rw [radd_ne (by decide)]; exact hb.1
  · rw [radd_ne (by decide)]; exact hb.2
  · unfold nM; rw [radd_ne (by decide)]
theorem fStp_b {R : gW} (hb : bN R) : bN (fStp R) := by
  obtain ⟨h1, h2⟩ := radd2_b hb
  exact stpN_b h1 (by rw [h2]; exact Nat.le_refl _)
theorem stm_b {R : gW} (hb : bN R) : ∀ k, bN (stm k R)
  | 0 => hb
  | k + 1 => fStp_b (stm_b hb k)
set_option maxRecDepth 20000 in
theorem w219 {σ : gS} {K : gK} (h : (0 ≤ (2 : Int32) ∧ (2 : Int32) < 330) ∧ (0 ≤ (2 : Int32) ∧ (2 : Int32) < 330) ∧ gE 219 10 [some (.ref 323), none] [] (gup σ 324 2 ((σ 324 2) + 1)) K) : gE 219 0 [some (.ref 323), none] [] σ K :=
  gw_run (cy := 219) (cuts := [10, 19]) (inl := []) (pf := gpfQ) gpfQ_ok 400 (by decide) h
set_option maxRecDepth 20000 in
theorem c219_10 {σ : gS} {K : gK} (h : (0 ≤ (3 : Int32) ∧ (3 : Int32) < 330) ∧ gE 219 19 [some (.ref 323), some (.int ((σ 324 3) - 1))] [] σ K) : gE 219 10 [some (.ref 323), none] [] σ K :=
  gw_run (cy := 219) (cuts := [10, 19]) (inl := []) (pf := gpfQ) gpfQ_ok 400 (by decide) h
set_option maxRecDepth 20000 in
theorem c219_19 {σ : gS} {K : gK} {l1 : Int32} (h : ((l1 < 0 → K none σ) ∧ (¬ l1 < 0 → (0 ≤ (9 + 10 * l1 + (8 : Int32)) ∧ (9 + 10 * l1 + (8 : Int32)) < 330) ∧ (0 ≤ (2 : Int32) ∧ (2 : Int32) < 330) ∧ ((¬ (σ 324 (9 + 10 * l1 + (8 : Int32)).toNatClampNeg) = (σ 324 2) → gE 219 19 [some (.ref 323), some (.int (l1 + (-1)))] [] σ K) ∧ ((σ 324 (9 + 10 * l1 + (8 : Int32)).toNatClampNeg) = (σ 324 2) → (bN (σ 324) ∧ (0 ≤ l1 ∧ l1 < 20) ∧ l1.toNatClampNeg < nM (σ 324)) ∧ gE 219 19 [some (.ref 323), some (.int (l1 + (-1)))] [] (grow σ 324 (fOff (σ 324) l1.toNatClampNeg)) K))))) : gE 219 19 [some (.ref 323), some (.int l1)] [] σ K :=
  gw_run (cy := 219) (cuts := [10, 19]) (inl := []) (pf := gpfQ) gpfQ_ok 400 (by decide) h
theorem s219 {σ : gS} {K : gK} (hc : bN (σ 324)) (hK : K none (grow σ 324 (fStp (σ 324)))) : gE 219 0 [some (.ref 323), none] [] σ K := by
  have key : ∀ (k : Nat) (R : gW), bN R → k ≤ nM R → K none (grow σ 324 (stpN k R)) → gE 219 19 [some (.ref 323), some (.int (iN k - 1))] [] (grow σ 324 R) K := by
    intro k
    induction k with
    | zero =>
      intro R _ _ hK
      exact c219_19 ⟨fun _ => hK, fun h => absurd (by decide) h⟩
    | succ k ih =>
      intro R hb hk hK
      obtain ⟨e, l⟩ := nM_of hb.1
      have k20 : k < 20 := by omega
      obtain ⟨h1, h2⟩ := stp1_b hb (show k < nM R by omega)
      have ih := ih (stp1 R k) h1 h2 hK
      have ek : iN (k + 1) - 1 = iN k := iN_sub (d := 1) (by omega) (by omega)
      have ek2 : iN k + (-1) = iN k - 1 := (Int32.sub_eq_add_neg ..).symm
      rw [ek]
      refine c219_19 ⟨fun h => absurd h (Int32.not_lt.mpr (b20 k20).1), fun _ => ⟨ixb8 k20, by decide, fun h => ?_, fun h => ⟨⟨?_, b20 k20, ?_⟩, ?_⟩⟩⟩
      · rw [ix8 k20, grow_at] at h
        have e1 : stp1 R k = R := if_neg h
        rw [e1] at ih
        rw [ek2]; exact ih
      · rw [grow_at]; exact hb
      · rw [grow_at, iN_nat (by omega)]; omega
      · rw [ix8 k20, grow_at] at h
        have e1 : stp1 R k = fOff R k := if_pos h
        rw [e1] at ih
        rw [ek2, grow_grow, grow_at, iN_nat (by omega)]; exact ih
  obtain ⟨h1, h2⟩ := radd2_b hc
  obtain ⟨e, l⟩ := nM_of hc.1
  have main := key (nM (σ 324)) (radd (σ 324) 2 1) h1 (by rw [h2]; exact Nat.le_refl _) hK
  refine w219 ⟨by decide, by decide, c219_10 ⟨by decide, ?_⟩⟩
  rw [gup_grow, grow_at, rup_ne (by decide), e]
  exact main
noncomputable def f219 : gD := fun Lv σ => match Lv with
  | [some (.ref q0), none] => cond (Nat.beq q0 323) (some (some (bN (σ 324)), none, grow σ 324 (fStp (σ 324)))) none
  | _ => none
theorem ok219 : gFok 219 f219 := by
  intro Lv σ q h hc K hK
  unfold f219 at h
  split at h
  · rename_i q0
    obtain ⟨hb, h⟩ := c_no h
    have hb0 := hb
    have e0 := b_eq hb0
    subst e0
    cases h
    exact s219 (hc _ rfl) hK
  · cases h
noncomputable def gpfR_l : List (Nat × gD) := (219, f219) :: gpfQ_l
noncomputable def gpfR : gP := gpl0 gpfR_l
theorem gpfR_ok : gPok gpfR := gpl0_cons ok219 (gpfQ_ok)
set_option maxRecDepth 20000 in
theorem w220 {σ : gS} {K : gK} {m : Int32} (h : ((¬ (bI ((1 : Int32) ≤ m ∧ m ≤ (50 : Int32))) = 0 → (0 ≤ (2 : Int32) ∧ (2 : Int32) < 330) ∧ ((¬ 999 < ((σ 324 2) + m) → (0 ≤ σ 323 6 ∧ σ 323 6 ≤ 8) ∧ (0 ≤ (8 : Int32) ∧ (8 : Int32) < 330) ∧ gE 220 43 [some (.ref 323), some (.int m), some (.int ((hKe σ) 324 8)), some (.int 0)] [] (hKe σ) K) ∧ (999 < ((σ 324 2) + m) → K (some (.int (-3))) σ))) ∧ ((bI ((1 : Int32) ≤ m ∧ m ≤ (50 : Int32))) = 0 → K (some (.int (-1))) σ))) : gE 220 0 [some (.ref 323), some (.int m), none, none] [] σ K :=
  gw_run (cy := 220) (cuts := [43]) (inl := []) (pf := gpfR) gpfR_ok 400 (by decide) h
set_option maxRecDepth 20000 in
theorem c220_43 {σ : gS} {K : gK} {l1 l2 l3 : Int32} (h : ((¬ l3 < l1 → (0 ≤ (8 : Int32) ∧ (8 : Int32) < 330) ∧ K (some (.int ((σ 324 8) - l2))) σ) ∧ (l3 < l1 → (bN (σ 324)) ∧ gE 220 43 [some (.ref 323), some (.int l1), some (.int l2), some (.int (l3 + 1))] [] (grow σ 324 (fStp (σ 324))) K))) : gE 220 43 [some (.ref 323), some (.int l1), some (.int l2), some (.int l3)] [] σ K :=
  gw_run (cy := 220) (cuts := [43]) (inl := []) (pf := gpfR) gpfR_ok 400 (by decide) h
abbrev gSta (R : gW) (m : Int32) : Prop := (1 ≤ m ∧ m ≤ 50) ∧ ¬ 999 < R 2 + m
def aSta (R : gW) (m : Int32) : Int32 := if 1 ≤ m ∧ m ≤ 50 then (if 999 < R 2 + m then -3 else stm m.toNatClampNeg R 8 - R 8) else -1
theorem s220 {σ : gS} {K : gK} {m : Int32} (hc : RS σ) (hK : K (some (.int (aSta (σ 324) m))) (hOp σ (gSta (σ 324) m) (stm m.toNatClampNeg (σ 324)))) : gE 220 0 [some (.ref 323), some (.int m), none, none] [] σ K := by
  obtain ⟨hb, hu⟩ := hc
  unfold aSta hOp at hK
  refine w220 ?_
  simp only [bI_0]
  refine ⟨fun h => ?_, fun h => ?_⟩
  · have h := Decidable.not_not.mp h
    rw [if_pos h] at hK
    refine ⟨by decide, fun h2 => ⟨hu, by decide, ?_⟩, fun h2 => ?_⟩
    · rw [if_neg h2, if_pos (show gSta (σ 324) m from ⟨h, h2⟩)] at hK
      obtain ⟨n, hn, hn50⟩ : ∃ n, m = iN n ∧ n ≤ 50 := by
        obtain ⟨e, l⟩ := iN_of (show 0 ≤ m by have := h.1; grind)
        refine ⟨_, e, ?_⟩
        have h5 := h.2
        rw [e] at h5
        exact (iN_le (m := 50) l (by decide)).mp h5
      subst hn
      rw [iN_nat (by omega)] at hK
      rw [hKe_324]
      have main := g_forI (y := 220) (pc := 43) (K := K) n (fun k => [some (.ref 323), some (.int (iN n)), some (.int (σ 324 8)), some (.int (iN k))]) (fun k => grow (hKe σ) 324 (stm k (σ 324))) (fun _ => True) (fun _ => by
        refine c220_43 ⟨fun _ => ⟨by decide, ?_⟩, fun h => ?_⟩
        · rw [grow_at]; exact hK
        · rw [iN_lt (by omega) (by omega)] at h; omega) (fun k hk _ ih => by
        refine c220_43 ⟨fun h => ?_, fun h => ⟨?_, ?_⟩⟩
        · rw [iN_lt (by omega) (by omega)] at h; omega
        · rw [grow_at]; exact stm_b hb k
        · rw [grow_grow, grow_at, iN_one]; exact ih trivial) 0 (Nat.zero_le _) trivial
      have e0 : grow (hKe σ) 324 (stm 0 (σ 324)) = hKe σ := by
        show grow (hKe σ) 324 (σ 324) = _
        rw [← hKe_324 σ, grow_id]
      rw [e0] at main
      exact main
    · rw [if_pos h2, if_neg (show ¬ gSta (σ 324) m from fun q => q.2 h2)] at hK; exact hK
  · rw [if_neg h, if_neg (show ¬ gSta (σ 324) m from fun q => h q.1)] at hK; exact hK
noncomputable def f220 : gD := fun Lv σ => match Lv with
  | [some (.ref q0), some (.int m), none, none] => cond (Nat.beq q0 323) (some (some (RS σ), some (.int (aSta (σ 324) m)), hOp σ (gSta (σ 324) m) (stm m.toNatClampNeg (σ 324)))) none
  | _ => none
theorem ok220 : gFok 220 f220 := by
  intro Lv σ q h hc K hK
  unfold f220 at h
  split at h
  · rename_i q0 m
    obtain ⟨hb, h⟩ := c_no h
    have hb0 := hb
    have e0 := b_eq hb0
    subst e0
    cases h
    exact s220 (hc _ rfl) hK
  · cases h
end
