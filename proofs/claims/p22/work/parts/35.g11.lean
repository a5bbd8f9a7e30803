-- text 11
/-! THE REFERENCE: sums, swaps, rings -/
noncomputable def gpfC_l : List (Nat × gD) := (167, f167) :: (169, f169) :: gpfB_l
noncomputable def gpfC : gP := gpl0 gpfC_l
theorem gpfC_ok : gPok gpfC := gpl0_cons ok167 (gpl0_cons ok169 (gpfB_ok))
theorem b20 {k : Nat} (h : k < 20) : 0 ≤ iN k ∧ iN k < 20 := ⟨(iN_le (k := 0) (by decide) (by omega)).mpr (by omega), (iN_lt (m := 20) (by omega) (by decide)).mpr h⟩
def grow (σ : gS) (p : Nat) (R : gW) : gS := fun b j => if b = p then R j else σ b j
def rup (R : gW) (k : Nat) (x : Int32) : gW := fun j => if j = k then x else R j
theorem grow_at (σ : gS) (p : Nat) (R : gW) : grow σ p R p = R := by funext j; unfold grow; rw [if_pos rfl]
theorem grow_ne {σ : gS} {p q : Nat} {R : gW} (h : ¬ q = p) : grow σ p R q = σ q := by funext j; unfold grow; rw [if_neg h]
theorem grow_grow (σ : gS) (p : Nat) (R S : gW) : grow (grow σ p R) p S = grow σ p S := by
  funext b j; unfold grow
  by_cases h : b = p
  · rw [if_pos h, if_pos h]
  · rw [if_neg h, if_neg h, if_neg h]
theorem grow_id (σ : gS) (p : Nat) : grow σ p (σ p) = σ := by
  funext b j; unfold grow
  by_cases h : b = p
  · rw [if_pos h, h]
  · rw [if_neg h]
theorem gup_grow (σ : gS) (p k : Nat) (x : Int32) : gup σ p k x = grow σ p (rup (σ p) k x) := by
  funext b j; unfold gup grow rup
  by_cases h : b = p
  · rw [if_pos h]
    by_cases h2 : j = k
    · rw [if_pos ⟨h, h2⟩, if_pos h2]
    · rw [if_neg (fun e => h2 e.2), if_neg h2, h]
  · rw [if_neg h, if_neg (fun e => h e.1)]
theorem rup_at (R : gW) (k : Nat) (x : Int32) : rup R k x k = x := by unfold rup; rw [if_pos rfl]
theorem rup_ne {R : gW} {k j : Nat} {x : Int32} (h : ¬ j = k) : rup R k x j = R j := by unfold rup; rw [if_neg h]
/-- two travellers' seats exchanged -/
def rsw (R : gW) (a b : Nat) : gW := rup (rup R (9 + 10 * a) (R (9 + 10 * b))) (9 + 10 * b) (R (9 + 10 * a))
theorem rsw_eq (R : gW) (a b j : Nat) : rsw R a b j = if j = 9 + 10 * b then R (9 + 10 * a) else if j = 9 + 10 * a then R (9 + 10 * b) else R j := rfl
theorem rsw_rsw (R : gW) (a b : Nat) : rsw (rsw R a b) a b = R := by
  funext j
  simp only [rsw_eq]
  grind
theorem rsw_3 (R : gW) (a b : Nat) : rsw R a b 3 = R 3 := by rw [rsw_eq, if_neg (by omega), if_neg (by omega)]
/-- three travellers' seats turned round: the first gets the second's, and on -/
def rtu (R : gW) (a b c : Nat) : gW := rup (rup (rup R (9 + 10 * a) (R (9 + 10 * b))) (9 + 10 * b) (rup R (9 + 10 * a) (R (9 + 10 * b)) (9 + 10 * c))) (9 + 10 * c) (R (9 + 10 * a))
theorem rtu_eq {R : gW} {a b c : Nat} (h : a ≠ b ∧ b ≠ c ∧ a ≠ c) (j : Nat) : rtu R a b c j = if j = 9 + 10 * c then R (9 + 10 * a) else if j = 9 + 10 * b then R (9 + 10 * c) else if j = 9 + 10 * a then R (9 + 10 * b) else R j := by
  unfold rtu rup
  grind
theorem rtu_rtu {R : gW} {a b c : Nat} (h : a ≠ b ∧ b ≠ c ∧ a ≠ c) : rtu (rtu R a b c) c b a = R := by
  funext j
  rw [rtu_eq ⟨fun e => h.2.1 e.symm, fun e => h.1 e.symm, fun e => h.2.2 e.symm⟩]
  simp only [rtu_eq h]
  grind
theorem rtu_3 {R : gW} {a b c : Nat} (h : a ≠ b ∧ b ≠ c ∧ a ≠ c) : rtu R a b c 3 = R 3 := by rw [rtu_eq h, if_neg (by omega), if_neg (by omega), if_neg (by omega)]
def fJa (R : gW) : Int32 := sm (fJo R) (nM R)
def fGr (R : gW) : Int32 := iN (cnt (fun t => decide (fJo R t < 0)) (nM R))
def fBar (R : gW) (f : Int32) : Int32 := iN (cnt (fun t => decide (¬ (fld R t 1 = 1 ∨ f ≤ fld R t 0 / 4))) (nM R))
def fRise (R : gW) (a b w : Nat) : Int32 := fJo (rsw R a b) w - fJo R w
def fRA (R : gW) (a b : Nat) : Int32 := fJa (rsw R a b) - fJa R
def fWhy (R : gW) (a b : Nat) (x : Int32) : Int32 := if ¬ fMay R a (fld R b 0) ∨ ¬ fMay R b (fld R a 0) then 1 else if fld R a 7 < x then 2 else if fRise R a b a < x then 3 else if fRise R a b b < -x then 4 else 0
def fWhyM (R : gW) (t : Nat) (x : Int32) : Int32 := if 0 ≤ fWho R x then 5 else if ¬ fMay R t x then 1 else if fJoy R t x < fJo R t then 6 else 0
def fRR (R : gW) (a b c w : Nat) : Int32 := fJo (rtu R a b c) w - fJo R w
def fWhyR (R : gW) (a b c : Nat) : Int32 := if ¬ fMay R a (fld R b 0) ∨ ¬ fMay R b (fld R c 0) ∨ ¬ fMay R c (fld R a 0) then 1 else if fRR R a b c a < 0 then 6 else if fRR R a b c b < 0 then 6 else if fRR R a b c c < 0 then 6 else 0
def fROR (R : gW) (a b c : Nat) : Int32 := fRR R a b c a + fRR R a b c b + fRR R a b c c
set_option maxRecDepth 20000 in
theorem w170_324 {σ : gS} {K : gK} {t : Int32} (h : (0 ≤ (9 + 10 * t + (0 : Int32)) ∧ (9 + 10 * t + (0 : Int32)) < 330) ∧ ((0 ≤ t ∧ t < 20) ∧ 0 ≤ σ 324 3 ∧ σ 324 3 ≤ 20) ∧ K (some (.int (fJoy (σ 324) t.toNatClampNeg (σ 324 (9 + 10 * t + (0 : Int32)).toNatClampNeg)))) σ) : gE 170 0 [some (.ref 324), some (.int t)] [] σ K :=
  gw_run (cy := 170) (cuts := []) (inl := []) (pf := gpfC) gpfC_ok 400 (by decide) h
theorem s170_324 {σ : gS} {K : gK} {t : Int32} (hc : (0 ≤ t ∧ t < 20) ∧ 0 ≤ σ 324 3 ∧ σ 324 3 ≤ 20) (hK : K (some (.int (fJo (σ 324) t.toNatClampNeg))) σ) : gE 170 0 [some (.ref 324), some (.int t)] [] σ K := by
  obtain ⟨ht, hc⟩ := hc
  obtain ⟨et, lt⟩ := t20 ht
  obtain ⟨mt, nt⟩ : ∃ m, t.toNatClampNeg = m := ⟨_, rfl⟩
  rw [nt] at et lt hK
  subst et
  refine w170_324 ⟨ixb0 lt, ⟨⟨ht, hc⟩, ?_⟩⟩
  rw [ix0 lt, iN_nat (by omega)]
  exact hK
set_option maxRecDepth 20000 in
theorem w170_325 {σ : gS} {K : gK} {t : Int32} (h : (0 ≤ (9 + 10 * t + (0 : Int32)) ∧ (9 + 10 * t + (0 : Int32)) < 330) ∧ ((0 ≤ t ∧ t < 20) ∧ 0 ≤ σ 325 3 ∧ σ 325 3 ≤ 20) ∧ K (some (.int (fJoy (σ 325) t.toNatClampNeg (σ 325 (9 + 10 * t + (0 : Int32)).toNatClampNeg)))) σ) : gE 170 0 [some (.ref 325), some (.int t)] [] σ K :=
  gw_run (cy := 170) (cuts := []) (inl := []) (pf := gpfC) gpfC_ok 400 (by decide) h
theorem s170_325 {σ : gS} {K : gK} {t : Int32} (hc : (0 ≤ t ∧ t < 20) ∧ 0 ≤ σ 325 3 ∧ σ 325 3 ≤ 20) (hK : K (some (.int (fJo (σ 325) t.toNatClampNeg))) σ) : gE 170 0 [some (.ref 325), some (.int t)] [] σ K := by
  obtain ⟨ht, hc⟩ := hc
  obtain ⟨et, lt⟩ := t20 ht
  obtain ⟨mt, nt⟩ : ∃ m, t.toNatClampNeg = m := ⟨_, rfl⟩
  rw [nt] at et lt hK
  subst et
  refine w170_325 ⟨ixb0 lt, ⟨⟨ht, hc⟩, ?_⟩⟩
  rw [ix0 lt, iN_nat (by omega)]
  exact hK
set_option maxRecDepth 20000 in
theorem w170_326 {σ : gS} {K : gK} {t : Int32} (h : (0 ≤ (9 + 10 * t + (0 : Int32)) ∧ (9 + 10 * t + (0 : Int32)) < 330) ∧ ((0 ≤ t ∧ t < 20) ∧ 0 ≤ σ 326 3 ∧ σ 326 3 ≤ 20) ∧ K (some (.int (fJoy (σ 326) t.toNatClampNeg (σ 326 (9 + 10 * t + (0 : Int32)).toNatClampNeg)))) σ) : gE 170 0 [some (.ref 326), some (.int t)] [] σ K :=
  gw_run (cy := 170) (cuts := []) (inl := []) (pf := gpfC) gpfC_ok 400 (by decide) h
theorem s170_326 {σ : gS} {K : gK} {t : Int32} (hc : (0 ≤ t ∧ t < 20) ∧ 0 ≤ σ 326 3 ∧ σ 326 3 ≤ 20) (hK : K (some (.int (fJo (σ 326) t.toNatClampNeg))) σ) : gE 170 0 [some (.ref 326), some (.int t)] [] σ K := by
  obtain ⟨ht, hc⟩ := hc
  obtain ⟨et, lt⟩ := t20 ht
  obtain ⟨mt, nt⟩ : ∃ m, t.toNatClampNeg = m := ⟨_, rfl⟩
  rw [nt] at et lt hK
  subst et
  refine w170_326 ⟨ixb0 lt, ⟨⟨ht, hc⟩, ?_⟩⟩
  rw [ix0 lt, iN_nat (by omega)]
  exact hK
noncomputable def f170 : gD := fun Lv σ => match Lv with
  | [some (.ref p), some (.int t)] => cond (Nat.beq p 324 || Nat.beq p 325 || Nat.beq p 326) (some (some ((0 ≤ t ∧ t < 20) ∧ 0 ≤ σ p 3 ∧ σ p 3 ≤ 20), some (.int (fJo (σ p) t.toNatClampNeg)), σ)) none
  | _ => none
theorem ok170 : gFok 170 f170 := by
  intro Lv σ q h hc K hK
  unfold f170 at h
  split at h
  · rename_i p t
    obtain ⟨hb, h⟩ := c_no h
    have hb0 := hb
    rcases s_or hb0 with hb0 | hb0
    · rcases s_or hb0 with hb0 | hb0
      · have e := b_eq hb0
        subst e
        cases h
        exact s170_324 (hc _ rfl) hK
      · have e := b_eq hb0
        subst e
        cases h
        exact s170_325 (hc _ rfl) hK
    · have e := b_eq hb0
      subst e
      cases h
      exact s170_326 (hc _ rfl) hK
  · cases h
noncomputable def gpfD_l : List (Nat × gD) := (170, f170) :: gpfC_l
noncomputable def gpfD : gP := gpl0 gpfD_l
theorem gpfD_ok : gPok gpfD := gpl0_cons ok170 (gpfC_ok)
set_option maxRecDepth 20000 in
theorem w171_324 {σ : gS} {K : gK} (h : gE 171 4 [some (.ref 324), some (.int 0), some (.int 0)] [] σ K) : gE 171 0 [some (.ref 324), none, none] [] σ K :=
  gw_run (cy := 171) (cuts := [4]) (inl := []) (pf := gpfD) gpfD_ok 400 (by decide) h
set_option maxRecDepth 20000 in
theorem v171_324 {σ : gS} {K : gK} {s t : Int32} (h : (0 ≤ (3 : Int32) ∧ (3 : Int32) < 330) ∧ ((¬ t < (σ 324 3) → K (some (.int s)) σ) ∧ (t < (σ 324 3) → ((0 ≤ t ∧ t < 20) ∧ 0 ≤ σ 324 3 ∧ σ 324 3 ≤ 20) ∧ gE 171 4 [some (.ref 324), some (.int (s + (fJo (σ 324) t.toNatClampNeg))), some (.int (t + 1))] [] σ K))) : gE 171 4 [some (.ref 324), some (.int s), some (.int t)] [] σ K :=
  gw_run (cy := 171) (cuts := [4]) (inl := []) (pf := gpfD) gpfD_ok 400 (by decide) h
theorem s171_324 {σ : gS} {K : gK} (hc : 0 ≤ σ 324 3 ∧ σ 324 3 ≤ 20) (hK : K (some (.int (fJa (σ 324)))) σ) : gE 171 0 [some (.ref 324), none, none] [] σ K := by
  refine w171_324 ?_
  refine g_forI (nM (σ 324)) (fun k => [some (.ref 324), some (.int (sm (fJo (σ 324)) k)), some (.int (iN k))]) (fun _ => σ) (fun _ => True) (fun _ => ?_) (fun k hk _ ih => ?_) 0 (Nat.zero_le _) trivial
  · have hn := (nM_of hc).2
    refine v171_324 ⟨by decide, fun _ => hK, fun h => ?_⟩
    rw [nM_lt hc (by omega)] at h; omega
  · have hn := (nM_of hc).2
    have hk20 : k < 20 := by omega
    refine v171_324 ⟨by decide, fun h => ?_, fun _ => ⟨⟨b20 hk20, hc⟩, ?_⟩⟩
    · rw [nM_lt hc (by omega)] at h; omega
    · rw [iN_nat (by omega), iN_one]
      exact ih trivial
set_option maxRecDepth 20000 in
theorem w171_325 {σ : gS} {K : gK} (h : gE 171 4 [some (.ref 325), some (.int 0), some (.int 0)] [] σ K) : gE 171 0 [some (.ref 325), none, none] [] σ K :=
  gw_run (cy := 171) (cuts := [4]) (inl := []) (pf := gpfD) gpfD_ok 400 (by decide) h
set_option maxRecDepth 20000 in
theorem v171_325 {σ : gS} {K : gK} {s t : Int32} (h : (0 ≤ (3 : Int32) ∧ (3 : Int32) < 330) ∧ ((¬ t < (σ 325 3) → K (some (.int s)) σ) ∧ (t < (σ 325 3) → ((0 ≤ t ∧ t < 20) ∧ 0 ≤ σ 325 3 ∧ σ 325 3 ≤ 20) ∧ gE 171 4 [some (.ref 325), some (.int (s + (fJo (σ 325) t.toNatClampNeg))), some (.int (t + 1))] [] σ K))) : gE 171 4 [some (.ref 325), some (.int s), some (.int t)] [] σ K :=
  gw_run (cy := 171) (cuts := [4]) (inl := []) (pf := gpfD) gpfD_ok 400 (by decide) h
theorem s171_325 {σ : gS} {K : gK} (hc : 0 ≤ σ 325 3 ∧ σ 325 3 ≤ 20) (hK : K (some (.int (fJa (σ 325)))) σ) : gE 171 0 [some (.ref 325), none, none] [] σ K := by
  refine w171_325 ?_
  refine g_forI (nM (σ 325)) (fun k => [some (.ref 325), some (.int (sm (fJo (σ 325)) k)), some (.int (iN k))]) (fun _ => σ) (fun _ => True) (fun _ => ?_) (fun k hk _ ih => ?_) 0 (Nat.zero_le _) trivial
  · have hn := (nM_of hc).2
    refine v171_325 ⟨by decide, fun _ => hK, fun h => ?_⟩
    rw [nM_lt hc (by omega)] at h; omega
  · have hn := (nM_of hc).2
    have hk20 : k < 20 := by omega
    refine v171_325 ⟨by decide, fun h => ?_, fun _ => ⟨⟨b20 hk20, hc⟩, ?_⟩⟩
    · rw [nM_lt hc (by omega)] at h; omega
    · rw [iN_nat (by omega), iN_one]
      exact ih trivial
set_option maxRecDepth 20000 in
theorem w171_326 {σ : gS} {K : gK} (h : gE 171 4 [some (.ref 326), some (.int 0), some (.int 0)] [] σ K) : gE 171 0 [some (.ref 326), none, none] [] σ K :=
  gw_run (cy := 171) (cuts := [4]) (inl := []) (pf := gpfD) gpfD_ok 400 (by decide) h
set_option maxRecDepth 20000 in
theorem v171_326 {σ : gS} {K : gK} {s t : Int32} (h : (0 ≤ (3 : Int32) ∧ (3 : Int32) < 330) ∧ ((¬ t < (σ 326 3) → K (some (.int s)) σ) ∧ (t < (σ 326 3) → ((0 ≤ t ∧ t < 20) ∧ 0 ≤ σ 326 3 ∧ σ 326 3 ≤ 20) ∧ gE 171 4 [some (.ref 326), some (.int (s + (fJo (σ 326) t.toNatClampNeg))), some (.int (t + 1))] [] σ K))) : gE 171 4 [some (.ref 326), some (.int s), some (.int t)] [] σ K :=
  gw_run (cy := 171) (cuts := [4]) (inl := []) (pf := gpfD) gpfD_ok 400 (by decide) h
theorem s171_326 {σ : gS} {K : gK} (hc : 0 ≤ σ 326 3 ∧ σ 326 3 ≤ 20) (hK : K (some (.int (fJa (σ 326)))) σ) : gE 171 0 [some (.ref 326), none, none] [] σ K := by
  refine w171_326 ?_
  refine g_forI (nM (σ 326)) (fun k => [some (.ref 326), some (.int (sm (fJo (σ 326)) k)), some (.int (iN k))]) (fun _ => σ) (fun _ => True) (fun _ => ?_) (fun k hk _ ih => ?_) 0 (Nat.zero_le _) trivial
  · have hn := (nM_of hc).2
    refine v171_326 ⟨by decide, fun _ => hK, fun h => ?_⟩
    rw [nM_lt hc (by omega)] at h; omega
  · have hn := (nM_of hc).2
    have hk20 : k < 20 := by omega
    refine v171_326 ⟨by decide, fun h => ?_, fun _ => ⟨⟨b20 hk20, hc⟩, ?_⟩⟩
    · rw [nM_lt hc (by omega)] at h; omega
    · rw [iN_nat (by omega), iN_one]
      exact ih trivial
noncomputable def f171 : gD := fun Lv σ => match Lv with
  | [some (.ref p), none, none] => cond (Nat.beq p 324 || Nat.beq p 325 || Nat.beq p 326) (some (some (0 ≤ σ p 3 ∧ σ p 3 ≤ 20), some (.int (fJa (σ p))), σ)) none
  | _ => none
theorem ok171 : gFok 171 f171 := by
  intro Lv σ q h hc K hK
  unfold f171 at h
  split at h
  · rename_i p
    obtain ⟨hb, h⟩ := c_no h
    have hb0 := hb
    rcases s_or hb0 with hb0 | hb0
    · rcases s_or hb0 with hb0 | hb0
      · have e := b_eq hb0
        subst e
        cases h
        exact s171_324 (hc _ rfl) hK
      · have e := b_eq hb0
        subst e
        cases h
        exact s171_325 (hc _ rfl) hK
    · have e := b_eq hb0
      subst e
      cases h
      exact s171_326 (hc _ rfl) hK
  · cases h
set_option maxRecDepth 20000 in
theorem w172_324 {σ : gS} {K : gK} (h : gE 172 4 [some (.ref 324), some (.int 0), some (.int 0)] [] σ K) : gE 172 0 [some (.ref 324), none, none] [] σ K :=
  gw_run (cy := 172) (cuts := [4]) (inl := []) (pf := gpfD) gpfD_ok 400 (by decide) h
set_option maxRecDepth 20000 in
theorem v172_324 {σ : gS} {K : gK} {s t : Int32} (h : (0 ≤ (3 : Int32) ∧ (3 : Int32) < 330) ∧ ((¬ t < (σ 324 3) → K (some (.int s)) σ) ∧ (t < (σ 324 3) → ((0 ≤ t ∧ t < 20) ∧ 0 ≤ σ 324 3 ∧ σ 324 3 ≤ 20) ∧ ((¬ (fJo (σ 324) t.toNatClampNeg) < 0 → gE 172 4 [some (.ref 324), some (.int s), some (.int (t + 1))] [] σ K) ∧ ((fJo (σ 324) t.toNatClampNeg) < 0 → gE 172 4 [some (.ref 324), some (.int (s + 1)), some (.int (t + 1))] [] σ K))))) : gE 172 4 [some (.ref 324), some (.int s), some (.int t)] [] σ K :=
  gw_run (cy := 172) (cuts := [4]) (inl := []) (pf := gpfD) gpfD_ok 400 (by decide) h
theorem s172_324 {σ : gS} {K : gK} (hc : 0 ≤ σ 324 3 ∧ σ 324 3 ≤ 20) (hK : K (some (.int (fGr (σ 324)))) σ) : gE 172 0 [some (.ref 324), none, none] [] σ K := by
  refine w172_324 ?_
  refine g_forI (nM (σ 324)) (fun k => [some (.ref 324), some (.int (iN (cnt (fun t => decide (fJo (σ 324) t < 0)) k))), some (.int (iN k))]) (fun _ => σ) (fun _ => True) (fun _ => ?_) (fun k hk _ ih => ?_) 0 (Nat.zero_le _) trivial
  · have hn := (nM_of hc).2
    refine v172_324 ⟨by decide, fun _ => hK, fun h => ?_⟩
    rw [nM_lt hc (by omega)] at h; omega
  · have hn := (nM_of hc).2
    have hk20 : k < 20 := by omega
    refine v172_324 ⟨by decide, fun h => ?_, fun _ => ⟨⟨b20 hk20, hc⟩, ?_⟩⟩
    · rw [nM_lt hc (by omega)] at h; omega
    · rw [iN_nat (by omega), iN_one, iN_one]
      have ih := ih trivial
      refine ⟨fun h => ?_, fun h => ?_⟩
      · rw [cnt_f (fun e => h (of_decide_eq_true e))] at ih
        exact ih
      · rw [cnt_t (decide_eq_true h)] at ih
        exact ih
set_option maxRecDepth 20000 in
theorem w172_325 {σ : gS} {K : gK} (h : gE 172 4 [some (.ref 325), some (.int 0), some (.int 0)] [] σ K) : gE 172 0 [some (.ref 325), none, none] [] σ K :=
  gw_run (cy := 172) (cuts := [4]) (inl := []) (pf := gpfD) gpfD_ok 400 (by decide) h
set_option maxRecDepth 20000 in
theorem v172_325 {σ : gS} {K : gK} {s t : Int32} (h : (0 ≤ (3 : Int32) ∧ (3 : Int32) < 330) ∧ ((¬ t < (σ 325 3) → K (some (.int s)) σ) ∧ (t < (σ 325 3) → ((0 ≤ t ∧ t < 20) ∧ 0 ≤ σ 325 3 ∧ σ 325 3 ≤ 20) ∧ ((¬ (fJo (σ 325) t.toNatClampNeg) < 0 → gE 172 4 [some (.ref 325), some (.int s), some (.int (t + 1))] [] σ K) ∧ ((fJo (σ 325) t.toNatClampNeg) < 0 → gE 172 4 [some (.ref 325), some (.int (s + 1)), some (.int (t + 1))] [] σ K))))) : gE 172 4 [some (.ref 325), some (.int s), some (.int t)] [] σ K :=
  gw_run (cy := 172) (cuts := [4]) (inl := []) (pf := gpfD) gpfD_ok 400 (by decide) h
theorem s172_325 {σ : gS} {K : gK} (hc : 0 ≤ σ 325 3 ∧ σ 325 3 ≤ 20) (hK : K (some (.int (fGr (σ 325)))) σ) : gE 172 0 [some (.ref 325), none, none] [] σ K := by
  refine w172_325 ?_
  refine g_forI (nM (σ 325)) (fun k => [some (.ref 325), some (.int (iN (cnt (fun t => decide (fJo (σ 325) t < 0)) k))), some (.int (iN k))]) (fun _ => σ) (fun _ => True) (fun _ => ?_) (fun k hk _ ih => ?_) 0 (Nat.zero_le _) trivial
  · have hn := (nM_of hc).2
    refine v172_325 ⟨by decide, fun _ => hK, fun h => ?_⟩
    rw [nM_lt hc (by omega)] at h; omega
  · have hn := (nM_of hc).2
    have hk20 : k < 20 := by omega
    refine v172_325 ⟨by decide, fun h => ?_, fun _ => ⟨⟨b20 hk20, hc⟩, ?_⟩⟩
    · rw [nM_lt hc (by omega)] at h; omega
    · rw [iN_nat (by omega), iN_one, iN_one]
      have ih := ih trivial
      refine ⟨fun h => ?_, fun h => ?_⟩
      · rw [cnt_f (fun e => h (of_decide_eq_true e))] at ih
        exact ih
      · rw [cnt_t (decide_eq_true h)] at ih
        exact ih
set_option maxRecDepth 20000 in
theorem w172_326 {σ : gS} {K : gK} (h : gE 172 4 [some (.ref 326), some (.int 0), some (.int 0)] [] σ K) : gE 172 0 [some (.ref 326), none, none] [] σ K :=
  gw_run (cy := 172) (cuts := [4]) (inl := []) (pf := gpfD) gpfD_ok 400 (by decide) h
set_option maxRecDepth 20000 in
theorem v172_326 {σ : gS} {K : gK} {s t : Int32} (h : (0 ≤ (3 : Int32) ∧ (3 : Int32) < 330) ∧ ((¬ t < (σ 326 3) → K (some (.int s)) σ) ∧ (t < (σ 326 3) → ((0 ≤ t ∧ t < 20) ∧ 0 ≤ σ 326 3 ∧ σ 326 3 ≤ 20) ∧ ((¬ (fJo (σ 326) t.toNatClampNeg) < 0 → gE 172 4 [some (.ref 326), some (.int s), some (.int (t + 1))] [] σ K) ∧ ((fJo (σ 326) t.toNatClampNeg) < 0 → gE 172 4 [some (.ref 326), some (.int (s + 1)), some (.int (t + 1))] [] σ K))))) : gE 172 4 [some (.ref 326), some (.int s), some (.int t)] [] σ K :=
  gw_run (cy := 172) (cuts := [4]) (inl := []) (pf := gpfD) gpfD_ok 400 (by decide) h
theorem s172_326 {σ : gS} {K : gK} (hc : 0 ≤ σ 326 3 ∧ σ 326 3 ≤ 20) (hK : K (some (.int (fGr (σ 326)))) σ) : gE 172 0 [some (.ref 326), none, none] [] σ K := by
  refine w172_326 ?_
  refine g_forI (nM (σ 326)) (fun k => [some (.ref 326), some (.int (iN (cnt (fun t => decide (fJo (σ 326) t < 0)) k))), some (.int (iN k))]) (fun _ => σ) (fun _ => True) (fun _ => ?_) (fun k hk _ ih => ?_) 0 (Nat.zero_le _) trivial
  · have hn := (nM_of hc).2
    refine v172_326 ⟨by decide, fun _ => hK, fun h => ?_⟩
    rw [nM_lt hc (by omega)] at h; omega
  · have hn := (nM_of hc).2
    have hk20 : k < 20 := by omega
    refine v172_326 ⟨by decide, fun h => ?_, fun _ => ⟨⟨b20 hk20, hc⟩, ?_⟩⟩
    · rw [nM_lt hc (by omega)] at h; omega
    · rw [iN_nat (by omega), iN_one, iN_one]
      have ih := ih trivial
      refine ⟨fun h => ?_, fun h => ?_⟩
      · rw [cnt_f (fun e => h (of_decide_eq_true e))] at ih
        exact ih
      · rw [cnt_t (decide_eq_true h)] at ih
        exact ih
noncomputable def f172 : gD := fun Lv σ => match Lv with
  | [some (.ref p), none, none] => cond (Nat.beq p 324 || Nat.beq p 325 || Nat.beq p 326) (some (some (0 ≤ σ p 3 ∧ σ p 3 ≤ 20), some (.int (fGr (σ p))), σ)) none
  | _ => none
theorem ok172 : gFok 172 f172 := by
  intro Lv σ q h hc K hK
  unfold f172 at h
  split at h
  · rename_i p
    obtain ⟨hb, h⟩ := c_no h
    have hb0 := hb
    rcases s_or hb0 with hb0 | hb0
    · rcases s_or hb0 with hb0 | hb0
      · have e := b_eq hb0
        subst e
        cases h
        exact s172_324 (hc _ rfl) hK
      · have e := b_eq hb0
        subst e
        cases h
        exact s172_325 (hc _ rfl) hK
    · have e := b_eq hb0
      subst e
      cases h
      exact s172_326 (hc _ rfl) hK
  · cases h
set_option maxRecDepth 20000 in
theorem w212_324 {σ : gS} {K : gK} {f : Int32} (h : gE 212 4 [some (.ref 324), some (.int f), some (.int 0), some (.int 0)] [] σ K) : gE 212 0 [some (.ref 324), some (.int f), none, none] [] σ K :=
  gw_run (cy := 212) (cuts := [4]) (inl := []) (pf := gpfD) gpfD_ok 400 (by decide) h
set_option maxRecDepth 20000 in
theorem v212_324 {σ : gS} {K : gK} {f s t : Int32} (h : (0 ≤ (3 : Int32) ∧ (3 : Int32) < 330) ∧ ((¬ t < (σ 324 3) → K (some (.int s)) σ) ∧ (t < (σ 324 3) → (0 ≤ (9 + 10 * t + (1 : Int32)) ∧ (9 + 10 * t + (1 : Int32)) < 330) ∧ (0 ≤ (9 + 10 * t + (0 : Int32)) ∧ (9 + 10 * t + (0 : Int32)) < 330) ∧ ((¬ (bI ((σ 324 (9 + 10 * t + (1 : Int32)).toNatClampNeg) = 1 ∨ f ≤ (σ 324 (9 + 10 * t + (0 : Int32)).toNatClampNeg) / 4)) = 0 → gE 212 4 [some (.ref 324), some (.int f), some (.int s), some (.int (t + 1))] [] σ K) ∧ ((bI ((σ 324 (9 + 10 * t + (1 : Int32)).toNatClampNeg) = 1 ∨ f ≤ (σ 324 (9 + 10 * t + (0 : Int32)).toNatClampNeg) / 4)) = 0 → gE 212 4 [some (.ref 324), some (.int f), some (.int (s + 1)), some (.int (t + 1))] [] σ K))))) : gE 212 4 [some (.ref 324), some (.int f), some (.int s), some (.int t)] [] σ K :=
  gw_run (cy := 212) (cuts := [4]) (inl := []) (pf := gpfD) gpfD_ok 400 (by decide) h
theorem s212_324 {σ : gS} {K : gK} {f : Int32} (hc : 0 ≤ σ 324 3 ∧ σ 324 3 ≤ 20) (hK : K (some (.int (fBar (σ 324) f))) σ) : gE 212 0 [some (.ref 324), some (.int f), none, none] [] σ K := by
  refine w212_324 ?_
  refine g_forI (nM (σ 324)) (fun k => [some (.ref 324), some (.int f), some (.int (iN (cnt (fun t => decide (¬ (fld (σ 324) t 1 = 1 ∨ f ≤ fld (σ 324) t 0 / 4))) k))), some (.int (iN k))]) (fun _ => σ) (fun _ => True) (fun _ => ?_) (fun k hk _ ih => ?_) 0 (Nat.zero_le _) trivial
  · have hn := (nM_of hc).2
    refine v212_324 ⟨by decide, fun _ => hK, fun h => ?_⟩
    rw [nM_lt hc (by omega)] at h; omega
  · have hn := (nM_of hc).2
    have hk20 : k < 20 := by omega
    refine v212_324 ⟨by decide, fun h => ?_, fun _ => ⟨ixb1 hk20, ixb0 hk20, ?_⟩⟩
    · rw [nM_lt hc (by omega)] at h; omega
    · rw [ix0 hk20, ix1 hk20, iN_one, iN_one, bI_0]
      have ih := ih trivial
      refine ⟨fun h => ?_, fun h => ?_⟩
      · rw [cnt_f (fun e => (of_decide_eq_true e) (Decidable.not_not.mp h))] at ih
        exact ih
      · rw [cnt_t (decide_eq_true h)] at ih
        exact ih
set_option maxRecDepth 20000 in
theorem w212_325 {σ : gS} {K : gK} {f : Int32} (h : gE 212 4 [some (.ref 325), some (.int f), some (.int 0), some (.int 0)] [] σ K) : gE 212 0 [some (.ref 325), some (.int f), none, none] [] σ K :=
  gw_run (cy := 212) (cuts := [4]) (inl := []) (pf := gpfD) gpfD_ok 400 (by decide) h
set_option maxRecDepth 20000 in
theorem v212_325 {σ : gS} {K : gK} {f s t : Int32} (h : (0 ≤ (3 : Int32) ∧ (3 : Int32) < 330) ∧ ((¬ t < (σ 325 3) → K (some (.int s)) σ) ∧ (t < (σ 325 3) → (0 ≤ (9 + 10 * t + (1 : Int32)) ∧ (9 + 10 * t + (1 : Int32)) < 330) ∧ (0 ≤ (9 + 10 * t + (0 : Int32)) ∧ (9 + 10 * t + (0 : Int32)) < 330) ∧ ((¬ (bI ((σ 325 (9 + 10 * t + (1 : Int32)).toNatClampNeg) = 1 ∨ f ≤ (σ 325 (9 + 10 * t + (0 : Int32)).toNatClampNeg) / 4)) = 0 → gE 212 4 [some (.ref 325), some (.int f), some (.int s), some (.int (t + 1))] [] σ K) ∧ ((bI ((σ 325 (9 + 10 * t + (1 : Int32)).toNatClampNeg) = 1 ∨ f ≤ (σ 325 (9 + 10 * t + (0 : Int32)).toNatClampNeg) / 4)) = 0 → gE 212 4 [some (.ref 325), some (.int f), some (.int (s + 1)), some (.int (t + 1))] [] σ K))))) : gE 212 4 [some (.ref 325), some (.int f), some (.int s), some (.int t)] [] σ K :=
  gw_run (cy := 212) (cuts := [4]) (inl := []) (pf := gpfD) gpfD_ok 400 (by decide) h
theorem s212_325 {σ : gS} {K : gK} {f : Int32} (hc : 0 ≤ σ 325 3 ∧ σ 325 3 ≤ 20) (hK : K (some (.int (fBar (σ 325) f))) σ) : gE 212 0 [some (.ref 325), some (.int f), none, none] [] σ K := by
  refine w212_325 ?_
  refine g_forI (nM (σ 325)) (fun k => [some (.ref 325), some (.int f), some (.int (iN (cnt (fun t => decide (¬ (fld (σ 325) t 1 = 1 ∨ f ≤ fld (σ 325) t 0 / 4))) k))), some (.int (iN k))]) (fun _ => σ) (fun _ => True) (fun _ => ?_) (fun k hk _ ih => ?_) 0 (Nat.zero_le _) trivial
  · have hn := (nM_of hc).2
    refine v212_325 ⟨by decide, fun _ => hK, fun h => ?_⟩
    rw [nM_lt hc (by omega)] at h; omega
  · have hn := (nM_of hc).2
    have hk20 : k < 20 := by omega
    refine v212_325 ⟨by decide, fun h => ?_, fun _ => ⟨ixb1 hk20, ixb0 hk20, ?_⟩⟩
    · rw [nM_lt hc (by omega)] at h; omega
    · rw [ix0 hk20, ix1 hk20, iN_one, iN_one, bI_0]
      have ih := ih trivial
      refine ⟨fun h => ?_, fun h => ?_⟩
      · rw [cnt_f (fun e => (of_decide_eq_true e) (Decidable.not_not.mp h))] at ih
        exact ih
      · rw [cnt_t (decide_eq_true h)] at ih
        exact ih
set_option maxRecDepth 20000 in
theorem w212_326 {σ : gS} {K : gK} {f : Int32} (h : gE 212 4 [some (.ref 326), some (.int f), some (.int 0), some (.int 0)] [] σ K) : gE 212 0 [some (.ref 326), some (.int f), none, none] [] σ K :=
  gw_run (cy := 212) (cuts := [4]) (inl := []) (pf := gpfD) gpfD_ok 400 (by decide) h
set_option maxRecDepth 20000 in
theorem v212_326 {σ : gS} {K : gK} {f s t : Int32} (h : (0 ≤ (3 : Int32) ∧ (3 : Int32) < 330) ∧ ((¬ t < (σ 326 3) → K (some (.int s)) σ) ∧ (t < (σ 326 3) → (0 ≤ (9 + 10 * t + (1 : Int32)) ∧ (9 + 10 * t + (1 : Int32)) < 330) ∧ (0 ≤ (9 + 10 * t + (0 : Int32)) ∧ (9 + 10 * t + (0 : Int32)) < 330) ∧ ((¬ (bI ((σ 326 (9 + 10 * t + (1 : Int32)).toNatClampNeg) = 1 ∨ f ≤ (σ 326 (9 + 10 * t + (0 : Int32)).toNatClampNeg) / 4)) = 0 → gE 212 4 [some (.ref 326), some (.int f), some (.int s), some (.int (t + 1))] [] σ K) ∧ ((bI ((σ 326 (9 + 10 * t + (1 : Int32)).toNatClampNeg) = 1 ∨ f ≤ (σ 326 (9 + 10 * t + (0 : Int32)).toNatClampNeg) / 4)) = 0 → gE 212 4 [some (.ref 326), some (.int f), some (.int (s + 1)), some (.int (t + 1))] [] σ K))))) : gE 212 4 [some (.ref 326), some (.int f), some (.int s), some (.int t)] [] σ K :=
  gw_run (cy := 212) (cuts := [4]) (inl := []) (pf := gpfD) gpfD_ok 400 (by decide) h
theorem s212_326 {σ : gS} {K : gK} {f : Int32} (hc : 0 ≤ σ 326 3 ∧ σ 326 3 ≤ 20) (hK : K (some (.int (fBar (σ 326) f))) σ) : gE 212 0 [some (.ref 326), some (.int f), none, none] [] σ K := by
  refine w212_326 ?_
  refine g_forI (nM (σ 326)) (fun k => [some (.ref 326), some (.int f), some (.int (iN (cnt (fun t => decide (¬ (fld (σ 326) t 1 = 1 ∨ f ≤ fld (σ 326) t 0 / 4))) k))), some (.int (iN k))]) (fun _ => σ) (fun _ => True) (fun _ => ?_) (fun k hk _ ih => ?_) 0 (Nat.zero_le _) trivial
  · have hn := (nM_of hc).2
    refine v212_326 ⟨by decide, fun _ => hK, fun h => ?_⟩
    rw [nM_lt hc (by omega)] at h; omega
  · have hn := (nM_of hc).2
    have hk20 : k < 20 := by omega
    refine v212_326 ⟨by decide, fun h => ?_, fun _ => ⟨ixb1 hk20, ixb0 hk20, ?_⟩⟩
    · rw [nM_lt hc (by omega)] at h; omega
    · rw [ix0 hk20, ix1 hk20, iN_one, iN_one, bI_0]
      have ih := ih trivial
      refine ⟨fun h => ?_, fun h => ?_⟩
      · rw [cnt_f (fun e => (of_decide_eq_true e) (Decidable.not_not.mp h))] at ih
        exact ih
      · rw [cnt_t (decide_eq_true h)] at ih
        exact ih
noncomputable def f212 : gD := fun Lv σ => match Lv with
  | [some (.ref p), some (.int f), none, none] => cond (Nat.beq p 324 || Nat.beq p 325 || Nat.beq p 326) (some (some (0 ≤ σ p 3 ∧ σ p 3 ≤ 20), some (.int (fBar (σ p) f)), σ)) none
  | _ => none
theorem ok212 : gFok 212 f212 := by
  intro Lv σ q h hc K hK
  unfold f212 at h
  split at h
  · rename_i p f
    obtain ⟨hb, h⟩ := c_no h
    have hb0 := hb
    rcases s_or hb0 with hb0 | hb0
    · rcases s_or hb0 with hb0 | hb0
      · have e := b_eq hb0
        subst e
        cases h
        exact s212_324 (hc _ rfl) hK
      · have e := b_eq hb0
        subst e
        cases h
        exact s212_325 (hc _ rfl) hK
    · have e := b_eq hb0
      subst e
      cases h
      exact s212_326 (hc _ rfl) hK
  · cases h
set_option maxRecDepth 20000 in
theorem w173_324 {σ : gS} {K : gK} {a b : Int32} (h : (0 ≤ (9 + 10 * a + (0 : Int32)) ∧ (9 + 10 * a + (0 : Int32)) < 330) ∧ (0 ≤ (9 + 10 * b + (0 : Int32)) ∧ (9 + 10 * b + (0 : Int32)) < 330) ∧ (0 ≤ (9 + 10 * a + (0 : Int32)) ∧ (9 + 10 * a + (0 : Int32)) < 330) ∧ (0 ≤ (9 + 10 * b + (0 : Int32)) ∧ (9 + 10 * b + (0 : Int32)) < 330) ∧ K none (gup (gup σ 324 (9 + 10 * a + (0 : Int32)).toNatClampNeg (σ 324 (9 + 10 * b + (0 : Int32)).toNatClampNeg)) 324 (9 + 10 * b + (0 : Int32)).toNatClampNeg (σ 324 (9 + 10 * a + (0 : Int32)).toNatClampNeg))) : gE 173 0 [some (.ref 324), some (.int a), some (.int b), none] [] σ K :=
  gw_run (cy := 173) (cuts := []) (inl := []) (pf := gpfD) gpfD_ok 400 (by decide) h
theorem s173_324 {σ : gS} {K : gK} {a b : Int32} (hc : ((0 ≤ a ∧ a < 20) ∧ (0 ≤ b ∧ b < 20))) (hK : K none (grow σ 324 (rsw (σ 324) a.toNatClampNeg b.toNatClampNeg))) : gE 173 0 [some (.ref 324), some (.int a), some (.int b), none] [] σ K := by
  obtain ⟨ha, hb⟩ := hc
  obtain ⟨ea, la⟩ := t20 ha
  obtain ⟨ma, na⟩ : ∃ m, a.toNatClampNeg = m := ⟨_, rfl⟩
  rw [na] at ea la hK
  subst ea
  obtain ⟨eb, lb⟩ := t20 hb
  obtain ⟨mb, nb⟩ : ∃ m, b.toNatClampNeg = m := ⟨_, rfl⟩
  rw [nb] at eb lb hK
  subst eb
  refine w173_324 ⟨(by first | exact ixb0 la | exact ixb0 lb), (by first | exact ixb0 la | exact ixb0 lb), (by first | exact ixb0 la | exact ixb0 lb), (by first | exact ixb0 la | exact ixb0 lb), ?_⟩
  rw [ix0 la, ix0 lb]
  simp only [gup_grow, grow_grow, grow_at]
  exact hK
set_option maxRecDepth 20000 in
theorem w173_325 {σ : gS} {K : gK} {a b : Int32} (h : (0 ≤ (9 + 10 * a + (0 : Int32)) ∧ (9 + 10 * a + (0 : Int32)) < 330) ∧ (0 ≤ (9 + 10 * b + (0 : Int32)) ∧ (9 + 10 * b + (0 : Int32)) < 330) ∧ (0 ≤ (9 + 10 * a + (0 : Int32)) ∧ (9 + 10 * a + (0 : Int32)) < 330) ∧ (0 ≤ (9 + 10 * b + (0 : Int32)) ∧ (9 + 10 * b + (0 : Int32)) < 330) ∧ K none (gup (gup σ 325 (9 + 10 * a + (0 : Int32)).toNatClampNeg (σ 325 (9 + 10 * b + (0 : Int32)).toNatClampNeg)) 325 (9 + 10 * b + (0 : Int32)).toNatClampNeg (σ 325 (9 + 10 * a + (0 : Int32)).toNatClampNeg))) : gE 173 0 [some (.ref 325), some (.int a), some (.int b), none] [] σ K :=
  gw_run (cy := 173) (cuts := []) (inl := []) (pf := gpfD) gpfD_ok 400 (by decide) h
theorem s173_325 {σ : gS} {K : gK} {a b : Int32} (hc : ((0 ≤ a ∧ a < 20) ∧ (0 ≤ b ∧ b < 20))) (hK : K none (grow σ 325 (rsw (σ 325) a.toNatClampNeg b.toNatClampNeg))) : gE 173 0 [some (.ref 325), some (.int a), some (.int b), none] [] σ K := by
  obtain ⟨ha, hb⟩ := hc
  obtain ⟨ea, la⟩ := t20 ha
  obtain ⟨ma, na⟩ : ∃ m, a.toNatClampNeg = m := ⟨_, rfl⟩
  rw [na] at ea la hK
  subst ea
  obtain ⟨eb, lb⟩ := t20 hb
  obtain ⟨mb, nb⟩ : ∃ m, b.toNatClampNeg = m := ⟨_, rfl⟩
  rw [nb] at eb lb hK
  subst eb
  refine w173_325 ⟨(by first | exact ixb0 la | exact ixb0 lb), (by first | exact ixb0 la | exact ixb0 lb), (by first | exact ixb0 la | exact ixb0 lb), (by first | exact ixb0 la | exact ixb0 lb), ?_⟩
  rw [ix0 la, ix0 lb]
  simp only [gup_grow, grow_grow, grow_at]
  exact hK
set_option maxRecDepth 20000 in
theorem w173_326 {σ : gS} {K : gK} {a b : Int32} (h : (0 ≤ (9 + 10 * a + (0 : Int32)) ∧ (9 + 10 * a + (0 : Int32)) < 330) ∧ (0 ≤ (9 + 10 * b + (0 : Int32)) ∧ (9 + 10 * b + (0 : Int32)) < 330) ∧ (0 ≤ (9 + 10 * a + (0 : Int32)) ∧ (9 + 10 * a + (0 : Int32)) < 330) ∧ (0 ≤ (9 + 10 * b + (0 : Int32)) ∧ (9 + 10 * b + (0 : Int32)) < 330) ∧ K none (gup (gup σ 326 (9 + 10 * a + (0 : Int32)).toNatClampNeg (σ 326 (9 + 10 * b + (0 : Int32)).toNatClampNeg)) 326 (9 + 10 * b + (0 : Int32)).toNatClampNeg (σ 326 (9 + 10 * a + (0 : Int32)).toNatClampNeg))) : gE 173 0 [some (.ref 326), some (.int a), some (.int b), none] [] σ K :=
  gw_run (cy := 173) (cuts := []) (inl := []) (pf := gpfD) gpfD_ok 400 (by decide) h
theorem s173_326 {σ : gS} {K : gK} {a b : Int32} (hc : ((0 ≤ a ∧ a < 20) ∧ (0 ≤ b ∧ b < 20))) (hK : K none (grow σ 326 (rsw (σ 326) a.toNatClampNeg b.toNatClampNeg))) : gE 173 0 [some (.ref 326), some (.int a), some (.int b), none] [] σ K := by
  obtain ⟨ha, hb⟩ := hc
  obtain ⟨ea, la⟩ := t20 ha
  obtain ⟨ma, na⟩ : ∃ m, a.toNatClampNeg = m := ⟨_, rfl⟩
  rw [na] at ea la hK
  subst ea
  obtain ⟨eb, lb⟩ := t20 hb
  obtain ⟨mb, nb⟩ : ∃ m, b.toNatClampNeg = m := ⟨_, rfl⟩
  rw [nb] at eb lb hK
  subst eb
  refine w173_326 ⟨(by first | exact ixb0 la | exact ixb0 lb), (by first | exact ixb0 la | exact ixb0 lb), (by first | exact ixb0 la | exact ixb0 lb), (by first | exact ixb0 la | exact ixb0 lb), ?_⟩
  rw [ix0 la, ix0 lb]
  simp only [gup_grow, grow_grow, grow_at]
  exact hK
noncomputable def f173 : gD := fun Lv σ => match Lv with
  | [some (.ref p), some (.int a), some (.int b), none] => cond (Nat.beq p 324 || Nat.beq p 325 || Nat.beq p 326) (some (some (((0 ≤ a ∧ a < 20) ∧ (0 ≤ b ∧ b < 20))), none, grow σ p (rsw (σ p) a.toNatClampNeg b.toNatClampNeg))) none
  | _ => none
theorem ok173 : gFok 173 f173 := by
  intro Lv σ q h hc K hK
  unfold f173 at h
  split at h
  · rename_i p a b
    obtain ⟨hb, h⟩ := c_no h
    have hb0 := hb
    rcases s_or hb0 with hb0 | hb0
    · rcases s_or hb0 with hb0 | hb0
      · have e := b_eq hb0
        subst e
        cases h
        exact s173_324 (hc _ rfl) hK
      · have e := b_eq hb0
        subst e
        cases h
        exact s173_325 (hc _ rfl) hK
    · have e := b_eq hb0
      subst e
      cases h
      exact s173_326 (hc _ rfl) hK
  · cases h
set_option maxRecDepth 20000 in
theorem w174_324 {σ : gS} {K : gK} {a b c : Int32} (h : (0 ≤ (9 + 10 * a + (0 : Int32)) ∧ (9 + 10 * a + (0 : Int32)) < 330) ∧ (0 ≤ (9 + 10 * b + (0 : Int32)) ∧ (9 + 10 * b + (0 : Int32)) < 330) ∧ (0 ≤ (9 + 10 * a + (0 : Int32)) ∧ (9 + 10 * a + (0 : Int32)) < 330) ∧ (0 ≤ (9 + 10 * c + (0 : Int32)) ∧ (9 + 10 * c + (0 : Int32)) < 330) ∧ (0 ≤ (9 + 10 * b + (0 : Int32)) ∧ (9 + 10 * b + (0 : Int32)) < 330) ∧ (0 ≤ (9 + 10 * c + (0 : Int32)) ∧ (9 + 10 * c + (0 : Int32)) < 330) ∧ K none (gup (gup (gup σ 324 (9 + 10 * a + (0 : Int32)).toNatClampNeg (σ 324 (9 + 10 * b + (0 : Int32)).toNatClampNeg)) 324 (9 + 10 * b + (0 : Int32)).toNatClampNeg ((gup σ 324 (9 + 10 * a + (0 : Int32)).toNatClampNeg (σ 324 (9 + 10 * b + (0 : Int32)).toNatClampNeg)) 324 (9 + 10 * c + (0 : Int32)).toNatClampNeg)) 324 (9 + 10 * c + (0 : Int32)).toNatClampNeg (σ 324 (9 + 10 * a + (0 : Int32)).toNatClampNeg))) : gE 174 0 [some (.ref 324), some (.int a), some (.int b), some (.int c), none] [] σ K :=
  gw_run (cy := 174) (cuts := []) (inl := []) (pf := gpfD) gpfD_ok 400 (by decide) h
theorem s174_324 {σ : gS} {K : gK} {a b c : Int32} (hc : ((0 ≤ a ∧ a < 20) ∧ (0 ≤ b ∧ b < 20) ∧ (0 ≤ c ∧ c < 20))) (hK : K none (grow σ 324 (rtu (σ 324) a.toNatClampNeg b.toNatClampNeg c.toNatClampNeg))) : gE 174 0 [some (.ref 324), some (.int a), some (.int b), some (.int c), none] [] σ K := by
  obtain ⟨ha, hb, hc⟩ := hc
  obtain ⟨ea, la⟩ := t20 ha
  obtain ⟨ma, na⟩ : ∃ m, a.toNatClampNeg = m := ⟨_, rfl⟩
  rw [na] at ea la hK
  subst ea
  obtain ⟨eb, lb⟩ := t20 hb
  obtain ⟨mb, nb⟩ : ∃ m, b.toNatClampNeg = m := ⟨_, rfl⟩
  rw [nb] at eb lb hK
  subst eb
  obtain ⟨ec, lc⟩ := t20 hc
  obtain ⟨mc, nc⟩ : ∃ m, c.toNatClampNeg = m := ⟨_, rfl⟩
  rw [nc] at ec lc hK
  subst ec
  refine w174_324 ⟨(by first | exact ixb0 la | exact ixb0 lb | exact ixb0 lc), (by first | exact ixb0 la | exact ixb0 lb | exact ixb0 lc), (by first | exact ixb0 la | exact ixb0 lb | exact ixb0 lc), (by first | exact ixb0 la | exact ixb0 lb | exact ixb0 lc), (by first | exact ixb0 la | exact ixb0 lb | exact ixb0 lc), (by first | exact ixb0 la | exact ixb0 lb | exact ixb0 lc), ?_⟩
  rw [ix0 la, ix0 lb, ix0 lc]
  simp only [gup_grow, grow_grow, grow_at]
  exact hK
set_option maxRecDepth 20000 in
theorem w174_325 {σ : gS} {K : gK} {a b c : Int32} (h : (0 ≤ (9 + 10 * a + (0 : Int32)) ∧ (9 + 10 * a + (0 : Int32)) < 330) ∧ (0 ≤ (9 + 10 * b + (0 : Int32)) ∧ (9 + 10 * b + (0 : Int32)) < 330) ∧ (0 ≤ (9 + 10 * a + (0 : Int32)) ∧ (9 + 10 * a + (0 : Int32)) < 330) ∧ (0 ≤ (9 + 10 * c + (0 : Int32)) ∧ (9 + 10 * c + (0 : Int32)) < 330) ∧ (0 ≤ (9 + 10 * b + (0 : Int32)) ∧ (9 + 10 * b + (0 : Int32)) < 330) ∧ (0 ≤ (9 + 10 * c + (0 : Int32)) ∧ (9 + 10 * c + (0 : Int32)) < 330) ∧ K none (gup (gup (gup σ 325 (9 + 10 * a + (0 : Int32)).toNatClampNeg (σ 325 (9 + 10 * b + (0 : Int32)).toNatClampNeg)) 325 (9 + 10 * b + (0 : Int32)).toNatClampNeg ((gup σ 325 (9 + 10 * a + (0 : Int32)).toNatClampNeg (σ 325 (9 + 10 * b + (0 : Int32)).toNatClampNeg)) 325 (9 + 10 * c + (0 : Int32)).toNatClampNeg)) 325 (9 + 10 * c + (0 : Int32)).toNatClampNeg (σ 325 (9 + 10 * a + (0 : Int32)).toNatClampNeg))) : gE 174 0 [some (.ref 325), some (.int a), some (.int b), some (.int c), none] [] σ K :=
  gw_run (cy := 174) (cuts := []) (inl := []) (pf := gpfD) gpfD_ok 400 (by decide) h
theorem s174_325 {σ : gS} {K : gK} {a b c : Int32} (hc : ((0 ≤ a ∧ a < 20) ∧ (0 ≤ b ∧ b < 20) ∧ (0 ≤ c ∧ c < 20))) (hK : K none (grow σ 325 (rtu (σ 325) a.toNatClampNeg b.toNatClampNeg c.toNatClampNeg))) : gE 174 0 [some (.ref 325), some (.int a), some (.int b), some (.int c), none] [] σ K := by
  obtain ⟨ha, hb, hc⟩ := hc
  obtain ⟨ea, la⟩ := t20 ha
  obtain ⟨ma, na⟩ : ∃ m, a.toNatClampNeg = m := ⟨_, rfl⟩
  rw [na] at ea la hK
  subst ea
  obtain ⟨eb, lb⟩ := t20 hb
  obtain ⟨mb, nb⟩ : ∃ m, b.toNatClampNeg = m := ⟨_, rfl⟩
  rw [nb] at eb lb hK
  subst eb
  obtain ⟨ec, lc⟩ := t20 hc
  obtain ⟨mc, nc⟩ : ∃ m, c.toNatClampNeg = m := ⟨_, rfl⟩
  rw [nc] at ec lc hK
  subst ec
  refine w174_325 ⟨(by first | exact ixb0 la | exact ixb0 lb | exact ixb0 lc), (by first | exact ixb0 la | exact ixb0 lb | exact ixb0 lc), (by first | exact ixb0 la | exact ixb0 lb | exact ixb0 lc), (by first | exact ixb0 la | exact ixb0 lb | exact ixb0 lc), (by first | exact ixb0 la | exact ixb0 lb | exact ixb0 lc), (by first | exact ixb0 la | exact ixb0 lb | exact ixb0 lc), ?_⟩
  rw [ix0 la, ix0 lb, ix0 lc]
  simp only [gup_grow, grow_grow, grow_at]
  exact hK
set_option maxRecDepth 20000 in
theorem w174_326 {σ : gS} {K : gK} {a b c : Int32} (h : (0 ≤ (9 + 10 * a + (0 : Int32)) ∧ (9 + 10 * a + (0 : Int32)) < 330) ∧ (0 ≤ (9 + 10 * b + (0 : Int32)) ∧ (9 + 10 * b + (0 : Int32)) < 330) ∧ (0 ≤ (9 + 10 * a + (0 : Int32)) ∧ (9 + 10 * a + (0 : Int32)) < 330) ∧ (0 ≤ (9 + 10 * c + (0 : Int32)) ∧ (9 + 10 * c + (0 : Int32)) < 330) ∧ (0 ≤ (9 + 10 * b + (0 : Int32)) ∧ (9 + 10 * b + (0 : Int32)) < 330) ∧ (0 ≤ (9 + 10 * c + (0 : Int32)) ∧ (9 + 10 * c + (0 : Int32)) < 330) ∧ K none (gup (gup (gup σ 326 (9 + 10 * a + (0 : Int32)).toNatClampNeg (σ 326 (9 + 10 * b + (0 : Int32)).toNatClampNeg)) 326 (9 + 10 * b + (0 : Int32)).toNatClampNeg ((gup σ 326 (9 + 10 * a + (0 : Int32)).toNatClampNeg (σ 326 (9 + 10 * b + (0 : Int32)).toNatClampNeg)) 326 (9 + 10 * c + (0 : Int32)).toNatClampNeg)) 326 (9 + 10 * c + (0 : Int32)).toNatClampNeg (σ 326 (9 + 10 * a + (0 : Int32)).toNatClampNeg))) : gE 174 0 [some (.ref 326), some (.int a), some (.int b), some (.int c), none] [] σ K :=
  gw_run (cy := 174) (cuts := []) (inl := []) (pf := gpfD) gpfD_ok 400 (by decide) h
theorem s174_326 {σ : gS} {K : gK} {a b c : Int32} (hc : ((0 ≤ a ∧ a < 20) ∧ (0 ≤ b ∧ b < 20) ∧ (0 ≤ c ∧ c < 20))) (hK : K none (grow σ 326 (rtu (σ 326) a.toNatClampNeg b.toNatClampNeg c.toNatClampNeg))) : gE 174 0 [some (.ref 326), some (.int a), some (.int b), some (.int c), none] [] σ K := by
  obtain ⟨ha, hb, hc⟩ := hc
  obtain ⟨ea, la⟩ := t20 ha
  obtain ⟨ma, na⟩ : ∃ m, a.toNatClampNeg = m := ⟨_, rfl⟩
  rw [na] at ea la hK
  subst ea
  obtain ⟨eb, lb⟩ := t20 hb
  obtain ⟨mb, nb⟩ : ∃ m, b.toNatClampNeg = m := ⟨_, rfl⟩
  rw [nb] at eb lb hK
  subst eb
  obtain ⟨ec, lc⟩ := t20 hc
  obtain ⟨mc, nc⟩ : ∃ m, c.toNatClampNeg = m := ⟨_, rfl⟩
  rw [nc] at ec lc hK
  subst ec
  refine w174_326 ⟨(by first | exact ixb0 la | exact ixb0 lb | exact ixb0 lc), (by first | exact ixb0 la | exact ixb0 lb | exact ixb0 lc), (by first | exact ixb0 la | exact ixb0 lb | exact ixb0 lc), (by first | exact ixb0 la | exact ixb0 lb | exact ixb0 lc), (by first | exact ixb0 la | exact ixb0 lb | exact ixb0 lc), (by first | exact ixb0 la | exact ixb0 lb | exact ixb0 lc), ?_⟩
  rw [ix0 la, ix0 lb, ix0 lc]
  simp only [gup_grow, grow_grow, grow_at]
  exact hK
noncomputable def f174 : gD := fun Lv σ => match Lv with
  | [some (.ref p), some (.int a), some (.int b), some (.int c), none] => cond (Nat.beq p 324 || Nat.beq p 325 || Nat.beq p 326) (some (some (((0 ≤ a ∧ a < 20) ∧ (0 ≤ b ∧ b < 20) ∧ (0 ≤ c ∧ c < 20))), none, grow σ p (rtu (σ p) a.toNatClampNeg b.toNatClampNeg c.toNatClampNeg))) none
  | _ => none
theorem ok174 : gFok 174 f174 := by
  intro Lv σ q h hc K hK
  unfold f174 at h
  split at h
  · rename_i p a b c
    obtain ⟨hb, h⟩ := c_no h
    have hb0 := hb
    rcases s_or hb0 with hb0 | hb0
    · rcases s_or hb0 with hb0 | hb0
      · have e := b_eq hb0
        subst e
        cases h
        exact s174_324 (hc _ rfl) hK
      · have e := b_eq hb0
        subst e
        cases h
        exact s174_325 (hc _ rfl) hK
    · have e := b_eq hb0
      subst e
      cases h
      exact s174_326 (hc _ rfl) hK
  · cases h
noncomputable def gpfE_l : List (Nat × gD) := (171, f171) :: (172, f172) :: (212, f212) :: (173, f173) :: (174, f174) :: gpfD_l
noncomputable def gpfE : gP := gpl0 gpfE_l
theorem gpfE_ok : gPok gpfE := gpl0_cons ok171 (gpl0_cons ok172 (gpl0_cons ok212 (gpl0_cons ok173 (gpl0_cons ok174 (gpfD_ok)))))
set_option maxRecDepth 20000 in
theorem w175_324 {σ : gS} {K : gK} {a b w : Int32} (h : ((0 ≤ w ∧ w < 20) ∧ 0 ≤ σ 324 3 ∧ σ 324 3 ≤ 20) ∧ (((0 ≤ a ∧ a < 20) ∧ (0 ≤ b ∧ b < 20))) ∧ ((0 ≤ w ∧ w < 20) ∧ 0 ≤ (grow σ 324 (rsw (σ 324) a.toNatClampNeg b.toNatClampNeg)) 324 3 ∧ (grow σ 324 (rsw (σ 324) a.toNatClampNeg b.toNatClampNeg)) 324 3 ≤ 20) ∧ (((0 ≤ a ∧ a < 20) ∧ (0 ≤ b ∧ b < 20))) ∧ K (some (.int ((fJo ((grow σ 324 (rsw (σ 324) a.toNatClampNeg b.toNatClampNeg)) 324) w.toNatClampNeg) - (fJo (σ 324) w.toNatClampNeg)))) (grow (grow σ 324 (rsw (σ 324) a.toNatClampNeg b.toNatClampNeg)) 324 (rsw ((grow σ 324 (rsw (σ 324) a.toNatClampNeg b.toNatClampNeg)) 324) a.toNatClampNeg b.toNatClampNeg))) : gE 175 0 [some (.ref 324), some (.int a), some (.int b), some (.int w), none, none] [] σ K :=
  gw_run (cy := 175) (cuts := []) (inl := []) (pf := gpfE) gpfE_ok 400 (by decide) h
theorem s175_324 {σ : gS} {K : gK} {a b w : Int32} (hc : ((0 ≤ a ∧ a < 20) ∧ (0 ≤ b ∧ b < 20)) ∧ (0 ≤ w ∧ w < 20) ∧ 0 ≤ σ 324 3 ∧ σ 324 3 ≤ 20) (hK : K (some (.int (fRise (σ 324) a.toNatClampNeg b.toNatClampNeg w.toNatClampNeg))) σ) : gE 175 0 [some (.ref 324), some (.int a), some (.int b), some (.int w), none, none] [] σ K := by
  obtain ⟨hab, hw, hc⟩ := hc
  have h3 : ∀ a b, 0 ≤ (grow σ 324 (rsw (σ 324) a b)) 324 3 ∧ (grow σ 324 (rsw (σ 324) a b)) 324 3 ≤ 20 := fun a b => by rw [grow_at, rsw_3]; exact hc
  refine w175_324 ⟨⟨hw, hc⟩, hab, ⟨hw, h3 _ _⟩, hab, ?_⟩
  simp only [grow_grow, grow_at, rsw_rsw, grow_id]
  exact hK
set_option maxRecDepth 20000 in
theorem w175_325 {σ : gS} {K : gK} {a b w : Int32} (h : ((0 ≤ w ∧ w < 20) ∧ 0 ≤ σ 325 3 ∧ σ 325 3 ≤ 20) ∧ (((0 ≤ a ∧ a < 20) ∧ (0 ≤ b ∧ b < 20))) ∧ ((0 ≤ w ∧ w < 20) ∧ 0 ≤ (grow σ 325 (rsw (σ 325) a.toNatClampNeg b.toNatClampNeg)) 325 3 ∧ (grow σ 325 (rsw (σ 325) a.toNatClampNeg b.toNatClampNeg)) 325 3 ≤ 20) ∧ (((0 ≤ a ∧ a < 20) ∧ (0 ≤ b ∧ b < 20))) ∧ K (some (.int ((fJo ((grow σ 325 (rsw (σ 325) a.toNatClampNeg b.toNatClampNeg)) 325) w.toNatClampNeg) - (fJo (σ 325) w.toNatClampNeg)))) (grow (grow σ 325 (rsw (σ 325) a.toNatClampNeg b.toNatClampNeg)) 325 (rsw ((grow σ 325 (rsw (σ 325) a.toNatClampNeg b.toNatClampNeg)) 325) a.toNatClampNeg b.toNatClampNeg))) : gE 175 0 [some (.ref 325), some (.int a), some (.int b), some (.int w), none, none] [] σ K :=
  gw_run (cy := 175) (cuts := []) (inl := []) (pf := gpfE) gpfE_ok 400 (by decide) h
theorem s175_325 {σ : gS} {K : gK} {a b w : Int32} (hc : ((0 ≤ a ∧ a < 20) ∧ (0 ≤ b ∧ b < 20)) ∧ (0 ≤ w ∧ w < 20) ∧ 0 ≤ σ 325 3 ∧ σ 325 3 ≤ 20) (hK : K (some (.int (fRise (σ 325) a.toNatClampNeg b.toNatClampNeg w.toNatClampNeg))) σ) : gE 175 0 [some (.ref 325), some (.int a), some (.int b), some (.int w), none, none] [] σ K := by
  obtain ⟨hab, hw, hc⟩ := hc
  have h3 : ∀ a b, 0 ≤ (grow σ 325 (rsw (σ 325) a b)) 325 3 ∧ (grow σ 325 (rsw (σ 325) a b)) 325 3 ≤ 20 := fun a b => by rw [grow_at, rsw_3]; exact hc
  refine w175_325 ⟨⟨hw, hc⟩, hab, ⟨hw, h3 _ _⟩, hab, ?_⟩
  simp only [grow_grow, grow_at, rsw_rsw, grow_id]
  exact hK
set_option maxRecDepth 20000 in
theorem w175_326 {σ : gS} {K : gK} {a b w : Int32} (h : ((0 ≤ w ∧ w < 20) ∧ 0 ≤ σ 326 3 ∧ σ 326 3 ≤ 20) ∧ (((0 ≤ a ∧ a < 20) ∧ (0 ≤ b ∧ b < 20))) ∧ ((0 ≤ w ∧ w < 20) ∧ 0 ≤ (grow σ 326 (rsw (σ 326) a.toNatClampNeg b.toNatClampNeg)) 326 3 ∧ (grow σ 326 (rsw (σ 326) a.toNatClampNeg b.toNatClampNeg)) 326 3 ≤ 20) ∧ (((0 ≤ a ∧ a < 20) ∧ (0 ≤ b ∧ b < 20))) ∧ K (some (.int ((fJo ((grow σ 326 (rsw (σ 326) a.toNatClampNeg b.toNatClampNeg)) 326) w.toNatClampNeg) - (fJo (σ 326) w.toNatClampNeg)))) (grow (grow σ 326 (rsw (σ 326) a.toNatClampNeg b.toNatClampNeg)) 326 (rsw ((grow σ 326 (rsw (σ 326) a.toNatClampNeg b.toNatClampNeg)) 326) a.toNatClampNeg b.toNatClampNeg))) : gE 175 0 [some (.ref 326), some (.int a), some (.int b), some (.int w), none, none] [] σ K :=
  gw_run (cy := 175) (cuts := []) (inl := []) (pf := gpfE) gpfE_ok 400 (by decide) h
theorem s175_326 {σ : gS} {K : gK} {a b w : Int32} (hc : ((0 ≤ a ∧ a < 20) ∧ (0 ≤ b ∧ b < 20)) ∧ (0 ≤ w ∧ w < 20) ∧ 0 ≤ σ 326 3 ∧ σ 326 3 ≤ 20) (hK : K (some (.int (fRise (σ 326) a.toNatClampNeg b.toNatClampNeg w.toNatClampNeg))) σ) : gE 175 0 [some (.ref 326), some (.int a), some (.int b), some (.int w), none, none] [] σ K := by
  obtain ⟨hab, hw, hc⟩ := hc
  have h3 : ∀ a b, 0 ≤ (grow σ 326 (rsw (σ 326) a b)) 326 3 ∧ (grow σ 326 (rsw (σ 326) a b)) 326 3 ≤ 20 := fun a b => by rw [grow_at, rsw_3]; exact hc
  refine w175_326 ⟨⟨hw, hc⟩, hab, ⟨hw, h3 _ _⟩, hab, ?_⟩
  simp only [grow_grow, grow_at, rsw_rsw, grow_id]
  exact hK
noncomputable def f175 : gD := fun Lv σ => match Lv with
  | [some (.ref p), some (.int a), some (.int b), some (.int w), none, none] => cond (Nat.beq p 324 || Nat.beq p 325 || Nat.beq p 326) (some (some (((0 ≤ a ∧ a < 20) ∧ (0 ≤ b ∧ b < 20)) ∧ (0 ≤ w ∧ w < 20) ∧ 0 ≤ σ p 3 ∧ σ p 3 ≤ 20), some (.int (fRise (σ p) a.toNatClampNeg b.toNatClampNeg w.toNatClampNeg)), σ)) none
  | _ => none
theorem ok175 : gFok 175 f175 := by
  intro Lv σ q h hc K hK
  unfold f175 at h
  split at h
  · rename_i p a b w
    obtain ⟨hb, h⟩ := c_no h
    have hb0 := hb
    rcases s_or hb0 with hb0 | hb0
    · rcases s_or hb0 with hb0 | hb0
      · have e := b_eq hb0
        subst e
        cases h
        exact s175_324 (hc _ rfl) hK
      · have e := b_eq hb0
        subst e
        cases h
        exact s175_325 (hc _ rfl) hK
    · have e := b_eq hb0
      subst e
      cases h
      exact s175_326 (hc _ rfl) hK
  · cases h
noncomputable def gpfF_l : List (Nat × gD) := (175, f175) :: gpfE_l
noncomputable def gpfF : gP := gpl0 gpfF_l
theorem gpfF_ok : gPok gpfF := gpl0_cons ok175 (gpfE_ok)
set_option maxRecDepth 20000 in
theorem w176_324 {σ : gS} {K : gK} {a b x : Int32} (h : (0 ≤ (9 + 10 * b + (0 : Int32)) ∧ (9 + 10 * b + (0 : Int32)) < 330) ∧ (0 ≤ a ∧ a < 20) ∧ (((bI (fMay (σ 324) a.toNatClampNeg (σ 324 (9 + 10 * b + (0 : Int32)).toNatClampNeg))) = 0 → K (some (.int 1)) σ) ∧ (¬ (bI (fMay (σ 324) a.toNatClampNeg (σ 324 (9 + 10 * b + (0 : Int32)).toNatClampNeg))) = 0 → (0 ≤ (9 + 10 * a + (0 : Int32)) ∧ (9 + 10 * a + (0 : Int32)) < 330) ∧ (0 ≤ b ∧ b < 20) ∧ ((¬ (bI (fMay (σ 324) b.toNatClampNeg (σ 324 (9 + 10 * a + (0 : Int32)).toNatClampNeg))) = 0 → (0 ≤ (9 + 10 * a + (7 : Int32)) ∧ (9 + 10 * a + (7 : Int32)) < 330) ∧ ((¬ (σ 324 (9 + 10 * a + (7 : Int32)).toNatClampNeg) < x → (((0 ≤ a ∧ a < 20) ∧ (0 ≤ b ∧ b < 20)) ∧ (0 ≤ a ∧ a < 20) ∧ 0 ≤ σ 324 3 ∧ σ 324 3 ≤ 20) ∧ ((¬ (fRise (σ 324) a.toNatClampNeg b.toNatClampNeg a.toNatClampNeg) < x → (((0 ≤ a ∧ a < 20) ∧ (0 ≤ b ∧ b < 20)) ∧ (0 ≤ b ∧ b < 20) ∧ 0 ≤ σ 324 3 ∧ σ 324 3 ≤ 20) ∧ ((¬ (fRise (σ 324) a.toNatClampNeg b.toNatClampNeg b.toNatClampNeg) < (-x) → K (some (.int 0)) σ) ∧ ((fRise (σ 324) a.toNatClampNeg b.toNatClampNeg b.toNatClampNeg) < (-x) → K (some (.int 4)) σ))) ∧ ((fRise (σ 324) a.toNatClampNeg b.toNatClampNeg a.toNatClampNeg) < x → K (some (.int 3)) σ))) ∧ ((σ 324 (9 + 10 * a + (7 : Int32)).toNatClampNeg) < x → K (some (.int 2)) σ))) ∧ ((bI (fMay (σ 324) b.toNatClampNeg (σ 324 (9 + 10 * a + (0 : Int32)).toNatClampNeg))) = 0 → K (some (.int 1)) σ))))) : gE 176 0 [some (.ref 324), some (.int a), some (.int b), some (.int x)] [] σ K :=
  gw_run (cy := 176) (cuts := []) (inl := []) (pf := gpfF) gpfF_ok 400 (by decide) h
theorem s176_324 {σ : gS} {K : gK} {a b x : Int32} (hc : ((0 ≤ a ∧ a < 20) ∧ (0 ≤ b ∧ b < 20)) ∧ 0 ≤ σ 324 3 ∧ σ 324 3 ≤ 20) (hK : K (some (.int (fWhy (σ 324) a.toNatClampNeg b.toNatClampNeg x))) σ) : gE 176 0 [some (.ref 324), some (.int a), some (.int b), some (.int x)] [] σ K := by
  obtain ⟨⟨ha, hb⟩, hc⟩ := hc
  obtain ⟨ea, la⟩ := t20 ha
  obtain ⟨ma, na⟩ : ∃ m, a.toNatClampNeg = m := ⟨_, rfl⟩
  rw [na] at ea la hK
  subst ea
  obtain ⟨eb, lb⟩ := t20 hb
  obtain ⟨mb, nb⟩ : ∃ m, b.toNatClampNeg = m := ⟨_, rfl⟩
  rw [nb] at eb lb hK
  subst eb
  have na : (iN ma).toNatClampNeg = ma := iN_nat (by omega)
  have nb : (iN mb).toNatClampNeg = mb := iN_nat (by omega)
  have a0 := ixb0 la
  have b0 := ixb0 lb
  have a7 := ixb7 la
  refine w176_324 ?_
  rw [ix0 la, ix0 lb, ix7 la, na, nb]
  simp only [bI_0]
  unfold fWhy at hK
  unfold fld at hK
  grind
set_option maxRecDepth 20000 in
theorem w176_325 {σ : gS} {K : gK} {a b x : Int32} (h : (0 ≤ (9 + 10 * b + (0 : Int32)) ∧ (9 + 10 * b + (0 : Int32)) < 330) ∧ (0 ≤ a ∧ a < 20) ∧ (((bI (fMay (σ 325) a.toNatClampNeg (σ 325 (9 + 10 * b + (0 : Int32)).toNatClampNeg))) = 0 → K (some (.int 1)) σ) ∧ (¬ (bI (fMay (σ 325) a.toNatClampNeg (σ 325 (9 + 10 * b + (0 : Int32)).toNatClampNeg))) = 0 → (0 ≤ (9 + 10 * a + (0 : Int32)) ∧ (9 + 10 * a + (0 : Int32)) < 330) ∧ (0 ≤ b ∧ b < 20) ∧ ((¬ (bI (fMay (σ 325) b.toNatClampNeg (σ 325 (9 + 10 * a + (0 : Int32)).toNatClampNeg))) = 0 → (0 ≤ (9 + 10 * a + (7 : Int32)) ∧ (9 + 10 * a + (7 : Int32)) < 330) ∧ ((¬ (σ 325 (9 + 10 * a + (7 : Int32)).toNatClampNeg) < x → (((0 ≤ a ∧ a < 20) ∧ (0 ≤ b ∧ b < 20)) ∧ (0 ≤ a ∧ a < 20) ∧ 0 ≤ σ 325 3 ∧ σ 325 3 ≤ 20) ∧ ((¬ (fRise (σ 325) a.toNatClampNeg b.toNatClampNeg a.toNatClampNeg) < x → (((0 ≤ a ∧ a < 20) ∧ (0 ≤ b ∧ b < 20)) ∧ (0 ≤ b ∧ b < 20) ∧ 0 ≤ σ 325 3 ∧ σ 325 3 ≤ 20) ∧ ((¬ (fRise (σ 325) a.toNatClampNeg b.toNatClampNeg b.toNatClampNeg) < (-x) → K (some (.int 0)) σ) ∧ ((fRise (σ 325) a.toNatClampNeg b.toNatClampNeg b.toNatClampNeg) < (-x) → K (some (.int 4)) σ))) ∧ ((fRise (σ 325) a.toNatClampNeg b.toNatClampNeg a.toNatClampNeg) < x → K (some (.int 3)) σ))) ∧ ((σ 325 (9 + 10 * a + (7 : Int32)).toNatClampNeg) < x → K (some (.int 2)) σ))) ∧ ((bI (fMay (σ 325) b.toNatClampNeg (σ 325 (9 + 10 * a + (0 : Int32)).toNatClampNeg))) = 0 → K (some (.int 1)) σ))))) : gE 176 0 [some (.ref 325), some (.int a), some (.int b), some (.int x)] [] σ K :=
  gw_run (cy := 176) (cuts := []) (inl := []) (pf := gpfF) gpfF_ok 400 (by decide) h
theorem s176_325 {σ : gS} {K : gK} {a b x : Int32} (hc : ((0 ≤ a ∧ a < 20) ∧ (0 ≤ b ∧ b < 20)) ∧ 0 ≤ σ 325 3 ∧ σ 325 3 ≤ 20) (hK : K (some (.int (fWhy (σ 325) a.toNatClampNeg b.toNatClampNeg x))) σ) : gE 176 0 [some (.ref 325), some (.int a), some (.int b), some (.int x)] [] σ K := by
  obtain ⟨⟨ha, hb⟩, hc⟩ := hc
  obtain ⟨ea, la⟩ := t20 ha
  obtain ⟨ma, na⟩ : ∃ m, a.toNatClampNeg = m := ⟨_, rfl⟩
  rw [na] at ea la hK
  subst ea
  obtain ⟨eb, lb⟩ := t20 hb
  obtain ⟨mb, nb⟩ : ∃ m, b.toNatClampNeg = m := ⟨_, rfl⟩
  rw [nb] at eb lb hK
  subst eb
  have na : (iN ma).toNatClampNeg = ma := iN_nat (by omega)
  have nb : (iN mb).toNatClampNeg = mb := iN_nat (by omega)
  have a0 := ixb0 la
  have b0 := ixb0 lb
  have a7 := ixb7 la
  refine w176_325 ?_
  rw [ix0 la, ix0 lb, ix7 la, na, nb]
  simp only [bI_0]
  unfold fWhy at hK
  unfold fld at hK
  grind
set_option maxRecDepth 20000 in
theorem w176_326 {σ : gS} {K : gK} {a b x : Int32} (h : (0 ≤ (9 + 10 * b + (0 : Int32)) ∧ (9 + 10 * b + (0 : Int32)) < 330) ∧ (0 ≤ a ∧ a < 20) ∧ (((bI (fMay (σ 326) a.toNatClampNeg (σ 326 (9 + 10 * b + (0 : Int32)).toNatClampNeg))) = 0 → K (some (.int 1)) σ) ∧ (¬ (bI (fMay (σ 326) a.toNatClampNeg (σ 326 (9 + 10 * b + (0 : Int32)).toNatClampNeg))) = 0 → (0 ≤ (9 + 10 * a + (0 : Int32)) ∧ (9 + 10 * a + (0 : Int32)) < 330) ∧ (0 ≤ b ∧ b < 20) ∧ ((¬ (bI (fMay (σ 326) b.toNatClampNeg (σ 326 (9 + 10 * a + (0 : Int32)).toNatClampNeg))) = 0 → (0 ≤ (9 + 10 * a + (7 : Int32)) ∧ (9 + 10 * a + (7 : Int32)) < 330) ∧ ((¬ (σ 326 (9 + 10 * a + (7 : Int32)).toNatClampNeg) < x → (((0 ≤ a ∧ a < 20) ∧ (0 ≤ b ∧ b < 20)) ∧ (0 ≤ a ∧ a < 20) ∧ 0 ≤ σ 326 3 ∧ σ 326 3 ≤ 20) ∧ ((¬ (fRise (σ 326) a.toNatClampNeg b.toNatClampNeg a.toNatClampNeg) < x → (((0 ≤ a ∧ a < 20) ∧ (0 ≤ b ∧ b < 20)) ∧ (0 ≤ b ∧ b < 20) ∧ 0 ≤ σ 326 3 ∧ σ 326 3 ≤ 20) ∧ ((¬ (fRise (σ 326) a.toNatClampNeg b.toNatClampNeg b.toNatClampNeg) < (-x) → K (some (.int 0)) σ) ∧ ((fRise (σ 326) a.toNatClampNeg b.toNatClampNeg b.toNatClampNeg) < (-x) → K (some (.int 4)) σ))) ∧ ((fRise (σ 326) a.toNatClampNeg b.toNatClampNeg a.toNatClampNeg) < x → K (some (.int 3)) σ))) ∧ ((σ 326 (9 + 10 * a + (7 : Int32)).toNatClampNeg) < x → K (some (.int 2)) σ))) ∧ ((bI (fMay (σ 326) b.toNatClampNeg (σ 326 (9 + 10 * a + (0 : Int32)).toNatClampNeg))) = 0 → K (some (.int 1)) σ))))) : gE 176 0 [some (.ref 326), some (.int a), some (.int b), some (.int x)] [] σ K :=
  gw_run (cy := 176) (cuts := []) (inl := []) (pf := gpfF) gpfF_ok 400 (by decide) h
theorem s176_326 {σ : gS} {K : gK} {a b x : Int32} (hc : ((0 ≤ a ∧ a < 20) ∧ (0 ≤ b ∧ b < 20)) ∧ 0 ≤ σ 326 3 ∧ σ 326 3 ≤ 20) (hK : K (some (.int (fWhy (σ 326) a.toNatClampNeg b.toNatClampNeg x))) σ) : gE 176 0 [some (.ref 326), some (.int a), some (.int b), some (.int x)] [] σ K := by
  obtain ⟨⟨ha, hb⟩, hc⟩ := hc
  obtain ⟨ea, la⟩ := t20 ha
  obtain ⟨ma, na⟩ : ∃ m, a.toNatClampNeg = m := ⟨_, rfl⟩
  rw [na] at ea la hK
  subst ea
  obtain ⟨eb, lb⟩ := t20 hb
  obtain ⟨mb, nb⟩ : ∃ m, b.toNatClampNeg = m := ⟨_, rfl⟩
  rw [nb] at eb lb hK
  subst eb
  have na : (iN ma).toNatClampNeg = ma := iN_nat (by omega)
  have nb : (iN mb).toNatClampNeg = mb := iN_nat (by omega)
  have a0 := ixb0 la
  have b0 := ixb0 lb
  have a7 := ixb7 la
  refine w176_326 ?_
  rw [ix0 la, ix0 lb, ix7 la, na, nb]
  simp only [bI_0]
  unfold fWhy at hK
  unfold fld at hK
  grind
noncomputable def f176 : gD := fun Lv σ => match Lv with
  | [some (.ref p), some (.int a), some (.int b), some (.int x)] => cond (Nat.beq p 324 || Nat.beq p 325 || Nat.beq p 326) (some (some (((0 ≤ a ∧ a < 20) ∧ (0 ≤ b ∧ b < 20)) ∧ 0 ≤ σ p 3 ∧ σ p 3 ≤ 20), some (.int (fWhy (σ p) a.toNatClampNeg b.toNatClampNeg x)), σ)) none
  | _ => none
theorem ok176 : gFok 176 f176 := by
  intro Lv σ q h hc K hK
  unfold f176 at h
  split at h
  · rename_i p a b x
    obtain ⟨hb, h⟩ := c_no h
    have hb0 := hb
    rcases s_or hb0 with hb0 | hb0
    · rcases s_or hb0 with hb0 | hb0
      · have e := b_eq hb0
        subst e
        cases h
        exact s176_324 (hc _ rfl) hK
      · have e := b_eq hb0
        subst e
        cases h
        exact s176_325 (hc _ rfl) hK
    · have e := b_eq hb0
      subst e
      cases h
      exact s176_326 (hc _ rfl) hK
  · cases h
set_option maxRecDepth 20000 in
theorem w177_324 {σ : gS} {K : gK} {t x : Int32} (h : (0 ≤ σ 324 3 ∧ σ 324 3 ≤ 20) ∧ (((fWho (σ 324) x) < 0 → (0 ≤ t ∧ t < 20) ∧ ((¬ (bI (fMay (σ 324) t.toNatClampNeg x)) = 0 → ((0 ≤ t ∧ t < 20) ∧ 0 ≤ σ 324 3 ∧ σ 324 3 ≤ 20) ∧ ((0 ≤ t ∧ t < 20) ∧ 0 ≤ σ 324 3 ∧ σ 324 3 ≤ 20) ∧ ((¬ (fJoy (σ 324) t.toNatClampNeg x) < (fJo (σ 324) t.toNatClampNeg) → K (some (.int 0)) σ) ∧ ((fJoy (σ 324) t.toNatClampNeg x) < (fJo (σ 324) t.toNatClampNeg) → K (some (.int 6)) σ))) ∧ ((bI (fMay (σ 324) t.toNatClampNeg x)) = 0 → K (some (.int 1)) σ))) ∧ (¬ (fWho (σ 324) x) < 0 → K (some (.int 5)) σ))) : gE 177 0 [some (.ref 324), some (.int t), some (.int x)] [] σ K :=
  gw_run (cy := 177) (cuts := []) (inl := []) (pf := gpfF) gpfF_ok 400 (by decide) h
theorem s177_324 {σ : gS} {K : gK} {t x : Int32} (hc : (0 ≤ t ∧ t < 20) ∧ 0 ≤ σ 324 3 ∧ σ 324 3 ≤ 20) (hK : K (some (.int (fWhyM (σ 324) t.toNatClampNeg x))) σ) : gE 177 0 [some (.ref 324), some (.int t), some (.int x)] [] σ K := by
  obtain ⟨ht, hc⟩ := hc
  refine w177_324 ?_
  simp only [bI_0]
  unfold fWhyM at hK
  grind
set_option maxRecDepth 20000 in
theorem w177_325 {σ : gS} {K : gK} {t x : Int32} (h : (0 ≤ σ 325 3 ∧ σ 325 3 ≤ 20) ∧ (((fWho (σ 325) x) < 0 → (0 ≤ t ∧ t < 20) ∧ ((¬ (bI (fMay (σ 325) t.toNatClampNeg x)) = 0 → ((0 ≤ t ∧ t < 20) ∧ 0 ≤ σ 325 3 ∧ σ 325 3 ≤ 20) ∧ ((0 ≤ t ∧ t < 20) ∧ 0 ≤ σ 325 3 ∧ σ 325 3 ≤ 20) ∧ ((¬ (fJoy (σ 325) t.toNatClampNeg x) < (fJo (σ 325) t.toNatClampNeg) → K (some (.int 0)) σ) ∧ ((fJoy (σ 325) t.toNatClampNeg x) < (fJo (σ 325) t.toNatClampNeg) → K (some (.int 6)) σ))) ∧ ((bI (fMay (σ 325) t.toNatClampNeg x)) = 0 → K (some (.int 1)) σ))) ∧ (¬ (fWho (σ 325) x) < 0 → K (some (.int 5)) σ))) : gE 177 0 [some (.ref 325), some (.int t), some (.int x)] [] σ K :=
  gw_run (cy := 177) (cuts := []) (inl := []) (pf := gpfF) gpfF_ok 400 (by decide) h
theorem s177_325 {σ : gS} {K : gK} {t x : Int32} (hc : (0 ≤ t ∧ t < 20) ∧ 0 ≤ σ 325 3 ∧ σ 325 3 ≤ 20) (hK : K (some (.int (fWhyM (σ 325) t.toNatClampNeg x))) σ) : gE 177 0 [some (.ref 325), some (.int t), some (.int x)] [] σ K := by
  obtain ⟨ht, hc⟩ := hc
  refine w177_325 ?_
  simp only [bI_0]
  unfold fWhyM at hK
  grind
set_option maxRecDepth 20000 in
theorem w177_326 {σ : gS} {K : gK} {t x : Int32} (h : (0 ≤ σ 326 3 ∧ σ 326 3 ≤ 20) ∧ (((fWho (σ 326) x) < 0 → (0 ≤ t ∧ t < 20) ∧ ((¬ (bI (fMay (σ 326) t.toNatClampNeg x)) = 0 → ((0 ≤ t ∧ t < 20) ∧ 0 ≤ σ 326 3 ∧ σ 326 3 ≤ 20) ∧ ((0 ≤ t ∧ t < 20) ∧ 0 ≤ σ 326 3 ∧ σ 326 3 ≤ 20) ∧ ((¬ (fJoy (σ 326) t.toNatClampNeg x) < (fJo (σ 326) t.toNatClampNeg) → K (some (.int 0)) σ) ∧ ((fJoy (σ 326) t.toNatClampNeg x) < (fJo (σ 326) t.toNatClampNeg) → K (some (.int 6)) σ))) ∧ ((bI (fMay (σ 326) t.toNatClampNeg x)) = 0 → K (some (.int 1)) σ))) ∧ (¬ (fWho (σ 326) x) < 0 → K (some (.int 5)) σ))) : gE 177 0 [some (.ref 326), some (.int t), some (.int x)] [] σ K :=
  gw_run (cy := 177) (cuts := []) (inl := []) (pf := gpfF) gpfF_ok 400 (by decide) h
theorem s177_326 {σ : gS} {K : gK} {t x : Int32} (hc : (0 ≤ t ∧ t < 20) ∧ 0 ≤ σ 326 3 ∧ σ 326 3 ≤ 20) (hK : K (some (.int (fWhyM (σ 326) t.toNatClampNeg x))) σ) : gE 177 0 [some (.ref 326), some (.int t), some (.int x)] [] σ K := by
  obtain ⟨ht, hc⟩ := hc
  refine w177_326 ?_
  simp only [bI_0]
  unfold fWhyM at hK
  grind
noncomputable def f177 : gD := fun Lv σ => match Lv with
  | [some (.ref p), some (.int t), some (.int x)] => cond (Nat.beq p 324 || Nat.beq p 325 || Nat.beq p 326) (some (some ((0 ≤ t ∧ t < 20) ∧ 0 ≤ σ p 3 ∧ σ p 3 ≤ 20), some (.int (fWhyM (σ p) t.toNatClampNeg x)), σ)) none
  | _ => none
theorem ok177 : gFok 177 f177 := by
  intro Lv σ q h hc K hK
  unfold f177 at h
  split at h
  · rename_i p t x
    obtain ⟨hb, h⟩ := c_no h
    have hb0 := hb
    rcases s_or hb0 with hb0 | hb0
    · rcases s_or hb0 with hb0 | hb0
      · have e := b_eq hb0
        subst e
        cases h
        exact s177_324 (hc _ rfl) hK
      · have e := b_eq hb0
        subst e
        cases h
        exact s177_325 (hc _ rfl) hK
    · have e := b_eq hb0
      subst e
      cases h
      exact s177_326 (hc _ rfl) hK
  · cases h
set_option maxRecDepth 20000 in
theorem w178_324 {σ : gS} {K : gK} {a b c w : Int32} (h : ((0 ≤ w ∧ w < 20) ∧ 0 ≤ σ 324 3 ∧ σ 324 3 ≤ 20) ∧ (((0 ≤ a ∧ a < 20) ∧ (0 ≤ b ∧ b < 20) ∧ (0 ≤ c ∧ c < 20))) ∧ ((0 ≤ w ∧ w < 20) ∧ 0 ≤ (grow σ 324 (rtu (σ 324) a.toNatClampNeg b.toNatClampNeg c.toNatClampNeg)) 324 3 ∧ (grow σ 324 (rtu (σ 324) a.toNatClampNeg b.toNatClampNeg c.toNatClampNeg)) 324 3 ≤ 20) ∧ (((0 ≤ c ∧ c < 20) ∧ (0 ≤ b ∧ b < 20) ∧ (0 ≤ a ∧ a < 20))) ∧ K (some (.int ((fJo ((grow σ 324 (rtu (σ 324) a.toNatClampNeg b.toNatClampNeg c.toNatClampNeg)) 324) w.toNatClampNeg) - (fJo (σ 324) w.toNatClampNeg)))) (grow (grow σ 324 (rtu (σ 324) a.toNatClampNeg b.toNatClampNeg c.toNatClampNeg)) 324 (rtu ((grow σ 324 (rtu (σ 324) a.toNatClampNeg b.toNatClampNeg c.toNatClampNeg)) 324) c.toNatClampNeg b.toNatClampNeg a.toNatClampNeg))) : gE 178 0 [some (.ref 324), some (.int a), some (.int b), some (.int c), some (.int w), none, none] [] σ K :=
  gw_run (cy := 178) (cuts := []) (inl := []) (pf := gpfE) gpfE_ok 400 (by decide) h
theorem s178_324 {σ : gS} {K : gK} {a b c w : Int32} (hc : ((0 ≤ a ∧ a < 20) ∧ (0 ≤ b ∧ b < 20) ∧ (0 ≤ c ∧ c < 20)) ∧ (a.toNatClampNeg ≠ b.toNatClampNeg ∧ b.toNatClampNeg ≠ c.toNatClampNeg ∧ a.toNatClampNeg ≠ c.toNatClampNeg) ∧ (0 ≤ w ∧ w < 20) ∧ 0 ≤ σ 324 3 ∧ σ 324 3 ≤ 20) (hK : K (some (.int (fRR (σ 324) a.toNatClampNeg b.toNatClampNeg c.toNatClampNeg w.toNatClampNeg))) σ) : gE 178 0 [some (.ref 324), some (.int a), some (.int b), some (.int c), some (.int w), none, none] [] σ K := by
  obtain ⟨⟨ha, hb, hcc⟩, hd, hw, hc⟩ := hc
  refine w178_324 ⟨⟨hw, hc⟩, ⟨ha, hb, hcc⟩, ⟨hw, by rw [grow_at, rtu_3 hd]; exact hc⟩, ⟨hcc, hb, ha⟩, ?_⟩
  simp only [grow_grow, grow_at, rtu_rtu hd, grow_id]
  exact hK
set_option maxRecDepth 20000 in
theorem w178_325 {σ : gS} {K : gK} {a b c w : Int32} (h : ((0 ≤ w ∧ w < 20) ∧ 0 ≤ σ 325 3 ∧ σ 325 3 ≤ 20) ∧ (((0 ≤ a ∧ a < 20) ∧ (0 ≤ b ∧ b < 20) ∧ (0 ≤ c ∧ c < 20))) ∧ ((0 ≤ w ∧ w < 20) ∧ 0 ≤ (grow σ 325 (rtu (σ 325) a.toNatClampNeg b.toNatClampNeg c.toNatClampNeg)) 325 3 ∧ (grow σ 325 (rtu (σ 325) a.toNatClampNeg b.toNatClampNeg c.toNatClampNeg)) 325 3 ≤ 20) ∧ (((0 ≤ c ∧ c < 20) ∧ (0 ≤ b ∧ b < 20) ∧ (0 ≤ a ∧ a < 20))) ∧ K (some (.int ((fJo ((grow σ 325 (rtu (σ 325) a.toNatClampNeg b.toNatClampNeg c.toNatClampNeg)) 325) w.toNatClampNeg) - (fJo (σ 325) w.toNatClampNeg)))) (grow (grow σ 325 (rtu (σ 325) a.toNatClampNeg b.toNatClampNeg c.toNatClampNeg)) 325 (rtu ((grow σ 325 (rtu (σ 325) a.toNatClampNeg b.toNatClampNeg c.toNatClampNeg)) 325) c.toNatClampNeg b.toNatClampNeg a.toNatClampNeg))) : gE 178 0 [some (.ref 325), some (.int a), some (.int b), some (.int c), some (.int w), none, none] [] σ K :=
  gw_run (cy := 178) (cuts := []) (inl := []) (pf := gpfE) gpfE_ok 400 (by decide) h
theorem s178_325 {σ : gS} {K : gK} {a b c w : Int32} (hc : ((0 ≤ a ∧ a < 20) ∧ (0 ≤ b ∧ b < 20) ∧ (0 ≤ c ∧ c < 20)) ∧ (a.toNatClampNeg ≠ b.toNatClampNeg ∧ b.toNatClampNeg ≠ c.toNatClampNeg ∧ a.toNatClampNeg ≠ c.toNatClampNeg) ∧ (0 ≤ w ∧ w < 20) ∧ 0 ≤ σ 325 3 ∧ σ 325 3 ≤ 20) (hK : K (some (.int (fRR (σ 325) a.toNatClampNeg b.toNatClampNeg c.toNatClampNeg w.toNatClampNeg))) σ) : gE 178 0 [some (.ref 325), some (.int a), some (.int b), some (.int c), some (.int w), none, none] [] σ K := by
  obtain ⟨⟨ha, hb, hcc⟩, hd, hw, hc⟩ := hc
  refine w178_325 ⟨⟨hw, hc⟩, ⟨ha, hb, hcc⟩, ⟨hw, by rw [grow_at, rtu_3 hd]; exact hc⟩, ⟨hcc, hb, ha⟩, ?_⟩
  simp only [grow_grow, grow_at, rtu_rtu hd, grow_id]
  exact hK
set_option maxRecDepth 20000 in
theorem w178_326 {σ : gS} {K : gK} {a b c w : Int32} (h : ((0 ≤ w ∧ w < 20) ∧ 0 ≤ σ 326 3 ∧ σ 326 3 ≤ 20) ∧ (((0 ≤ a ∧ a < 20) ∧ (0 ≤ b ∧ b < 20) ∧ (0 ≤ c ∧ c < 20))) ∧ ((0 ≤ w ∧ w < 20) ∧ 0 ≤ (grow σ 326 (rtu (σ 326) a.toNatClampNeg b.toNatClampNeg c.toNatClampNeg)) 326 3 ∧ (grow σ 326 (rtu (σ 326) a.toNatClampNeg b.toNatClampNeg c.toNatClampNeg)) 326 3 ≤ 20) ∧ (((0 ≤ c ∧ c < 20) ∧ (0 ≤ b ∧ b < 20) ∧ (0 ≤ a ∧ a < 20))) ∧ K (some (.int ((fJo ((grow σ 326 (rtu (σ 326) a.toNatClampNeg b.toNatClampNeg c.toNatClampNeg)) 326) w.toNatClampNeg) - (fJo (σ 326) w.toNatClampNeg)))) (grow (grow σ 326 (rtu (σ 326) a.toNatClampNeg b.toNatClampNeg c.toNatClampNeg)) 326 (rtu ((grow σ 326 (rtu (σ 326) a.toNatClampNeg b.toNatClampNeg c.toNatClampNeg)) 326) c.toNatClampNeg b.toNatClampNeg a.toNatClampNeg))) : gE 178 0 [some (.ref 326), some (.int a), some (.int b), some (.int c), some (.int w), none, none] [] σ K :=
  gw_run (cy := 178) (cuts := []) (inl := []) (pf := gpfE) gpfE_ok 400 (by decide) h
theorem s178_326 {σ : gS} {K : gK} {a b c w : Int32} (hc : ((0 ≤ a ∧ a < 20) ∧ (0 ≤ b ∧ b < 20) ∧ (0 ≤ c ∧ c < 20)) ∧ (a.toNatClampNeg ≠ b.toNatClampNeg ∧ b.toNatClampNeg ≠ c.toNatClampNeg ∧ a.toNatClampNeg ≠ c.toNatClampNeg) ∧ (0 ≤ w ∧ w < 20) ∧ 0 ≤ σ 326 3 ∧ σ 326 3 ≤ 20) (hK : K (some (.int (fRR (σ 326) a.toNatClampNeg b.toNatClampNeg c.toNatClampNeg w.toNatClampNeg))) σ) : gE 178 0 [some (.ref 326), some (.int a), some (.int b), some (.int c), some (.int w), none, none] [] σ K := by
  obtain ⟨⟨ha, hb, hcc⟩, hd, hw, hc⟩ := hc
  refine w178_326 ⟨⟨hw, hc⟩, ⟨ha, hb, hcc⟩, ⟨hw, by rw [grow_at, rtu_3 hd]; exact hc⟩, ⟨hcc, hb, ha⟩, ?_⟩
  simp only [grow_grow, grow_at, rtu_rtu hd, grow_id]
  exact hK
noncomputable def f178 : gD := fun Lv σ => match Lv with
  | [some (.ref p), some (.int a), some (.int b), some (.int c), some (.int w), none, none] => cond (Nat.beq p 324 || Nat.beq p 325 || Nat.beq p 326) (some (some (((0 ≤ a ∧ a < 20) ∧ (0 ≤ b ∧ b < 20) ∧ (0 ≤ c ∧ c < 20)) ∧ (a.toNatClampNeg ≠ b.toNatClampNeg ∧ b.toNatClampNeg ≠ c.toNatClampNeg ∧ a.toNatClampNeg ≠ c.toNatClampNeg) ∧ (0 ≤ w ∧ w < 20) ∧ 0 ≤ σ p 3 ∧ σ p 3 ≤ 20), some (.int (fRR (σ p) a.toNatClampNeg b.toNatClampNeg c.toNatClampNeg w.toNatClampNeg)), σ)) none
  | _ => none
theorem ok178 : gFok 178 f178 := by
  intro Lv σ q h hc K hK
  unfold f178 at h
  split at h
  · rename_i p a b c w
    obtain ⟨hb, h⟩ := c_no h
    have hb0 := hb
    rcases s_or hb0 with hb0 | hb0
    · rcases s_or hb0 with hb0 | hb0
      · have e := b_eq hb0
        subst e
        cases h
        exact s178_324 (hc _ rfl) hK
      · have e := b_eq hb0
        subst e
        cases h
        exact s178_325 (hc _ rfl) hK
    · have e := b_eq hb0
      subst e
      cases h
      exact s178_326 (hc _ rfl) hK
  · cases h
noncomputable def gpfG_l : List (Nat × gD) := (176, f176) :: (177, f177) :: (178, f178) :: gpfF_l
noncomputable def gpfG : gP := gpl0 gpfG_l
theorem gpfG_ok : gPok gpfG := gpl0_cons ok176 (gpl0_cons ok177 (gpl0_cons ok178 (gpfF_ok)))
-- text 12
/-! THE REFERENCE: rings, the best swap, settling, rows copied -/
set_option maxRecDepth 20000 in
theorem w179_324 {σ : gS} {K : gK} {a b c : Int32} (h : (0 ≤ (9 + 10 * b + (0 : Int32)) ∧ (9 + 10 * b + (0 : Int32)) < 330) ∧ (0 ≤ a ∧ a < 20) ∧ (((bI (fMay (σ 324) a.toNatClampNeg (σ 324 (9 + 10 * b + (0 : Int32)).toNatClampNeg))) = 0 → K (some (.int 1)) σ) ∧ (¬ (bI (fMay (σ 324) a.toNatClampNeg (σ 324 (9 + 10 * b + (0 : Int32)).toNatClampNeg))) = 0 → (0 ≤ (9 + 10 * c + (0 : Int32)) ∧ (9 + 10 * c + (0 : Int32)) < 330) ∧ (0 ≤ b ∧ b < 20) ∧ (((bI (fMay (σ 324) b.toNatClampNeg (σ 324 (9 + 10 * c + (0 : Int32)).toNatClampNeg))) = 0 → K (some (.int 1)) σ) ∧ (¬ (bI (fMay (σ 324) b.toNatClampNeg (σ 324 (9 + 10 * c + (0 : Int32)).toNatClampNeg))) = 0 → (0 ≤ (9 + 10 * a + (0 : Int32)) ∧ (9 + 10 * a + (0 : Int32)) < 330) ∧ (0 ≤ c ∧ c < 20) ∧ ((¬ (bI (fMay (σ 324) c.toNatClampNeg (σ 324 (9 + 10 * a + (0 : Int32)).toNatClampNeg))) = 0 → (((0 ≤ a ∧ a < 20) ∧ (0 ≤ b ∧ b < 20) ∧ (0 ≤ c ∧ c < 20)) ∧ (a.toNatClampNeg ≠ b.toNatClampNeg ∧ b.toNatClampNeg ≠ c.toNatClampNeg ∧ a.toNatClampNeg ≠ c.toNatClampNeg) ∧ (0 ≤ a ∧ a < 20) ∧ 0 ≤ σ 324 3 ∧ σ 324 3 ≤ 20) ∧ ((¬ (fRR (σ 324) a.toNatClampNeg b.toNatClampNeg c.toNatClampNeg a.toNatClampNeg) < 0 → (((0 ≤ a ∧ a < 20) ∧ (0 ≤ b ∧ b < 20) ∧ (0 ≤ c ∧ c < 20)) ∧ (a.toNatClampNeg ≠ b.toNatClampNeg ∧ b.toNatClampNeg ≠ c.toNatClampNeg ∧ a.toNatClampNeg ≠ c.toNatClampNeg) ∧ (0 ≤ b ∧ b < 20) ∧ 0 ≤ σ 324 3 ∧ σ 324 3 ≤ 20) ∧ ((¬ (fRR (σ 324) a.toNatClampNeg b.toNatClampNeg c.toNatClampNeg b.toNatClampNeg) < 0 → (((0 ≤ a ∧ a < 20) ∧ (0 ≤ b ∧ b < 20) ∧ (0 ≤ c ∧ c < 20)) ∧ (a.toNatClampNeg ≠ b.toNatClampNeg ∧ b.toNatClampNeg ≠ c.toNatClampNeg ∧ a.toNatClampNeg ≠ c.toNatClampNeg) ∧ (0 ≤ c ∧ c < 20) ∧ 0 ≤ σ 324 3 ∧ σ 324 3 ≤ 20) ∧ ((¬ (fRR (σ 324) a.toNatClampNeg b.toNatClampNeg c.toNatClampNeg c.toNatClampNeg) < 0 → K (some (.int 0)) σ) ∧ ((fRR (σ 324) a.toNatClampNeg b.toNatClampNeg c.toNatClampNeg c.toNatClampNeg) < 0 → K (some (.int 6)) σ))) ∧ ((fRR (σ 324) a.toNatClampNeg b.toNatClampNeg c.toNatClampNeg b.toNatClampNeg) < 0 → K (some (.int 6)) σ))) ∧ ((fRR (σ 324) a.toNatClampNeg b.toNatClampNeg c.toNatClampNeg a.toNatClampNeg) < 0 → K (some (.int 6)) σ))) ∧ ((bI (fMay (σ 324) c.toNatClampNeg (σ 324 (9 + 10 * a + (0 : Int32)).toNatClampNeg))) = 0 → K (some (.int 1)) σ))))))) : gE 179 0 [some (.ref 324), some (.int a), some (.int b), some (.int c)] [] σ K :=
  gw_run (cy := 179) (cuts := []) (inl := []) (pf := gpfG) gpfG_ok 400 (by decide) h
theorem s179_324 {σ : gS} {K : gK} {a b c : Int32} (hc : ((0 ≤ a ∧ a < 20) ∧ (0 ≤ b ∧ b < 20) ∧ (0 ≤ c ∧ c < 20)) ∧ (a.toNatClampNeg ≠ b.toNatClampNeg ∧ b.toNatClampNeg ≠ c.toNatClampNeg ∧ a.toNatClampNeg ≠ c.toNatClampNeg) ∧ 0 ≤ σ 324 3 ∧ σ 324 3 ≤ 20) (hK : K (some (.int (fWhyR (σ 324) a.toNatClampNeg b.toNatClampNeg c.toNatClampNeg))) σ) : gE 179 0 [some (.ref 324), some (.int a), some (.int b), some (.int c)] [] σ K := by
  obtain ⟨⟨ha, hb, hcc⟩, hd, hc⟩ := hc
  have hc3 := hcc
  have hh := hcc
  obtain ⟨ec, lc⟩ := t20 hcc
  obtain ⟨ea, la⟩ := t20 ha
  obtain ⟨eb, lb⟩ := t20 hb
  have xa : ∀ t : Int32, 0 ≤ t ∧ t < 20 → (9 + 10 * t + (0 : Int32)).toNatClampNeg = 9 + 10 * t.toNatClampNeg + 0 ∧ (0 ≤ (9 + 10 * t + (0 : Int32)) ∧ (9 + 10 * t + (0 : Int32)) < 330) := by
    intro t ht
    obtain ⟨e, l⟩ := t20 ht
    rw [e, ix0 l, iN_nat (by omega)]
    exact ⟨rfl, ixb0 l⟩
  obtain ⟨xa1, xa2⟩ := xa a ha
  obtain ⟨xb1, xb2⟩ := xa b hb
  obtain ⟨xc1, xc2⟩ := xa c hcc
  refine w179_324 ?_
  rw [xa1, xb1, xc1]
  simp only [bI_0]
  unfold fWhyR at hK
  unfold fld at hK
  grind
noncomputable def f179 : gD := fun Lv σ => match Lv with
  | [some (.ref p), some (.int a), some (.int b), some (.int c)] => cond (Nat.beq p 324) (some (some (((0 ≤ a ∧ a < 20) ∧ (0 ≤ b ∧ b < 20) ∧ (0 ≤ c ∧ c < 20)) ∧ (a.toNatClampNeg ≠ b.toNatClampNeg ∧ b.toNatClampNeg ≠ c.toNatClampNeg ∧ a.toNatClampNeg ≠ c.toNatClampNeg) ∧ 0 ≤ σ p 3 ∧ σ p 3 ≤ 20), some (.int (fWhyR (σ p) a.toNatClampNeg b.toNatClampNeg c.toNatClampNeg)), σ)) none
  | _ => none
theorem ok179 : gFok 179 f179 := by
  intro Lv σ q h hc K hK
  unfold f179 at h
  split at h
  · rename_i p a b c
    obtain ⟨hb, h⟩ := c_no h
    have hb0 := hb
    have e := b_eq hb0
    subst e
    cases h
    exact s179_324 (hc _ rfl) hK
  · cases h
set_option maxRecDepth 20000 in
theorem w180_324 {σ : gS} {K : gK} {a b c : Int32} (h : (((0 ≤ a ∧ a < 20) ∧ (0 ≤ b ∧ b < 20) ∧ (0 ≤ c ∧ c < 20)) ∧ (a.toNatClampNeg ≠ b.toNatClampNeg ∧ b.toNatClampNeg ≠ c.toNatClampNeg ∧ a.toNatClampNeg ≠ c.toNatClampNeg) ∧ (0 ≤ a ∧ a < 20) ∧ 0 ≤ σ 324 3 ∧ σ 324 3 ≤ 20) ∧ (((0 ≤ a ∧ a < 20) ∧ (0 ≤ b ∧ b < 20) ∧ (0 ≤ c ∧ c < 20)) ∧ (a.toNatClampNeg ≠ b.toNatClampNeg ∧ b.toNatClampNeg ≠ c.toNatClampNeg ∧ a.toNatClampNeg ≠ c.toNatClampNeg) ∧ (0 ≤ b ∧ b < 20) ∧ 0 ≤ σ 324 3 ∧ σ 324 3 ≤ 20) ∧ (((0 ≤ a ∧ a < 20) ∧ (0 ≤ b ∧ b < 20) ∧ (0 ≤ c ∧ c < 20)) ∧ (a.toNatClampNeg ≠ b.toNatClampNeg ∧ b.toNatClampNeg ≠ c.toNatClampNeg ∧ a.toNatClampNeg ≠ c.toNatClampNeg) ∧ (0 ≤ c ∧ c < 20) ∧ 0 ≤ σ 324 3 ∧ σ 324 3 ≤ 20) ∧ K (some (.int (((fRR (σ 324) a.toNatClampNeg b.toNatClampNeg c.toNatClampNeg a.toNatClampNeg) + (fRR (σ 324) a.toNatClampNeg b.toNatClampNeg c.toNatClampNeg b.toNatClampNeg)) + (fRR (σ 324) a.toNatClampNeg b.toNatClampNeg c.toNatClampNeg c.toNatClampNeg)))) σ) : gE 180 0 [some (.ref 324), some (.int a), some (.int b), some (.int c)] [] σ K :=
  gw_run (cy := 180) (cuts := []) (inl := []) (pf := gpfG) gpfG_ok 400 (by decide) h
theorem s180_324 {σ : gS} {K : gK} {a b c : Int32} (hc : ((0 ≤ a ∧ a < 20) ∧ (0 ≤ b ∧ b < 20) ∧ (0 ≤ c ∧ c < 20)) ∧ (a.toNatClampNeg ≠ b.toNatClampNeg ∧ b.toNatClampNeg ≠ c.toNatClampNeg ∧ a.toNatClampNeg ≠ c.toNatClampNeg) ∧ 0 ≤ σ 324 3 ∧ σ 324 3 ≤ 20) (hK : K (some (.int (fROR (σ 324) a.toNatClampNeg b.toNatClampNeg c.toNatClampNeg))) σ) : gE 180 0 [some (.ref 324), some (.int a), some (.int b), some (.int c)] [] σ K := by
  obtain ⟨⟨ha, hb, hcc⟩, hd, hc⟩ := hc
  exact w180_324 ⟨⟨⟨ha, hb, hcc⟩, hd, ha, hc⟩, ⟨⟨ha, hb, hcc⟩, hd, hb, hc⟩, ⟨⟨ha, hb, hcc⟩, hd, hcc, hc⟩, hK⟩
noncomputable def f180 : gD := fun Lv σ => match Lv with
  | [some (.ref p), some (.int a), some (.int b), some (.int c)] => cond (Nat.beq p 324) (some (some (((0 ≤ a ∧ a < 20) ∧ (0 ≤ b ∧ b < 20) ∧ (0 ≤ c ∧ c < 20)) ∧ (a.toNatClampNeg ≠ b.toNatClampNeg ∧ b.toNatClampNeg ≠ c.toNatClampNeg ∧ a.toNatClampNeg ≠ c.toNatClampNeg) ∧ 0 ≤ σ p 3 ∧ σ p 3 ≤ 20), some (.int (fROR (σ p) a.toNatClampNeg b.toNatClampNeg c.toNatClampNeg)), σ)) none
  | _ => none
theorem ok180 : gFok 180 f180 := by
  intro Lv σ q h hc K hK
  unfold f180 at h
  split at h
  · rename_i p a b c
    obtain ⟨hb, h⟩ := c_no h
    have hb0 := hb
    have e := b_eq hb0
    subst e
    cases h
    exact s180_324 (hc _ rfl) hK
  · cases h
set_option maxRecDepth 20000 in
theorem w181_324 {σ : gS} {K : gK} {a b : Int32} (h : (0 ≤ σ 324 3 ∧ σ 324 3 ≤ 20) ∧ (((0 ≤ a ∧ a < 20) ∧ (0 ≤ b ∧ b < 20))) ∧ (0 ≤ (grow σ 324 (rsw (σ 324) a.toNatClampNeg b.toNatClampNeg)) 324 3 ∧ (grow σ 324 (rsw (σ 324) a.toNatClampNeg b.toNatClampNeg)) 324 3 ≤ 20) ∧ (((0 ≤ a ∧ a < 20) ∧ (0 ≤ b ∧ b < 20))) ∧ K (some (.int ((fJa ((grow σ 324 (rsw (σ 324) a.toNatClampNeg b.toNatClampNeg)) 324)) - (fJa (σ 324))))) (grow (grow σ 324 (rsw (σ 324) a.toNatClampNeg b.toNatClampNeg)) 324 (rsw ((grow σ 324 (rsw (σ 324) a.toNatClampNeg b.toNatClampNeg)) 324) a.toNatClampNeg b.toNatClampNeg))) : gE 181 0 [some (.ref 324), some (.int a), some (.int b), none, none] [] σ K :=
  gw_run (cy := 181) (cuts := []) (inl := []) (pf := gpfG) gpfG_ok 400 (by decide) h
theorem s181_324 {σ : gS} {K : gK} {a b : Int32} (hc : ((0 ≤ a ∧ a < 20) ∧ (0 ≤ b ∧ b < 20)) ∧ 0 ≤ σ 324 3 ∧ σ 324 3 ≤ 20) (hK : K (some (.int (fRA (σ 324) a.toNatClampNeg b.toNatClampNeg))) σ) : gE 181 0 [some (.ref 324), some (.int a), some (.int b), none, none] [] σ K := by
  obtain ⟨hab, hc⟩ := hc
  refine w181_324 ⟨hc, hab, by rw [grow_at, rsw_3]; exact hc, hab, ?_⟩
  simp only [grow_grow, grow_at, rsw_rsw, grow_id]
  exact hK
set_option maxRecDepth 20000 in
theorem w181_326 {σ : gS} {K : gK} {a b : Int32} (h : (0 ≤ σ 326 3 ∧ σ 326 3 ≤ 20) ∧ (((0 ≤ a ∧ a < 20) ∧ (0 ≤ b ∧ b < 20))) ∧ (0 ≤ (grow σ 326 (rsw (σ 326) a.toNatClampNeg b.toNatClampNeg)) 326 3 ∧ (grow σ 326 (rsw (σ 326) a.toNatClampNeg b.toNatClampNeg)) 326 3 ≤ 20) ∧ (((0 ≤ a ∧ a < 20) ∧ (0 ≤ b ∧ b < 20))) ∧ K (some (.int ((fJa ((grow σ 326 (rsw (σ 326) a.toNatClampNeg b.toNatClampNeg)) 326)) - (fJa (σ 326))))) (grow (grow σ 326 (rsw (σ 326) a.toNatClampNeg b.toNatClampNeg)) 326 (rsw ((grow σ 326 (rsw (σ 326) a.toNatClampNeg b.toNatClampNeg)) 326) a.toNatClampNeg b.toNatClampNeg))) : gE 181 0 [some (.ref 326), some (.int a), some (.int b), none, none] [] σ K :=
  gw_run (cy := 181) (cuts := []) (inl := []) (pf := gpfG) gpfG_ok 400 (by decide) h
theorem s181_326 {σ : gS} {K : gK} {a b : Int32} (hc : ((0 ≤ a ∧ a < 20) ∧ (0 ≤ b ∧ b < 20)) ∧ 0 ≤ σ 326 3 ∧ σ 326 3 ≤ 20) (hK : K (some (.int (fRA (σ 326) a.toNatClampNeg b.toNatClampNeg))) σ) : gE 181 0 [some (.ref 326), some (.int a), some (.int b), none, none] [] σ K := by
  obtain ⟨hab, hc⟩ := hc
  refine w181_326 ⟨hc, hab, by rw [grow_at, rsw_3]; exact hc, hab, ?_⟩
  simp only [grow_grow, grow_at, rsw_rsw, grow_id]
  exact hK
noncomputable def f181 : gD := fun Lv σ => match Lv with
  | [some (.ref p), some (.int a), some (.int b), none, none] => cond (Nat.beq p 324 || Nat.beq p 326) (some (some (((0 ≤ a ∧ a < 20) ∧ (0 ≤ b ∧ b < 20)) ∧ 0 ≤ σ p 3 ∧ σ p 3 ≤ 20), some (.int (fRA (σ p) a.toNatClampNeg b.toNatClampNeg)), σ)) none
  | _ => none
theorem ok181 : gFok 181 f181 := by
  intro Lv σ q h hc K hK
  unfold f181 at h
  split at h
  · rename_i p a b
    obtain ⟨hb, h⟩ := c_no h
    have hb0 := hb
    rcases s_or hb0 with hb0 | hb0
    · have e := b_eq hb0
      subst e
      cases h
      exact s181_324 (hc _ rfl) hK
    · have e := b_eq hb0
      subst e
      cases h
      exact s181_326 (hc _ rfl) hK
  · cases h
noncomputable def gpfH_l : List (Nat × gD) := (179, f179) :: (180, f180) :: (181, f181) :: gpfG_l
noncomputable def gpfH : gP := gpl0 gpfH_l
theorem gpfH_ok : gPok gpfH := gpl0_cons ok179 (gpl0_cons ok180 (gpl0_cons ok181 (gpfG_ok)))
def nfold {α : Type} (f : Nat → α → α) (n : Nat) (s : α) : α := match n with
  | 0 => s
  | n + 1 => f n (nfold f n s)
def bsS (R : gW) (a b : Nat) (s : Int32 × Int32) : Int32 × Int32 := if a = b ∨ 0 < fWhy R a b 0 then s else if fRA R a b ≤ s.2 then s else (100 * iN a + iN b, fRA R a b)
def bsR (R : gW) (a : Nat) (s : Int32 × Int32) : Int32 × Int32 := nfold (bsS R a) (nM R) s
def fBest (R : gW) : Int32 := (nfold (bsR R) (nM R) (-2, 0)).1
theorem g_forJ {y pc : Nat} {K : gK} {J : Type} (n : Nat) (Lv : Nat → J → gL) (σf : Nat → gS) (Inv : Nat → Prop) (hend : Inv n → ∀ u, gE y pc (Lv n u) [] (σf n) K) (hstep : ∀ k, k < n → Inv k → (Inv (k + 1) → ∀ u, gE y pc (Lv (k + 1) u) [] (σf (k + 1)) K) → ∀ u, gE y pc (Lv k u) [] (σf k) K) (k : Nat) (hk : k ≤ n) (hi : Inv k) : ∀ u, gE y pc (Lv k u) [] (σf k) K := by
  obtain ⟨d, hd⟩ : ∃ d, d = n - k := ⟨_, rfl⟩
  induction d generalizing k with
  | zero =>
    have : k = n := by omega
    subst this
    exact hend hi
  | succ d ih => exact hstep k (by omega) hi (fun h => ih (k + 1) (by omega) h (by omega))
set_option maxRecDepth 20000 in
theorem w182_326 {σ : gS} {K : gK} (h : gE 182 7 [some (.ref 326), some (.int (-2)), some (.int 0), some (.int 0), none, none] [] σ K) : gE 182 0 [some (.ref 326), none, none, none, none, none] [] σ K :=
  gw_run (cy := 182) (cuts := [7, 17]) (inl := []) (pf := gpfH) gpfH_ok 400 (by decide) h
set_option maxRecDepth 20000 in
theorem v182_a {σ : gS} {K : gK} {best most a : Int32} {u1 u2 : Option Value} (h : (0 ≤ (3 : Int32) ∧ (3 : Int32) < 330) ∧ ((¬ a < (σ 326 3) → K (some (.int best)) σ) ∧ (a < (σ 326 3) → gE 182 17 [some (.ref 326), some (.int best), some (.int most), some (.int a), some (.int 0), u2] [] σ K))) : gE 182 7 [some (.ref 326), some (.int best), some (.int most), some (.int a), u1, u2] [] σ K :=
  gw_run (cy := 182) (cuts := [7, 17]) (inl := []) (pf := gpfH) gpfH_ok 400 (by decide) h
set_option maxRecDepth 20000 in
theorem v182_b {σ : gS} {K : gK} {best most a b : Int32} {u2 : Option Value} (h : (0 ≤ (3 : Int32) ∧ (3 : Int32) < 330) ∧ ((¬ b < (σ 326 3) → gE 182 7 [some (.ref 326), some (.int best), some (.int most), some (.int (a + 1)), some (.int b), u2] [] σ K) ∧ (b < (σ 326 3) → ((a = b → gE 182 17 [some (.ref 326), some (.int best), some (.int most), some (.int a), some (.int (b + 1)), u2] [] σ K) ∧ (¬ a = b → (((0 ≤ a ∧ a < 20) ∧ (0 ≤ b ∧ b < 20)) ∧ 0 ≤ σ 326 3 ∧ σ 326 3 ≤ 20) ∧ ((¬ 0 < (fWhy (σ 326) a.toNatClampNeg b.toNatClampNeg (0 : Int32)) → (((0 ≤ a ∧ a < 20) ∧ (0 ≤ b ∧ b < 20)) ∧ 0 ≤ σ 326 3 ∧ σ 326 3 ≤ 20) ∧ ((most < (fRA (σ 326) a.toNatClampNeg b.toNatClampNeg) → gE 182 17 [some (.ref 326), some (.int ((100 * a) + b)), some (.int (fRA (σ 326) a.toNatClampNeg b.toNatClampNeg)), some (.int a), some (.int (b + 1)), some (.int (fRA (σ 326) a.toNatClampNeg b.toNatClampNeg))] [] σ K) ∧ (¬ most < (fRA (σ 326) a.toNatClampNeg b.toNatClampNeg) → gE 182 17 [some (.ref 326), some (.int best), some (.int most), some (.int a), some (.int (b + 1)), some (.int (fRA (σ 326) a.toNatClampNeg b.toNatClampNeg))] [] σ K))) ∧ (0 < (fWhy (σ 326) a.toNatClampNeg b.toNatClampNeg (0 : Int32)) → gE 182 17 [some (.ref 326), some (.int best), some (.int most), some (.int a), some (.int (b + 1)), u2] [] σ K))))))) : gE 182 17 [some (.ref 326), some (.int best), some (.int most), some (.int a), some (.int b), u2] [] σ K :=
  gw_run (cy := 182) (cuts := [7, 17]) (inl := []) (pf := gpfH) gpfH_ok 400 (by decide) h
theorem s182_326 {σ : gS} {K : gK} (hc : 0 ≤ σ 326 3 ∧ σ 326 3 ≤ 20) (hK : K (some (.int (fBest (σ 326)))) σ) : gE 182 0 [some (.ref 326), none, none, none, none, none] [] σ K := by
  have hn := (nM_of hc).2
  have inner : ∀ (a : Nat) (s : Int32 × Int32) (u : Option Value), a < nM (σ 326) → (∀ u1 u2, gE 182 7 [some (.ref 326), some (.int (bsR (σ 326) a s).1), some (.int (bsR (σ 326) a s).2), some (.int (iN (a + 1))), u1, u2] [] σ K) → gE 182 17 [some (.ref 326), some (.int s.1), some (.int s.2), some (.int (iN a)), some (.int 0), u] [] σ K := by
    intro a s u ha hout
    have ha20 : a < 20 := by omega
    refine g_forJ (nM (σ 326)) (fun k u => [some (.ref 326), some (.int (nfold (bsS (σ 326) a) k s).1), some (.int (nfold (bsS (σ 326) a) k s).2), some (.int (iN a)), some (.int (iN k)), u]) (fun _ => σ) (fun _ => True) (fun _ u => ?_) (fun k hk _ ih u => ?_) 0 (Nat.zero_le _) trivial u
    · refine v182_b ⟨by decide, fun _ => ?_, fun h => ?_⟩
      · rw [iN_one]
        exact hout _ _
      · rw [nM_lt hc (by omega)] at h; omega
    · have hk20 : k < 20 := by omega
      have ih := ih trivial
      have e : nfold (bsS (σ 326) a) (k + 1) s = bsS (σ 326) a k (nfold (bsS (σ 326) a) k s) := rfl
      rw [e] at ih
      generalize nfold (bsS (σ 326) a) k s = s at ih ⊢
      unfold bsS at ih
      have na : (iN a).toNatClampNeg = a := iN_nat (by omega)
      have nk : (iN k).toNatClampNeg = k := iN_nat (by omega)
      refine v182_b ⟨by decide, fun h => ?_, fun _ => ⟨fun h => ?_, fun h => ⟨⟨⟨b20 ha20, b20 hk20⟩, hc⟩, fun h2 => ⟨⟨⟨b20 ha20, b20 hk20⟩, hc⟩, fun h3 => ?_, fun h3 => ?_⟩, fun h2 => ?_⟩⟩⟩
      · rw [nM_lt hc (by omega)] at h; omega
      · rw [iN_inj (by omega) (by omega)] at h
        rw [if_pos (Or.inl h)] at ih
        rw [iN_one]
        exact ih _
      · rw [iN_inj (by omega) (by omega)] at h
        rw [na, nk] at h2 h3
        rw [if_neg (fun e => e.elim h h2), if_neg (Int32.not_le.mpr h3)] at ih
        rw [iN_one, na, nk]
        exact ih _
      · rw [iN_inj (by omega) (by omega)] at h
        rw [na, nk] at h2 h3
        rw [if_neg (fun e => e.elim h h2), if_pos (Int32.not_lt.mp h3)] at ih
        rw [iN_one, na, nk]
        exact ih _
      · rw [na, nk] at h2
        rw [if_pos (Or.inr h2)] at ih
        rw [iN_one]
        exact ih _
  refine w182_326 ?_
  refine g_forJ (J := Option Value × Option Value) (nM (σ 326)) (fun k u => [some (.ref 326), some (.int (nfold (bsR (σ 326)) k (-2, 0)).1), some (.int (nfold (bsR (σ 326)) k (-2, 0)).2), some (.int (iN k)), u.1, u.2]) (fun _ => σ) (fun _ => True) (fun _ u => ?_) (fun k hk _ ih u => ?_) 0 (Nat.zero_le _) trivial (none, none)
  · refine v182_a ⟨by decide, fun _ => hK, fun h => ?_⟩
    rw [nM_lt hc (by omega)] at h; omega
  · refine v182_a ⟨by decide, fun h => ?_, fun _ => inner k _ _ hk (fun u1 u2 => ih trivial (u1, u2))⟩
    rw [nM_lt hc (by omega)] at h; omega
noncomputable def f182 : gD := fun Lv σ => match Lv with
  | [some (.ref p), none, none, none, none, none] => cond (Nat.beq p 326) (some (some (0 ≤ σ p 3 ∧ σ p 3 ≤ 20), some (.int (fBest (σ p))), σ)) none
  | _ => none
theorem ok182 : gFok 182 f182 := by
  intro Lv σ q h hc K hK
  unfold f182 at h
  split at h
  · rename_i p
    obtain ⟨hb, h⟩ := c_no h
    have hb0 := hb
    have e := b_eq hb0
    subst e
    cases h
    exact s182_326 (hc _ rfl) hK
  · cases h
noncomputable def gpfI_l : List (Nat × gD) := (182, f182) :: gpfH_l
noncomputable def gpfI : gP := gpl0 gpfI_l
theorem gpfI_ok : gPok gpfI := gpl0_cons ok182 (gpfH_ok)
