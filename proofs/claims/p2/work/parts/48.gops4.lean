/-! THE REFERENCE: its calls, keep, restore, undo, station -/
theorem s01 {f : Int32} (h : 0 ≤ f ∧ f ≤ 1) : f = iN f.toNatClampNeg ∧ f.toNatClampNeg ≤ 1 := by
  obtain ⟨e, l⟩ := iN_of h.1
  refine ⟨e, ?_⟩
  have h2 := h.2
  rw [e] at h2
  exact (iN_le (m := 1) l (by decide)).mp h2
theorem i330m (k n : Nat) (hk : k ≤ n) (hn : n < 9) : (330 * iN k : Int32) = iN (330 * k) ∧ (330 * iN k : Int32).toNatClampNeg = 330 * k ∧ (0 : Int32) ≤ 330 * iN k ∧ 330 * iN k ≤ iN (330 * n) := by
  have e : (330 * iN k : Int32) = iN (330 * k) := iN_mul 330 k
  rw [e, iN_nat (by omega)]
  exact ⟨rfl, rfl, (iN_le (k := 0) (by decide) (by omega)).mpr (by omega), (iN_le (by omega) (by omega)).mpr (by omega)⟩
def hKp (σ : gS) (f : Nat) : gS := grow (grow σ 328 (rla (σ 324) (σ 328) 0 (330 * f) 330)) 329 (rup (σ 329) f 1)
abbrev isSl (f : Int32) : Prop := 0 ≤ f ∧ f ≤ 1
set_option maxRecDepth 20000 in
theorem w221 {σ : gS} {K : gK} {f : Int32} (h : ((¬ (bI ((0 : Int32) ≤ f ∧ f ≤ (1 : Int32))) = 0 → ((0 ≤ (0 : Int32) ∧ (0 : Int32) ≤ iN (gln 324 - 330)) ∧ (0 ≤ (330 * f) ∧ (330 * f) ≤ iN (gln 328 - 330)) ∧ (324 = 328 → (330 * f).toNatClampNeg + 330 ≤ (0 : Int32).toNatClampNeg)) ∧ ((0 ≤ f ∧ f < 2) ∧ ((1 : Int32) = 0 ∨ (1 : Int32) = 1)) ∧ (0 ≤ (3 : Int32) ∧ (3 : Int32) < 330) ∧ K (some (.int ((gup (grow σ 328 (rla (σ 324) (σ 328) (0 : Int32).toNatClampNeg (330 * f).toNatClampNeg 330)) 329 f.toNatClampNeg 1) 324 3))) (gup (grow σ 328 (rla (σ 324) (σ 328) (0 : Int32).toNatClampNeg (330 * f).toNatClampNeg 330)) 329 f.toNatClampNeg 1)) ∧ ((bI ((0 : Int32) ≤ f ∧ f ≤ (1 : Int32))) = 0 → K (some (.int (-1))) σ))) : gE 221 0 [some (.ref 323), some (.int f)] [] σ K :=
  gw_run (cy := 221) (cuts := []) (inl := []) (pf := gpfP) gpfP_ok 400 (by decide) h
theorem s221 {σ : gS} {K : gK} {f : Int32} (hK : K (some (.int (if isSl f then σ 324 3 else -1))) (if isSl f then hKp σ f.toNatClampNeg else σ)) : gE 221 0 [some (.ref 323), some (.int f)] [] σ K := by
  refine w221 ?_
  simp only [bI_0]
  refine ⟨fun h => ?_, fun h => ?_⟩
  · have h := Decidable.not_not.mp h
    rw [if_pos h, if_pos h] at hK
    obtain ⟨e, l⟩ := s01 h
    obtain ⟨m, hm⟩ : ∃ m, f.toNatClampNeg = m := ⟨_, rfl⟩
    rw [hm] at e l hK
    rw [e]
    obtain ⟨-, x1, x2, x3⟩ := i330m m 1 l (by decide)
    rw [x1, z_nat, iN_nat (by omega)]
    refine ⟨⟨by decide, ⟨x2, x3⟩, fun h => absurd h (by decide)⟩, ⟨⟨(iN_le (k := 0) (by decide) (by omega)).mpr (by omega), (iN_lt (m := 2) (by omega) (by decide)).mpr (by omega)⟩, by decide⟩, by decide, ?_⟩
    simp (disch := decide) only [gup_grow, grow_ne]
    exact hK
  · rw [if_neg h, if_neg h] at hK; exact hK
noncomputable def f221 : gD := fun Lv σ => match Lv with
  | [some (.ref q0), some (.int f)] => cond (Nat.beq q0 323) (some (none, some (.int (if isSl f then σ 324 3 else -1)), if isSl f then hKp σ f.toNatClampNeg else σ)) none
  | _ => none
theorem ok221 : gFok 221 f221 := by
  intro Lv σ q h hc K hK
  unfold f221 at h
  split at h
  · rename_i q0 f
    obtain ⟨hb, h⟩ := c_no h
    have hb0 := hb
    have e0 := b_eq hb0
    subst e0
    cases h
    exact s221 hK
  · cases h
abbrev gRes (σ : gS) (f : Int32) : Prop := isSl f ∧ ¬ σ 329 f.toNatClampNeg = 0
def aRes (σ : gS) (f : Int32) : Int32 := if isSl f then (if σ 329 f.toNatClampNeg = 0 then -2 else rowAt (σ 328) f.toNatClampNeg 3) else -1
set_option maxRecDepth 20000 in
theorem w222 {σ : gS} {K : gK} {f : Int32} (h : ((¬ (bI ((0 : Int32) ≤ f ∧ f ≤ (1 : Int32))) = 0 → (0 ≤ f ∧ f < 2) ∧ ((¬ (σ 329 f.toNatClampNeg) = 0 → (0 ≤ σ 323 6 ∧ σ 323 6 ≤ 8) ∧ ((0 ≤ (330 * f) ∧ (330 * f) ≤ iN (gln 328 - 330)) ∧ (0 ≤ (0 : Int32) ∧ (0 : Int32) ≤ iN (gln 324 - 330)) ∧ (328 = 324 → (0 : Int32).toNatClampNeg + 330 ≤ (330 * f).toNatClampNeg)) ∧ (0 ≤ (3 : Int32) ∧ (3 : Int32) < 330) ∧ K (some (.int ((grow (hKe σ) 324 (rla ((hKe σ) 328) ((hKe σ) 324) (330 * f).toNatClampNeg (0 : Int32).toNatClampNeg 330)) 324 3))) (grow (hKe σ) 324 (rla ((hKe σ) 328) ((hKe σ) 324) (330 * f).toNatClampNeg (0 : Int32).toNatClampNeg 330))) ∧ ((σ 329 f.toNatClampNeg) = 0 → K (some (.int (-2))) σ))) ∧ ((bI ((0 : Int32) ≤ f ∧ f ≤ (1 : Int32))) = 0 → K (some (.int (-1))) σ))) : gE 222 0 [some (.ref 323), some (.int f)] [] σ K :=
  gw_run (cy := 222) (cuts := []) (inl := []) (pf := gpfP) gpfP_ok 400 (by decide) h
theorem s222 {σ : gS} {K : gK} {f : Int32} (hc : RS σ ∧ RZ σ) (hK : K (some (.int (aRes σ f))) (hOp σ (gRes σ f) (rowAt (σ 328) f.toNatClampNeg))) : gE 222 0 [some (.ref 323), some (.int f)] [] σ K := by
  obtain ⟨⟨⟨h3, h9⟩, hu⟩, hz⟩ := hc
  unfold aRes hOp at hK
  refine w222 ?_
  simp only [bI_0]
  refine ⟨fun h => ?_, fun h => ?_⟩
  · have h := Decidable.not_not.mp h
    rw [if_pos h] at hK
    obtain ⟨e, l⟩ := s01 h
    obtain ⟨m, hm⟩ : ∃ m, f.toNatClampNeg = m := ⟨_, rfl⟩
    have hf := h
    rw [hm] at e l
    obtain ⟨-, x1, x2, x3⟩ := i330m m 1 l (by decide)
    refine ⟨⟨h.1, by rw [e]; exact (iN_lt (m := 2) (by omega) (by decide)).mpr (by omega)⟩, fun h2 => ⟨hu, ⟨?_, by decide, fun h => absurd h (by decide)⟩, by decide, ?_⟩, fun h2 => ?_⟩
    · rw [e]; exact ⟨x2, x3⟩
    · rw [if_neg h2, if_pos (show gRes σ f from ⟨h, h2⟩), hm] at hK
      rw [grow_at, e, x1, z_nat, hKe_324, hKe_ne (by decide) (by decide), rla_row m hz.1]
      exact hK
    · rw [if_pos h2, if_neg (show ¬ gRes σ f from fun q => q.2 h2)] at hK; exact hK
  · rw [if_neg h, if_neg (show ¬ gRes σ f from fun q => h q.1)] at hK; exact hK
noncomputable def f222 : gD := fun Lv σ => match Lv with
  | [some (.ref q0), some (.int f)] => cond (Nat.beq q0 323) (some (some (RS σ ∧ RZ σ), some (.int (aRes σ f)), hOp σ (gRes σ f) (rowAt (σ 328) f.toNatClampNeg))) none
  | _ => none
theorem ok222 : gFok 222 f222 := by
  intro Lv σ q h hc K hK
  unfold f222 at h
  split at h
  · rename_i q0 f
    obtain ⟨hb, h⟩ := c_no h
    have hb0 := hb
    have e0 := b_eq hb0
    subst e0
    cases h
    exact s222 (hc _ rfl) hK
  · cases h
def hUn (σ : gS) : gS := if σ 323 6 = 0 then σ else grow (grow σ 323 (rup (σ 323) 6 (σ 323 6 - 1))) 324 (rowAt (σ 327) (σ 323 6 - 1).toNatClampNeg)
set_option maxRecDepth 20000 in
theorem w223 {σ : gS} {K : gK} (h : ((¬ (σ 323 6) = 0 → ((0 ≤ (330 * ((gup σ 323 6 ((σ 323 6) - 1)) 323 6)) ∧ (330 * ((gup σ 323 6 ((σ 323 6) - 1)) 323 6)) ≤ iN (gln 327 - 330)) ∧ (0 ≤ (0 : Int32) ∧ (0 : Int32) ≤ iN (gln 324 - 330)) ∧ (327 = 324 → (0 : Int32).toNatClampNeg + 330 ≤ (330 * ((gup σ 323 6 ((σ 323 6) - 1)) 323 6)).toNatClampNeg)) ∧ K (some (.int ((grow (gup σ 323 6 ((σ 323 6) - 1)) 324 (rla ((gup σ 323 6 ((σ 323 6) - 1)) 327) ((gup σ 323 6 ((σ 323 6) - 1)) 324) (330 * ((gup σ 323 6 ((σ 323 6) - 1)) 323 6)).toNatClampNeg (0 : Int32).toNatClampNeg 330)) 323 6))) (grow (gup σ 323 6 ((σ 323 6) - 1)) 324 (rla ((gup σ 323 6 ((σ 323 6) - 1)) 327) ((gup σ 323 6 ((σ 323 6) - 1)) 324) (330 * ((gup σ 323 6 ((σ 323 6) - 1)) 323 6)).toNatClampNeg (0 : Int32).toNatClampNeg 330))) ∧ ((σ 323 6) = 0 → K (some (.int (-1))) σ))) : gE 223 0 [some (.ref 323)] [] σ K :=
  gw_run (cy := 223) (cuts := []) (inl := []) (pf := gpfP) gpfP_ok 400 (by decide) h
theorem s223 {σ : gS} {K : gK} (hc : RS σ ∧ RZ σ) (hK : K (some (.int (if σ 323 6 = 0 then -1 else σ 323 6 - 1))) (hUn σ)) : gE 223 0 [some (.ref 323)] [] σ K := by
  obtain ⟨⟨⟨h3, h9⟩, hu⟩, hz⟩ := hc
  unfold hUn at hK
  refine w223 ⟨fun h => ?_, fun h => ?_⟩
  · rw [if_neg h, if_neg h] at hK
    obtain ⟨m, hm, hm7⟩ : ∃ m, σ 323 6 - 1 = iN m ∧ m ≤ 7 := by
      have g0 : 0 ≤ σ 323 6 - 1 := by grind
      obtain ⟨e, l⟩ := iN_of g0
      refine ⟨_, e, ?_⟩
      have g7 : σ 323 6 - 1 ≤ 7 := by grind
      rw [e] at g7
      exact (iN_le (m := 7) l (by decide)).mp g7
    obtain ⟨-, x1, x2, x3⟩ := i330m m 7 hm7 (by decide)
    rw [hm, iN_nat (by omega)] at hK
    simp (disch := decide) only [gup_grow, grow_at, grow_ne, rup_at]
    rw [hm, x1, z_nat, rla_row m hz.1]
    exact ⟨⟨⟨x2, x3⟩, by decide, fun h => absurd h (by decide)⟩, hK⟩
  · rw [if_pos h, if_pos h] at hK; exact hK
noncomputable def f223 : gD := fun Lv σ => match Lv with
  | [some (.ref q0)] => cond (Nat.beq q0 323) (some (some (RS σ ∧ RZ σ), some (.int (if σ 323 6 = 0 then -1 else σ 323 6 - 1)), hUn σ)) none
  | _ => none
theorem ok223 : gFok 223 f223 := by
  intro Lv σ q h hc K hK
  unfold f223 at h
  split at h
  · rename_i q0
    obtain ⟨hb, h⟩ := c_no h
    have hb0 := hb
    have e0 := b_eq hb0
    subst e0
    cases h
    exact s223 (hc _ rfl) hK
  · cases h
/-- the travellers behind moved one place down: k numbers from a on -/
def csh (R : gW) (a k : Nat) : gW := fun j => if a ≤ j ∧ j < a + k then R (j + 10) else R j
theorem csh_0 (R : gW) (a : Nat) : csh R a 0 = R := by funext j; unfold csh; rw [if_neg (by omega)]
theorem csh_s (R : gW) (a k : Nat) : rup (csh R a k) (a + k) (csh R a k (a + k + 10)) = csh R a (k + 1) := by
  funext j
  unfold rup csh
  by_cases h : j = a + k
  · rw [if_pos h, if_neg (by omega), if_pos (by omega), h]
  · rw [if_neg h]
    by_cases h2 : a ≤ j ∧ j < a + k
    · rw [if_pos h2, if_pos (by omega)]
    · rw [if_neg h2, if_neg (by omega)]
/-- traveller t gets off -/
def fOff (R : gW) (t : Nat) : gW := radd (csh (radd (fTe R 4 (iN t) (fld R t 0)) 3 (-1)) (9 + 10 * t) (10 * (nM R - 1 - t))) 8 1
theorem fTe_ne {R : gW} {w a b : Int32} {j : Nat} (hR : 0 ≤ R 209 ∧ R 209 ≤ 40) (h : j < 209 ∨ 330 ≤ j) : fTe R w a b j = R j := by
  have key : ∀ S : gW, S 209 ≤ 39 → 0 ≤ S 209 → fTe0 S w a b j = S j := by
    intro S h1 h2
    obtain ⟨e, l⟩ := iN_of h2
    have l9 : (S 209).toNatClampNeg ≤ 39 := by
      rw [e] at h1
      exact (iN_le (m := 39) l (by decide)).mp h1
    unfold fTe0
    rw [rup_ne (by omega), rup_ne (by omega), rup_ne (by omega), rup_ne (by omega)]
  unfold fTe
  by_cases h40 : R 209 = 40
  · rw [if_pos h40, key _ (by rw [rup_at]; decide) (by rw [rup_at]; decide), rup_ne (by omega)]
    unfold lsh
    rw [if_neg (by omega)]
  · rw [if_neg h40]
    exact key R (by have := hR.2; grind) hR.1
theorem fTe_209 {R : gW} {w a b : Int32} (hR : 0 ≤ R 209 ∧ R 209 ≤ 40) : fTe R w a b 209 = if R 209 = 40 then 40 else R 209 + 1 := by
  unfold fTe
  by_cases h40 : R 209 = 40
  · rw [if_pos h40, if_pos h40]
    unfold fTe0
    rw [rup_at, rup_at]
    decide
  · rw [if_neg h40, if_neg h40]
    unfold fTe0
    rw [rup_at]
theorem fTe_b {R : gW} {w a b : Int32} (hR : 0 ≤ R 209 ∧ R 209 ≤ 40) : 0 ≤ fTe R w a b 209 ∧ fTe R w a b 209 ≤ 40 := by
  rw [fTe_209 hR]
  by_cases h40 : R 209 = 40
  · rw [if_pos h40]; decide
  · rw [if_neg h40]; have := hR.2; have := hR.1; grind
set_option maxRecDepth 20000 in
theorem w218 {σ : gS} {K : gK} {t : Int32} (h : (0 ≤ (9 + 10 * t + (0 : Int32)) ∧ (9 + 10 * t + (0 : Int32)) < 330) ∧ (0 ≤ σ 324 209 ∧ σ 324 209 ≤ 40) ∧ (0 ≤ (3 : Int32) ∧ (3 : Int32) < 330) ∧ (0 ≤ (3 : Int32) ∧ (3 : Int32) < 330) ∧ gE 218 26 [some (.ref 323), some (.int t), none] [] (gup (grow σ 324 (fTe (σ 324) (4 : Int32) t (σ 324 (9 + 10 * t + (0 : Int32)).toNatClampNeg))) 324 3 (((grow σ 324 (fTe (σ 324) (4 : Int32) t (σ 324 (9 + 10 * t + (0 : Int32)).toNatClampNeg))) 324 3) - 1)) K) : gE 218 0 [some (.ref 323), some (.int t), none] [] σ K :=
  gw_run (cy := 218) (cuts := [26, 32, 61, 78]) (inl := []) (pf := gpfP) gpfP_ok 400 (by decide) h
set_option maxRecDepth 20000 in
theorem c218_26 {σ : gS} {K : gK} {l1 : Int32} (h : gE 218 32 [some (.ref 323), some (.int l1), some (.int (9 + 10 * l1 + (0 : Int32)))] [] σ K) : gE 218 26 [some (.ref 323), some (.int l1), none] [] σ K :=
  gw_run (cy := 218) (cuts := [26, 32, 61, 78]) (inl := []) (pf := gpfP) gpfP_ok 400 (by decide) h
set_option maxRecDepth 20000 in
theorem c218_32 {σ : gS} {K : gK} {l1 l2 : Int32} (h : (0 ≤ (3 : Int32) ∧ (3 : Int32) < 330) ∧ ((¬ l2 < (9 + 10 * (σ 324 3) + (0 : Int32)) → (0 ≤ (8 : Int32) ∧ (8 : Int32) < 330) ∧ (0 ≤ (8 : Int32) ∧ (8 : Int32) < 330) ∧ gE 218 78 [some (.ref 323), some (.int l1), some (.int l2)] [] (gup σ 324 8 ((σ 324 8) + 1)) K) ∧ (l2 < (9 + 10 * (σ 324 3) + (0 : Int32)) → (0 ≤ (l2 + 10) ∧ (l2 + 10) < 330) ∧ (0 ≤ l2 ∧ l2 < 330) ∧ gE 218 61 [some (.ref 323), some (.int l1), some (.int l2)] [] (gup σ 324 l2.toNatClampNeg (σ 324 (l2 + 10).toNatClampNeg)) K))) : gE 218 32 [some (.ref 323), some (.int l1), some (.int l2)] [] σ K :=
  gw_run (cy := 218) (cuts := [26, 32, 61, 78]) (inl := []) (pf := gpfP) gpfP_ok 400 (by decide) h
set_option maxRecDepth 20000 in
theorem c218_78 {σ : gS} {K : gK} {l1 l2 : Int32} (h : K none σ) : gE 218 78 [some (.ref 323), some (.int l1), some (.int l2)] [] σ K :=
  gw_run (cy := 218) (cuts := [26, 32, 61, 78]) (inl := []) (pf := gpfP) gpfP_ok 400 (by decide) h
set_option maxRecDepth 20000 in
theorem c218_61 {σ : gS} {K : gK} {l1 l2 : Int32} (h : gE 218 32 [some (.ref 323), some (.int l1), some (.int (l2 + 1))] [] σ K) : gE 218 61 [some (.ref 323), some (.int l1), some (.int l2)] [] σ K :=
  gw_run (cy := 218) (cuts := [26, 32, 61, 78]) (inl := []) (pf := gpfP) gpfP_ok 400 (by decide) h
theorem s218 {σ : gS} {K : gK} {t : Int32} (hc : bN (σ 324) ∧ (0 ≤ t ∧ t < 20) ∧ t.toNatClampNeg < nM (σ 324)) (hK : K none (grow σ 324 (fOff (σ 324) t.toNatClampNeg))) : gE 218 0 [some (.ref 323), some (.int t), none] [] σ K := by
  obtain ⟨⟨h3, h9⟩, ht, hn⟩ := hc
  obtain ⟨e3, l3⟩ := nM_of h3
  obtain ⟨et, lt⟩ := t20 ht
  obtain ⟨m, hm⟩ : ∃ m, t.toNatClampNeg = m := ⟨_, rfl⟩
  rw [hm] at et lt hK hn
  subst et
  refine w218 ⟨ixb0 lt, h9, by decide, by decide, c218_26 ?_⟩
  rw [ix0 lt]
  simp (disch := decide) only [gup_grow, grow_grow, grow_at]
  obtain ⟨Q, hQ⟩ : ∃ Q, Q = radd (fTe (σ 324) 4 (iN m) (fld (σ 324) m 0)) 3 (-1) := ⟨_, rfl⟩
  have hQ2 : rup (fTe (σ 324) 4 (iN m) (σ 324 (9 + 10 * m + 0))) 3 (fTe (σ 324) 4 (iN m) (σ 324 (9 + 10 * m + 0)) 3 - 1) = Q := by
    rw [hQ]
    unfold radd
    rw [Int32.sub_eq_add_neg]
    rfl
  have hQ3 : Q 3 = iN (nM (σ 324) - 1) := by
    rw [← hQ2, rup_at, fTe_ne h9 (by omega), e3]
    exact iN_sub (d := 1) (by omega) (by omega)
  rw [hQ2]
  have e9 : (9 + 10 * iN m + (0 : Int32)) = iN (9 + 10 * m) := by
    show iN 9 + iN 10 * iN m + iN 0 = _
    rw [iN_mul, iN_add, iN_add, Nat.add_zero]
  have en : ∀ k, k < 100 → (9 + 10 * iN k + (0 : Int32)) = iN (9 + 10 * k) := by
    intro k hk
    show iN 9 + iN 10 * iN k + iN 0 = _
    rw [iN_mul, iN_add, iN_add, Nat.add_zero]
  rw [e9]
  unfold fOff at hK
  rw [← hQ] at hK
  have c3 : ∀ k, csh Q (9 + 10 * m) k 3 = iN (nM (σ 324) - 1) := by
    intro k
    unfold csh
    rw [if_neg (by omega)]
    exact hQ3
  have main := g_forI (y := 218) (pc := 32) (K := K) (10 * (nM (σ 324) - 1 - m)) (fun k => [some (.ref 323), some (.int (iN m)), some (.int (iN (9 + 10 * m + k)))]) (fun k => grow σ 324 (csh Q (9 + 10 * m) k)) (fun _ => True) (fun _ => by
    refine c218_32 ⟨by decide, fun h => ⟨by decide, by decide, c218_78 ?_⟩, fun h => ?_⟩
    · simp (disch := decide) only [gup_grow, grow_grow, grow_at]
      exact hK
    · exfalso
      rw [grow_at, c3, en _ (by omega), iN_lt (by omega) (by omega)] at h
      omega) (fun k hk _ ih => by
    have ih := ih trivial
    refine c218_32 ⟨by decide, fun h => ?_, fun h => ?_⟩
    · exfalso
      rw [grow_at, c3, en _ (by omega), iN_lt (by omega) (by omega)] at h
      omega
    · have e10 : (iN (9 + 10 * m + k) + 10 : Int32) = iN (9 + 10 * m + k + 10) := iN_add _ 10
      rw [e10, iN_nat (by omega), iN_nat (by omega)]
      refine ⟨i330 (by omega), i330 (by omega), c218_61 ?_⟩
      rw [gup_grow, grow_grow, grow_at, csh_s, iN_one]
      exact ih) 0 (Nat.zero_le _) trivial
  rw [csh_0] at main
  exact main
noncomputable def f218 : gD := fun Lv σ => match Lv with
  | [some (.ref q0), some (.int t), none] => cond (Nat.beq q0 323) (some (some (bN (σ 324) ∧ (0 ≤ t ∧ t < 20) ∧ t.toNatClampNeg < nM (σ 324)), none, grow σ 324 (fOff (σ 324) t.toNatClampNeg))) none
  | _ => none
theorem ok218 : gFok 218 f218 := by
  intro Lv σ q h hc K hK
  unfold f218 at h
  split at h
  · rename_i q0 t
    obtain ⟨hb, h⟩ := c_no h
    have hb0 := hb
    have e0 := b_eq hb0
    subst e0
    cases h
    exact s218 (hc _ rfl) hK
  · cases h
noncomputable def gpfQ_l : List (Nat × gD) := (218, f218) :: gpfP_l
noncomputable def gpfQ : gP := gpl0 gpfQ_l
theorem gpfQ_ok : gPok gpfQ := gpl0_cons ok218 (gpfP_ok)
