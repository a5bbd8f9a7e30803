-- text 19
/-! THE REFERENCE: its calls, keep, restore, undo, station -/
theorem s01 {f : Int32} (h : 0 ≤ f ∧ f ≤ 1) : f = iN f.toNatClampNeg ∧ f.toNatClampNeg ≤ 1 := by
  obtain ⟨e, l⟩ := iN_of h.1
  refine ⟨e, ?_⟩
  have h2 := h.2
  rw [e] at h2
  exact (iN_le (m := 1) l (by decide)).mp h2
theorem i330m (k n : Nat) (hk : k ≤ n) (hn : n < 9) : (330 * iN k : Int32) = iN (330 * k) ∧ (330 * iN k : Int32).toNatClampNeg = 330 * k ∧ (0 : Int32) ≤ 330 * iN k ∧ 330 * iN k ≤ iN (330 * n) := by
  have e : (330 * iN k : Int32) = iN (330 * k) := iN_mul 330 k
  rw [e, iN_nat (by omega)]
  exact ⟨rfl, rfl, (iN_le (k := 0) (by decide) (by omega)).mpr (by omega), (iN_le (by omega) (by omega)).mpr (by omega)⟩
def hKp (σ : gS) (f : Nat) : gS := grow (grow σ 328 (rla (σ 324) (σ 328) 0 (330 * f) 330)) 329 (rup (σ 329) f 1)
abbrev isSl (f : Int32) : Prop := 0 ≤ f ∧ f ≤ 1
set_option maxRecDepth 20000 in
theorem w221 {σ : gS} {K : gK} {f : Int32} (h : ((¬ (bI ((0 : Int32) ≤ f ∧ f ≤ (1 : Int32))) = 0 → ((0 ≤ (0 : Int32) ∧ (0 : Int32) ≤ iN (gln 324 - 330)) ∧ (0 ≤ (330 * f) ∧ (330 * f) ≤ iN (gln 328 - 330)) ∧ (324 = 328 → (330 * f).toNatClampNeg + 330 ≤ (0 : Int32).toNatClampNeg)) ∧ ((0 ≤ f ∧ f < 2) ∧ ((1 : Int32) = 0 ∨ (1 : Int32) = 1)) ∧ (0 ≤ (3 : Int32) ∧ (3 : Int32) < 330) ∧ K (some (.int ((gup (grow σ 328 (rla (σ 324) (σ 328) (0 : Int32).toNatClampNeg (330 * f).toNatClampNeg 330)) 329 f.toNatClampNeg 1) 324 3))) (gup (grow σ 328 (rla (σ 324) (σ 328) (0 : Int32).toNatClampNeg (330 * f).toNatClampNeg 330)) 329 f.toNatClampNeg 1)) ∧ ((bI ((0 : Int32) ≤ f ∧ f ≤ (1 : Int32))) = 0 → K (some (.int (-1))) σ))) : gE 221 0 [some (.ref 323), some (.int f)] [] σ K :=
  gw_run (cy := 221) (cuts := []) (inl := []) (pf := gpfP) gpfP_ok 400 (by decide) h
theorem s221 {σ : gS} {K : gK} {f : Int32} (hK : K (some (.int (if isSl f then σ 324 3 else -1))) (if isSl f then hKp σ f.toNatClampNeg else σ)) : gE 221 0 [some (.ref 323), some (.int f)] [] σ K := by
  refine w221 ?_
  simp only [bI_0]
  refine ⟨fun h => ?_, fun h => ?_⟩
  · have h := Decidable.not_not.mp h
    rw [if_pos h, if_pos h] at hK
    obtain ⟨e, l⟩ := s01 h
    obtain ⟨m, hm⟩ : ∃ m, f.toNatClampNeg = m := ⟨_, rfl⟩
    rw [hm] at e l hK
    rw [e]
    obtain ⟨-, x1, x2, x3⟩ := i330m m 1 l (by decide)
    rw [x1, z_nat, iN_nat (by omega)]
    refine ⟨⟨by decide, ⟨x2, x3⟩, fun h => absurd h (by decide)⟩, ⟨⟨(iN_le (k := 0) (by decide) (by omega)).mpr (by omega), (iN_lt (m := 2) (by omega) (by decide)).mpr (by omega)⟩, by decide⟩, by decide, ?_⟩
    simp (disch := decide) only [gup_grow, grow_ne]
    exact hK
  · rw [if_neg h, if_neg h] at hK; exact hK
noncomputable def f221 : gD := fun Lv σ => match Lv with
  | [some (.ref q0), some (.int f)] => cond (Nat.beq q0 323) (some (none, some (.int (if isSl f then σ 324 3 else -1)), if isSl f then hKp σ f.toNatClampNeg else σ)) none
  | _ => none
theorem ok221 : gFok 221 f221 := by
  intro Lv σ q h hc K hK
  unfold f221 at h
  split at h
  · rename_i q0 f
    obtain ⟨hb, h⟩ := c_no h
    have hb0 := hb
    have e0 := b_eq hb0
    subst e0
    cases h
    exact s221 hK
  · cases h
abbrev gRes (σ : gS) (f : Int32) : Prop := isSl f ∧ ¬ σ 329 f.toNatClampNeg = 0
def aRes (σ : gS) (f : Int32) : Int32 := if isSl f then (if σ 329 f.toNatClampNeg = 0 then -2 else rowAt (σ 328) f.toNatClampNeg 3) else -1
set_option maxRecDepth 20000 in
theorem w222 {σ : gS} {K : gK} {f : Int32} (h : ((¬ (bI ((0 : Int32) ≤ f ∧ f ≤ (1 : Int32))) = 0 → (0 ≤ f ∧ f < 2) ∧ ((¬ (σ 329 f.toNatClampNeg) = 0 → (0 ≤ σ 323 6 ∧ σ 323 6 ≤ 8) ∧ ((0 ≤ (330 * f) ∧ (330 * f) ≤ iN (gln 328 - 330)) ∧ (0 ≤ (0 : Int32) ∧ (0 : Int32) ≤ iN (gln 324 - 330)) ∧ (328 = 324 → (0 : Int32).toNatClampNeg + 330 ≤ (330 * f).toNatClampNeg)) ∧ (0 ≤ (3 : Int32) ∧ (3 : Int32) < 330) ∧ K (some (.int ((grow (hKe σ) 324 (rla ((hKe σ) 328) ((hKe σ) 324) (330 * f).toNatClampNeg (0 : Int32).toNatClampNeg 330)) 324 3))) (grow (hKe σ) 324 (rla ((hKe σ) 328) ((hKe σ) 324) (330 * f).toNatClampNeg (0 : Int32).toNatClampNeg 330))) ∧ ((σ 329 f.toNatClampNeg) = 0 → K (some (.int (-2))) σ))) ∧ ((bI ((0 : Int32) ≤ f ∧ f ≤ (1 : Int32))) = 0 → K (some (.int (-1))) σ))) : gE 222 0 [some (.ref 323), some (.int f)] [] σ K :=
  gw_run (cy := 222) (cuts := []) (inl := []) (pf := gpfP) gpfP_ok 400 (by decide) h
theorem s222 {σ : gS} {K : gK} {f : Int32} (hc : RS σ ∧ RZ σ) (hK : K (some (.int (aRes σ f))) (hOp σ (gRes σ f) (rowAt (σ 328) f.toNatClampNeg))) : gE 222 0 [some (.ref 323), some (.int f)] [] σ K := by
  obtain ⟨⟨⟨h3, h9⟩, hu⟩, hz⟩ := hc
  unfold aRes hOp at hK
  refine w222 ?_
  simp only [bI_0]
  refine ⟨fun h => ?_, fun h => ?_⟩
  · have h := Decidable.not_not.mp h
    rw [if_pos h] at hK
    obtain ⟨e, l⟩ := s01 h
    obtain ⟨m, hm⟩ : ∃ m, f.toNatClampNeg = m := ⟨_, rfl⟩
    have hf := h
    rw [hm] at e l
    obtain ⟨-, x1, x2, x3⟩ := i330m m 1 l (by decide)
    refine ⟨⟨h.1, by rw [e]; exact (iN_lt (m := 2) (by omega) (by decide)).mpr (by omega)⟩, fun h2 => ⟨hu, ⟨?_, by decide, fun h => absurd h (by decide)⟩, by decide, ?_⟩, fun h2 => ?_⟩
    · rw [e]; exact ⟨x2, x3⟩
    · rw [if_neg h2, if_pos (show gRes σ f from ⟨h, h2⟩), hm] at hK
      rw [grow_at, e, x1, z_nat, hKe_324, hKe_ne (by decide) (by decide), rla_row m hz.1]
      exact hK
    · rw [if_pos h2, if_neg (show ¬ gRes σ f from fun q => q.2 h2)] at hK; exact hK
  · rw [if_neg h, if_neg (show ¬ gRes σ f from fun q => h q.1)] at hK; exact hK
noncomputable def f222 : gD := fun Lv σ => match Lv with
  | [some (.ref q0), some (.int f)] => cond (Nat.beq q0 323) (some (some (RS σ ∧ RZ σ), some (.int (aRes σ f)), hOp σ (gRes σ f) (rowAt (σ 328) f.toNatClampNeg))) none
  | _ => none
theorem ok222 : gFok 222 f222 := by
  intro Lv σ q h hc K hK
  unfold f222 at h
  split at h
  · rename_i q0 f
    obtain ⟨hb, h⟩ := c_no h
    have hb0 := hb
    have e0 := b_eq hb0
    subst e0
    cases h
    exact s222 (hc _ rfl) hK
  · cases h
def hUn (σ : gS) : gS := if σ 323 6 = 0 then σ else grow (grow σ 323 (rup (σ 323) 6 (σ 323 6 - 1))) 324 (rowAt (σ 327) (σ 323 6 - 1).toNatClampNeg)
set_option maxRecDepth 20000 in
theorem w223 {σ : gS} {K : gK} (h : ((¬ (σ 323 6) = 0 → ((0 ≤ (330 * ((gup σ 323 6 ((σ 323 6) - 1)) 323 6)) ∧ (330 * ((gup σ 323 6 ((σ 323 6) - 1)) 323 6)) ≤ iN (gln 327 - 330)) ∧ (0 ≤ (0 : Int32) ∧ (0 : Int32) ≤ iN (gln 324 - 330)) ∧ (327 = 324 → (0 : Int32).toNatClampNeg + 330 ≤ (330 * ((gup σ 323 6 ((σ 323 6) - 1)) 323 6)).toNatClampNeg)) ∧ K (some (.int ((grow (gup σ 323 6 ((σ 323 6) - 1)) 324 (rla ((gup σ 323 6 ((σ 323 6) - 1)) 327) ((gup σ 323 6 ((σ 323 6) - 1)) 324) (330 * ((gup σ 323 6 ((σ 323 6) - 1)) 323 6)).toNatClampNeg (0 : Int32).toNatClampNeg 330)) 323 6))) (grow (gup σ 323 6 ((σ 323 6) - 1)) 324 (rla ((gup σ 323 6 ((σ 323 6) - 1)) 327) ((gup σ 323 6 ((σ 323 6) - 1)) 324) (330 * ((gup σ 323 6 ((σ 323 6) - 1)) 323 6)).toNatClampNeg (0 : Int32).toNatClampNeg 330))) ∧ ((σ 323 6) = 0 → K (some (.int (-1))) σ))) : gE 223 0 [some (.ref 323)] [] σ K :=
  gw_run (cy := 223) (cuts := []) (inl := []) (pf := gpfP) gpfP_ok 400 (by decide) h
theorem s223 {σ : gS} {K : gK} (hc : RS σ ∧ RZ σ) (hK : K (some (.int (if σ 323 6 = 0 then -1 else σ 323 6 - 1))) (hUn σ)) : gE 223 0 [some (.ref 323)] [] σ K := by
  obtain ⟨⟨⟨h3, h9⟩, hu⟩, hz⟩ := hc
  unfold hUn at hK
  refine w223 ⟨fun h => ?_, fun h => ?_⟩
  · rw [if_neg h, if_neg h] at hK
    obtain ⟨m, hm, hm7⟩ : ∃ m, σ 323 6 - 1 = iN m ∧ m ≤ 7 := by
      have g0 : 0 ≤ σ 323 6 - 1 := by grind
      obtain ⟨e, l⟩ := iN_of g0
      refine ⟨_, e, ?_⟩
      have g7 : σ 323 6 - 1 ≤ 7 := by grind
      rw [e] at g7
      exact (iN_le (m := 7) l (by decide)).mp g7
    obtain ⟨-, x1, x2, x3⟩ := i330m m 7 hm7 (by decide)
    rw [hm, iN_nat (by omega)] at hK
    simp (disch := decide) only [gup_grow, grow_at, grow_ne, rup_at]
    rw [hm, x1, z_nat, rla_row m hz.1]
    exact ⟨⟨⟨x2, x3⟩, by decide, fun h => absurd h (by decide)⟩, hK⟩
  · rw [if_pos h, if_pos h] at hK; exact hK
noncomputable def f223 : gD := fun Lv σ => match Lv with
  | [some (.ref q0)] => cond (Nat.beq q0 323) (some (some (RS σ ∧ RZ σ), some (.int (if σ 323 6 = 0 then -1 else σ 323 6 - 1)), hUn σ)) none
  | _ => none
theorem ok223 : gFok 223 f223 := by
  intro Lv σ q h hc K hK
  unfold f223 at h
  split at h
  · rename_i q0
    obtain ⟨hb, h⟩ := c_no h
    have hb0 := hb
    have e0 := b_eq hb0
    subst e0
    cases h
    exact s223 (hc _ rfl) hK
  · cases h
/-- the travellers behind moved one place down: k numbers from a on -/
def csh (R : gW) (a k : Nat) : gW := fun j => if a ≤ j ∧ j < a + k then R (j + 10) else R j
theorem csh_0 (R : gW) (a : Nat) : csh R a 0 = R := by funext j; unfold csh; rw [if_neg (by omega)]
theorem csh_s (R : gW) (a k : Nat) : rup (csh R a k) (a + k) (csh R a k (a + k + 10)) = csh R a (k + 1) := by
  funext j
  unfold rup csh
  by_cases h : j = a + k
  · rw [if_pos h, if_neg (by omega), if_pos (by omega), h]
  · rw [if_neg h]
    by_cases h2 : a ≤ j ∧ j < a + k
    · rw [if_pos h2, if_pos (by omega)]
    · rw [if_neg h2, if_neg (by omega)]
/-- traveller t gets off -/
def fOff (R : gW) (t : Nat) : gW := radd (csh (radd (fTe R 4 (iN t) (fld R t 0)) 3 (-1)) (9 + 10 * t) (10 * (nM R - 1 - t))) 8 1
theorem fTe_ne {R : gW} {w a b : Int32} {j : Nat} (hR : 0 ≤ R 209 ∧ R 209 ≤ 40) (h : j < 209 ∨ 330 ≤ j) : fTe R w a b j = R j := by
  have key : ∀ S : gW, S 209 ≤ 39 → 0 ≤ S 209 → fTe0 S w a b j = S j := by
    intro S h1 h2
    obtain ⟨e, l⟩ := iN_of h2
    have l9 : (S 209).toNatClampNeg ≤ 39 := by
      rw [e] at h1
      exact (iN_le (m := 39) l (by decide)).mp h1
    unfold fTe0
    rw [rup_ne (by omega), rup_ne (by omega), rup_ne (by omega), rup_ne (by omega)]
  unfold fTe
  by_cases h40 : R 209 = 40
  · rw [if_pos h40, key _ (by rw [rup_at]; decide) (by rw [rup_at]; decide), rup_ne (by omega)]
    unfold lsh
    rw [if_neg (by omega)]
  · rw [if_neg h40]
    exact key R (by have := hR.2; grind) hR.1
theorem fTe_209 {R : gW} {w a b : Int32} (hR : 0 ≤ R 209 ∧ R 209 ≤ 40) : fTe R w a b 209 = if R 209 = 40 then 40 else R 209 + 1 := by
  unfold fTe
  by_cases h40 : R 209 = 40
  · rw [if_pos h40, if_pos h40]
    unfold fTe0
    rw [rup_at, rup_at]
    decide
  · rw [if_neg h40, if_neg h40]
    unfold fTe0
    rw [rup_at]
theorem fTe_b {R : gW} {w a b : Int32} (hR : 0 ≤ R 209 ∧ R 209 ≤ 40) : 0 ≤ fTe R w a b 209 ∧ fTe R w a b 209 ≤ 40 := by
  rw [fTe_209 hR]
  by_cases h40 : R 209 = 40
  · rw [if_pos h40]; decide
  · rw [if_neg h40]; have := hR.2; have := hR.1; grind
set_option maxRecDepth 20000 in
theorem w218 {σ : gS} {K : gK} {t : Int32} (h : (0 ≤ (9 + 10 * t + (0 : Int32)) ∧ (9 + 10 * t + (0 : Int32)) < 330) ∧ (0 ≤ σ 324 209 ∧ σ 324 209 ≤ 40) ∧ (0 ≤ (3 : Int32) ∧ (3 : Int32) < 330) ∧ (0 ≤ (3 : Int32) ∧ (3 : Int32) < 330) ∧ gE 218 26 [some (.ref 323), some (.int t), none] [] (gup (grow σ 324 (fTe (σ 324) (4 : Int32) t (σ 324 (9 + 10 * t + (0 : Int32)).toNatClampNeg))) 324 3 (((grow σ 324 (fTe (σ 324) (4 : Int32) t (σ 324 (9 + 10 * t + (0 : Int32)).toNatClampNeg))) 324 3) - 1)) K) : gE 218 0 [some (.ref 323), some (.int t), none] [] σ K :=
  gw_run (cy := 218) (cuts := [26, 32, 61, 78]) (inl := []) (pf := gpfP) gpfP_ok 400 (by decide) h
set_option maxRecDepth 20000 in
theorem c218_26 {σ : gS} {K : gK} {l1 : Int32} (h : gE 218 32 [some (.ref 323), some (.int l1), some (.int (9 + 10 * l1 + (0 : Int32)))] [] σ K) : gE 218 26 [some (.ref 323), some (.int l1), none] [] σ K :=
  gw_run (cy := 218) (cuts := [26, 32, 61, 78]) (inl := []) (pf := gpfP) gpfP_ok 400 (by decide) h
set_option maxRecDepth 20000 in
theorem c218_32 {σ : gS} {K : gK} {l1 l2 : Int32} (h : (0 ≤ (3 : Int32) ∧ (3 : Int32) < 330) ∧ ((¬ l2 < (9 + 10 * (σ 324 3) + (0 : Int32)) → (0 ≤ (8 : Int32) ∧ (8 : Int32) < 330) ∧ (0 ≤ (8 : Int32) ∧ (8 : Int32) < 330) ∧ gE 218 78 [some (.ref 323), some (.int l1), some (.int l2)] [] (gup σ 324 8 ((σ 324 8) + 1)) K) ∧ (l2 < (9 + 10 * (σ 324 3) + (0 : Int32)) → (0 ≤ (l2 + 10) ∧ (l2 + 10) < 330) ∧ (0 ≤ l2 ∧ l2 < 330) ∧ gE 218 61 [some (.ref 323), some (.int l1), some (.int l2)] [] (gup σ 324 l2.toNatClampNeg (σ 324 (l2 + 10).toNatClampNeg)) K))) : gE 218 32 [some (.ref 323), some (.int l1), some (.int l2)] [] σ K :=
  gw_run (cy := 218) (cuts := [26, 32, 61, 78]) (inl := []) (pf := gpfP) gpfP_ok 400 (by decide) h
set_option maxRecDepth 20000 in
theorem c218_78 {σ : gS} {K : gK} {l1 l2 : Int32} (h : K none σ) : gE 218 78 [some (.ref 323), some (.int l1), some (.int l2)] [] σ K :=
  gw_run (cy := 218) (cuts := [26, 32, 61, 78]) (inl := []) (pf := gpfP) gpfP_ok 400 (by decide) h
set_option maxRecDepth 20000 in
theorem c218_61 {σ : gS} {K : gK} {l1 l2 : Int32} (h : gE 218 32 [some (.ref 323), some (.int l1), some (.int (l2 + 1))] [] σ K) : gE 218 61 [some (.ref 323), some (.int l1), some (.int l2)] [] σ K :=
  gw_run (cy := 218) (cuts := [26, 32, 61, 78]) (inl := []) (pf := gpfP) gpfP_ok 400 (by decide) h
theorem s218 {σ : gS} {K : gK} {t : Int32} (hc : bN (σ 324) ∧ (0 ≤ t ∧ t < 20) ∧ t.toNatClampNeg < nM (σ 324)) (hK : K none (grow σ 324 (fOff (σ 324) t.toNatClampNeg))) : gE 218 0 [some (.ref 323), some (.int t), none] [] σ K := by
  obtain ⟨⟨h3, h9⟩, ht, hn⟩ := hc
  obtain ⟨e3, l3⟩ := nM_of h3
  obtain ⟨et, lt⟩ := t20 ht
  obtain ⟨m, hm⟩ : ∃ m, t.toNatClampNeg = m := ⟨_, rfl⟩
  rw [hm] at et lt hK hn
  subst et
  refine w218 ⟨ixb0 lt, h9, by decide, by decide, c218_26 ?_⟩
  rw [ix0 lt]
  simp (disch := decide) only [gup_grow, grow_grow, grow_at]
  obtain ⟨Q, hQ⟩ : ∃ Q, Q = radd (fTe (σ 324) 4 (iN m) (fld (σ 324) m 0)) 3 (-1) := ⟨_, rfl⟩
  have hQ2 : rup (fTe (σ 324) 4 (iN m) (σ 324 (9 + 10 * m + 0))) 3 (fTe (σ 324) 4 (iN m) (σ 324 (9 + 10 * m + 0)) 3 - 1) = Q := by
    rw [hQ]
    unfold radd
    rw [Int32.sub_eq_add_neg]
    rfl
  have hQ3 : Q 3 = iN (nM (σ 324) - 1) := by
    rw [← hQ2, rup_at, fTe_ne h9 (by omega), e3]
    exact iN_sub (d := 1) (by omega) (by omega)
  rw [hQ2]
  have e9 : (9 + 10 * iN m + (0 : Int32)) = iN (9 + 10 * m) := by
    show iN 9 + iN 10 * iN m + iN 0 = _
    rw [iN_mul, iN_add, iN_add, Nat.add_zero]
  have en : ∀ k, k < 100 → (9 + 10 * iN k + (0 : Int32)) = iN (9 + 10 * k) := by
    intro k hk
    show iN 9 + iN 10 * iN k + iN 0 = _
    rw [iN_mul, iN_add, iN_add, Nat.add_zero]
  rw [e9]
  unfold fOff at hK
  rw [← hQ] at hK
  have c3 : ∀ k, csh Q (9 + 10 * m) k 3 = iN (nM (σ 324) - 1) := by
    intro k
    unfold csh
    rw [if_neg (by omega)]
    exact hQ3
  have main := g_forI (y := 218) (pc := 32) (K := K) (10 * (nM (σ 324) - 1 - m)) (fun k => [some (.ref 323), some (.int (iN m)), some (.int (iN (9 + 10 * m + k)))]) (fun k => grow σ 324 (csh Q (9 + 10 * m) k)) (fun _ => True) (fun _ => by
    refine c218_32 ⟨by decide, fun h => ⟨by decide, by decide, c218_78 ?_⟩, fun h => ?_⟩
    · simp (disch := decide) only [gup_grow, grow_grow, grow_at]
      exact hK
    · exfalso
      rw [grow_at, c3, en _ (by omega), iN_lt (by omega) (by omega)] at h
      omega) (fun k hk _ ih => by
    have ih := ih trivial
    refine c218_32 ⟨by decide, fun h => ?_, fun h => ?_⟩
    · exfalso
      rw [grow_at, c3, en _ (by omega), iN_lt (by omega) (by omega)] at h
      omega
    · have e10 : (iN (9 + 10 * m + k) + 10 : Int32) = iN (9 + 10 * m + k + 10) := iN_add _ 10
      rw [e10, iN_nat (by omega), iN_nat (by omega)]
      refine ⟨i330 (by omega), i330 (by omega), c218_61 ?_⟩
      rw [gup_grow, grow_grow, grow_at, csh_s, iN_one]
      exact ih) 0 (Nat.zero_le _) trivial
  rw [csh_0] at main
  exact main
noncomputable def f218 : gD := fun Lv σ => match Lv with
  | [some (.ref q0), some (.int t), none] => cond (Nat.beq q0 323) (some (some (bN (σ 324) ∧ (0 ≤ t ∧ t < 20) ∧ t.toNatClampNeg < nM (σ 324)), none, grow σ 324 (fOff (σ 324) t.toNatClampNeg))) none
  | _ => none
theorem ok218 : gFok 218 f218 := by
  intro Lv σ q h hc K hK
  unfold f218 at h
  split at h
  · rename_i q0 t
    obtain ⟨hb, h⟩ := c_no h
    have hb0 := hb
    have e0 := b_eq hb0
    subst e0
    cases h
    exact s218 (hc _ rfl) hK
  · cases h
noncomputable def gpfQ_l : List (Nat × gD) := (218, f218) :: gpfP_l
noncomputable def gpfQ : gP := gpl0 gpfQ_l
theorem gpfQ_ok : gPok gpfQ := gpl0_cons ok218 (gpfP_ok)
-- text 20
/-! THE REFERENCE: stations, the tape, the name on the tape -/
theorem radd_ne {R : gW} {k j : Nat} {x : Int32} (h : ¬ j = k) : radd R k x j = R j := rup_ne h
theorem radd_at (R : gW) (k : Nat) (x : Int32) : radd R k x k = R k + x := rup_at _ _ _
theorem csh_lo {R : gW} {a k j : Nat} (h : j < a ∨ a + k ≤ j) : csh R a k j = R j := by unfold csh; rw [if_neg (by omega)]
theorem nM_iN {R : gW} {n : Nat} (h : R 3 = iN n) (hn : n < 2147483648) : nM R = n := by unfold nM; rw [h, iN_nat hn]
theorem fOff_3 {R : gW} {t : Nat} (hb : bN R) (ht : t < nM R) : fOff R t 3 = iN (nM R - 1) := by
  obtain ⟨e, l⟩ := nM_of hb.1
  unfold fOff
  rw [radd_ne (by decide), csh_lo (by omega), radd_at, fTe_ne hb.2 (by omega), e, ← Int32.sub_eq_add_neg]
  exact iN_sub (d := 1) (by omega) (by omega)
theorem fOff_2 {R : gW} {t : Nat} (hb : bN R) : fOff R t 2 = R 2 := by
  unfold fOff
  rw [radd_ne (by decide), csh_lo (by omega), radd_ne (by decide), fTe_ne hb.2 (by omega)]
theorem fOff_b {R : gW} {t : Nat} (hb : bN R) (ht : t < nM R) : bN (fOff R t) := by
  obtain ⟨e, l⟩ := nM_of hb.1
  refine ⟨?_, ?_⟩
  · rw [fOff_3 hb ht]
    exact ⟨(iN_le (k := 0) (by decide) (by omega)).mpr (by omega), (iN_le (m := 20) (by omega) (by decide)).mpr (by omega)⟩
  · unfold fOff
    rw [radd_ne (by decide), csh_lo (by omega), radd_ne (by decide)]
    exact fTe_b hb.2
def stp1 (R : gW) (k : Nat) : gW := if fld R k 8 = R 2 then fOff R k else R
def stpN : Nat → gW → gW
  | 0, R => R
  | k + 1, R => stpN k (stp1 R k)
/-- one station -/
def fStp (R : gW) : gW := stpN (nM R) (radd R 2 1)
def stm : Nat → gW → gW
  | 0, R => R
  | k + 1, R => fStp (stm k R)
theorem stp1_b {R : gW} {k : Nat} (hb : bN R) (hk : k < nM R) : bN (stp1 R k) ∧ k ≤ nM (stp1 R k) := by
  unfold stp1
  by_cases h : fld R k 8 = R 2
  · rw [if_pos h]
    obtain ⟨e, l⟩ := nM_of hb.1
    refine ⟨fOff_b hb hk, ?_⟩
    rw [nM_iN (fOff_3 hb hk) (by omega)]
    omega
  · rw [if_neg h]
    exact ⟨hb, by omega⟩
theorem stpN_b : ∀ {k : Nat} {R : gW}, bN R → k ≤ nM R → bN (stpN k R)
  | 0, R, hb, _ => hb
  | k + 1, R, hb, hk => by
    obtain ⟨h1, h2⟩ := stp1_b hb (show k < nM R by omega)
    show bN (stpN k (stp1 R k))
    exact stpN_b h1 h2
theorem radd2_b {R : gW} (hb : bN R) : bN (radd R 2 1) ∧ nM (radd R 2 1) = nM R := by
  refine ⟨⟨?_, ?_⟩, ?_⟩
  · rw [radd_ne (by decide)]; exact hb.1
  · rw [radd_ne (by decide)]; exact hb.2
  · unfold nM; rw [radd_ne (by decide)]
theorem fStp_b {R : gW} (hb : bN R) : bN (fStp R) := by
  obtain ⟨h1, h2⟩ := radd2_b hb
  exact stpN_b h1 (by rw [h2]; exact Nat.le_refl _)
theorem stm_b {R : gW} (hb : bN R) : ∀ k, bN (stm k R)
  | 0 => hb
  | k + 1 => fStp_b (stm_b hb k)
set_option maxRecDepth 20000 in
theorem w219 {σ : gS} {K : gK} (h : (0 ≤ (2 : Int32) ∧ (2 : Int32) < 330) ∧ (0 ≤ (2 : Int32) ∧ (2 : Int32) < 330) ∧ gE 219 10 [some (.ref 323), none] [] (gup σ 324 2 ((σ 324 2) + 1)) K) : gE 219 0 [some (.ref 323), none] [] σ K :=
  gw_run (cy := 219) (cuts := [10, 19]) (inl := []) (pf := gpfQ) gpfQ_ok 400 (by decide) h
set_option maxRecDepth 20000 in
theorem c219_10 {σ : gS} {K : gK} (h : (0 ≤ (3 : Int32) ∧ (3 : Int32) < 330) ∧ gE 219 19 [some (.ref 323), some (.int ((σ 324 3) - 1))] [] σ K) : gE 219 10 [some (.ref 323), none] [] σ K :=
  gw_run (cy := 219) (cuts := [10, 19]) (inl := []) (pf := gpfQ) gpfQ_ok 400 (by decide) h
set_option maxRecDepth 20000 in
theorem c219_19 {σ : gS} {K : gK} {l1 : Int32} (h : ((l1 < 0 → K none σ) ∧ (¬ l1 < 0 → (0 ≤ (9 + 10 * l1 + (8 : Int32)) ∧ (9 + 10 * l1 + (8 : Int32)) < 330) ∧ (0 ≤ (2 : Int32) ∧ (2 : Int32) < 330) ∧ ((¬ (σ 324 (9 + 10 * l1 + (8 : Int32)).toNatClampNeg) = (σ 324 2) → gE 219 19 [some (.ref 323), some (.int (l1 + (-1)))] [] σ K) ∧ ((σ 324 (9 + 10 * l1 + (8 : Int32)).toNatClampNeg) = (σ 324 2) → (bN (σ 324) ∧ (0 ≤ l1 ∧ l1 < 20) ∧ l1.toNatClampNeg < nM (σ 324)) ∧ gE 219 19 [some (.ref 323), some (.int (l1 + (-1)))] [] (grow σ 324 (fOff (σ 324) l1.toNatClampNeg)) K))))) : gE 219 19 [some (.ref 323), some (.int l1)] [] σ K :=
  gw_run (cy := 219) (cuts := [10, 19]) (inl := []) (pf := gpfQ) gpfQ_ok 400 (by decide) h
theorem s219 {σ : gS} {K : gK} (hc : bN (σ 324)) (hK : K none (grow σ 324 (fStp (σ 324)))) : gE 219 0 [some (.ref 323), none] [] σ K := by
  have key : ∀ (k : Nat) (R : gW), bN R → k ≤ nM R → K none (grow σ 324 (stpN k R)) → gE 219 19 [some (.ref 323), some (.int (iN k - 1))] [] (grow σ 324 R) K := by
    intro k
    induction k with
    | zero =>
      intro R _ _ hK
      exact c219_19 ⟨fun _ => hK, fun h => absurd (by decide) h⟩
    | succ k ih =>
      intro R hb hk hK
      obtain ⟨e, l⟩ := nM_of hb.1
      have k20 : k < 20 := by omega
      obtain ⟨h1, h2⟩ := stp1_b hb (show k < nM R by omega)
      have ih := ih (stp1 R k) h1 h2 hK
      have ek : iN (k + 1) - 1 = iN k := iN_sub (d := 1) (by omega) (by omega)
      have ek2 : iN k + (-1) = iN k - 1 := (Int32.sub_eq_add_neg ..).symm
      rw [ek]
      refine c219_19 ⟨fun h => absurd h (Int32.not_lt.mpr (b20 k20).1), fun _ => ⟨ixb8 k20, by decide, fun h => ?_, fun h => ⟨⟨?_, b20 k20, ?_⟩, ?_⟩⟩⟩
      · rw [ix8 k20, grow_at] at h
        have e1 : stp1 R k = R := if_neg h
        rw [e1] at ih
        rw [ek2]; exact ih
      · rw [grow_at]; exact hb
      · rw [grow_at, iN_nat (by omega)]; omega
      · rw [ix8 k20, grow_at] at h
        have e1 : stp1 R k = fOff R k := if_pos h
        rw [e1] at ih
        rw [ek2, grow_grow, grow_at, iN_nat (by omega)]; exact ih
  obtain ⟨h1, h2⟩ := radd2_b hc
  obtain ⟨e, l⟩ := nM_of hc.1
  have main := key (nM (σ 324)) (radd (σ 324) 2 1) h1 (by rw [h2]; exact Nat.le_refl _) hK
  refine w219 ⟨by decide, by decide, c219_10 ⟨by decide, ?_⟩⟩
  rw [gup_grow, grow_at, rup_ne (by decide), e]
  exact main
noncomputable def f219 : gD := fun Lv σ => match Lv with
  | [some (.ref q0), none] => cond (Nat.beq q0 323) (some (some (bN (σ 324)), none, grow σ 324 (fStp (σ 324)))) none
  | _ => none
theorem ok219 : gFok 219 f219 := by
  intro Lv σ q h hc K hK
  unfold f219 at h
  split at h
  · rename_i q0
    obtain ⟨hb, h⟩ := c_no h
    have hb0 := hb
    have e0 := b_eq hb0
    subst e0
    cases h
    exact s219 (hc _ rfl) hK
  · cases h
noncomputable def gpfR_l : List (Nat × gD) := (219, f219) :: gpfQ_l
noncomputable def gpfR : gP := gpl0 gpfR_l
theorem gpfR_ok : gPok gpfR := gpl0_cons ok219 (gpfQ_ok)
set_option maxRecDepth 20000 in
theorem w220 {σ : gS} {K : gK} {m : Int32} (h : ((¬ (bI ((1 : Int32) ≤ m ∧ m ≤ (50 : Int32))) = 0 → (0 ≤ (2 : Int32) ∧ (2 : Int32) < 330) ∧ ((¬ 999 < ((σ 324 2) + m) → (0 ≤ σ 323 6 ∧ σ 323 6 ≤ 8) ∧ (0 ≤ (8 : Int32) ∧ (8 : Int32) < 330) ∧ gE 220 43 [some (.ref 323), some (.int m), some (.int ((hKe σ) 324 8)), some (.int 0)] [] (hKe σ) K) ∧ (999 < ((σ 324 2) + m) → K (some (.int (-3))) σ))) ∧ ((bI ((1 : Int32) ≤ m ∧ m ≤ (50 : Int32))) = 0 → K (some (.int (-1))) σ))) : gE 220 0 [some (.ref 323), some (.int m), none, none] [] σ K :=
  gw_run (cy := 220) (cuts := [43]) (inl := []) (pf := gpfR) gpfR_ok 400 (by decide) h
set_option maxRecDepth 20000 in
theorem c220_43 {σ : gS} {K : gK} {l1 l2 l3 : Int32} (h : ((¬ l3 < l1 → (0 ≤ (8 : Int32) ∧ (8 : Int32) < 330) ∧ K (some (.int ((σ 324 8) - l2))) σ) ∧ (l3 < l1 → (bN (σ 324)) ∧ gE 220 43 [some (.ref 323), some (.int l1), some (.int l2), some (.int (l3 + 1))] [] (grow σ 324 (fStp (σ 324))) K))) : gE 220 43 [some (.ref 323), some (.int l1), some (.int l2), some (.int l3)] [] σ K :=
  gw_run (cy := 220) (cuts := [43]) (inl := []) (pf := gpfR) gpfR_ok 400 (by decide) h
abbrev gSta (R : gW) (m : Int32) : Prop := (1 ≤ m ∧ m ≤ 50) ∧ ¬ 999 < R 2 + m
def aSta (R : gW) (m : Int32) : Int32 := if 1 ≤ m ∧ m ≤ 50 then (if 999 < R 2 + m then -3 else stm m.toNatClampNeg R 8 - R 8) else -1
theorem s220 {σ : gS} {K : gK} {m : Int32} (hc : RS σ) (hK : K (some (.int (aSta (σ 324) m))) (hOp σ (gSta (σ 324) m) (stm m.toNatClampNeg (σ 324)))) : gE 220 0 [some (.ref 323), some (.int m), none, none] [] σ K := by
  obtain ⟨hb, hu⟩ := hc
  unfold aSta hOp at hK
  refine w220 ?_
  simp only [bI_0]
  refine ⟨fun h => ?_, fun h => ?_⟩
  · have h := Decidable.not_not.mp h
    rw [if_pos h] at hK
    refine ⟨by decide, fun h2 => ⟨hu, by decide, ?_⟩, fun h2 => ?_⟩
    · rw [if_neg h2, if_pos (show gSta (σ 324) m from ⟨h, h2⟩)] at hK
      obtain ⟨n, hn, hn50⟩ : ∃ n, m = iN n ∧ n ≤ 50 := by
        obtain ⟨e, l⟩ := iN_of (show 0 ≤ m by have := h.1; grind)
        refine ⟨_, e, ?_⟩
        have h5 := h.2
        rw [e] at h5
        exact (iN_le (m := 50) l (by decide)).mp h5
      subst hn
      rw [iN_nat (by omega)] at hK
      rw [hKe_324]
      have main := g_forI (y := 220) (pc := 43) (K := K) n (fun k => [some (.ref 323), some (.int (iN n)), some (.int (σ 324 8)), some (.int (iN k))]) (fun k => grow (hKe σ) 324 (stm k (σ 324))) (fun _ => True) (fun _ => by
        refine c220_43 ⟨fun _ => ⟨by decide, ?_⟩, fun h => ?_⟩
        · rw [grow_at]; exact hK
        · rw [iN_lt (by omega) (by omega)] at h; omega) (fun k hk _ ih => by
        refine c220_43 ⟨fun h => ?_, fun h => ⟨?_, ?_⟩⟩
        · rw [iN_lt (by omega) (by omega)] at h; omega
        · rw [grow_at]; exact stm_b hb k
        · rw [grow_grow, grow_at, iN_one]; exact ih trivial) 0 (Nat.zero_le _) trivial
      have e0 : grow (hKe σ) 324 (stm 0 (σ 324)) = hKe σ := by
        show grow (hKe σ) 324 (σ 324) = _
        rw [← hKe_324 σ, grow_id]
      rw [e0] at main
      exact main
    · rw [if_pos h2, if_neg (show ¬ gSta (σ 324) m from fun q => q.2 h2)] at hK; exact hK
  · rw [if_neg h, if_neg (show ¬ gSta (σ 324) m from fun q => h q.1)] at hK; exact hK
noncomputable def f220 : gD := fun Lv σ => match Lv with
  | [some (.ref q0), some (.int m), none, none] => cond (Nat.beq q0 323) (some (some (RS σ), some (.int (aSta (σ 324) m)), hOp σ (gSta (σ 324) m) (stm m.toNatClampNeg (σ 324)))) none
  | _ => none
theorem ok220 : gFok 220 f220 := by
  intro Lv σ q h hc K hK
  unfold f220 at h
  split at h
  · rename_i q0 m
    obtain ⟨hb, h⟩ := c_no h
    have hb0 := hb
    have e0 := b_eq hb0
    subst e0
    cases h
    exact s220 (hc _ rfl) hK
  · cases h
