/-! A NEW SEATSWAP -/
/-- the reference's numbers at the start (it is no part of p42's heap: they are free) -/
noncomputable def wR (a k : Nat) : Int32 := if a = 323 ∧ k = 9 then -2 else if a = 324 ∧ k = 0 then 4 else if a = 324 ∧ k = 1 then 1 else 0
noncomputable def wS (a k : Nat) : Int32 := cond (Nat.blt a 323) (cond (Nat.blt k (gln a)) (Int32.ofNat (gct a k)) 0) (wR a k)
theorem wS_n : nM (cR wS 6) = 0 := by decide +kernel
theorem wS_nR : nM (wS 324) = 0 := by decide +kernel
theorem wS_SV : SV wS 6 (wS 324) := by
  refine ⟨⟨by decide +kernel, fun t ht => absurd ht (by rw [wS_n]; omega)⟩, ⟨by decide +kernel, fun t ht => absurd ht (by rw [wS_n]; omega), ?_⟩, ⟨by decide +kernel, by decide +kernel, fun i hi => ?_⟩, fun t ht => absurd ht (by rw [wS_nR]; omega)⟩
  · decide +kernel
  · rw [show (wS 30 2).toNatClampNeg = 0 from by decide +kernel] at hi
    exact absurd hi (Nat.not_lt_zero _)
theorem wS_GD : GD 1980 (wS 324) := by
  refine ⟨fun t ht => absurd ht (by rw [wS_nR]; omega), fun t ht => absurd ht (by rw [wS_nR]; omega), ?_, by decide +kernel⟩
  rw [wS_nR]
  exact Nat.zero_le _
theorem wS_113 : (wS 113 2).toNatClampNeg = 0 := by decide +kernel
theorem wS_PG : PG 1980 wS := by
  refine ⟨⟨by decide +kernel, by decide +kernel, fun u hu => absurd hu (by rw [wS_113]; omega)⟩, fun u hu => absurd hu (by rw [wS_113]; omega), by decide +kernel⟩
theorem wS_SL : SL 1980 wS := by
  have e : ∀ s, s < 2 → wS 112 s = wS 329 s ∧ (0 ≤ wS (60 + 26 * s) 7 ∧ wS (60 + 26 * s) 7 ≤ 20) ∧ wS 112 s = 0 := by decide +kernel
  intro s hs
  obtain ⟨e1, e2, e3⟩ := e s hs
  exact ⟨e1, e2, fun z => absurd e3 z⟩
theorem wS_TP : TP wS := by
  refine ⟨by decide +kernel, by decide +kernel, fun i hi => ?_⟩
  rw [show (wS 2 1).toNatClampNeg = 0 from by decide +kernel] at hi
  exact absurd hi (Nat.not_lt_zero _)
theorem wR_z {a j : Nat} (hj : 330 ≤ j) : wR a j = 0 := by
  unfold wR
  rw [if_neg (by omega), if_neg (by omega), if_neg (by omega)]
theorem wS_GR : GR 1980 wS := ⟨wS_SV, wS_GD, wS_PG, wS_SL, wS_TP, by decide +kernel, by decide +kernel, ⟨fun j hj => (show wS 324 j = wR 324 j from rfl).trans (wR_z hj), fun j hj => (show wS 325 j = wR 325 j from rfl).trans (wR_z hj), fun j hj => (show wS 326 j = wR 326 j from rfl).trans (wR_z hj)⟩, by decide +kernel⟩
theorem wS_GI : GI 0 wS := ⟨1980, by decide, by decide, wS_GR, TB_0 (by decide +kernel)⟩
/-- a heap with the old cells alone -/
def xh0 : jv_H := (fun a => if a = 1000000 then jm_dead else jv_oldc a, 0, 0)
def xobj : jv_E := .inr (.inr (7, (List.range (jv_fn 7)).map (fun k => defaultValue (jv_fty 7 k))))
def xh1 : jv_H := jv_add xh0 xobj (jv_fn 7)
def xL (a : Nat) : List (Option Value) := [some (.ref a)] ++ List.replicate (2 - 1) none
noncomputable def xf1 (a k : Nat) (w : Value) : Bool := match w with
  | .int u => decide (u = wS a k)
  | _ => false
noncomputable def xf2 (a k : Nat) (w : Value) : Bool := match w with
  | .ref p => Nat.beq p (gpl a k)
  | _ => false
theorem xf1_ok {a k : Nat} {w : Value} (h : xf1 a k w = true) : w = .int (wS a k) := by
  unfold xf1 at h
  split at h
  · rw [of_decide_eq_true h]
  · cases h
theorem xf2_ok {a k : Nat} {w : Value} (h : xf2 a k w = true) : w = .ref (gpl a k) := by
  unfold xf2 at h
  split at h
  · rw [b_eq h]
  · cases h
noncomputable def xfs (a d : Nat) : Nat → List Value → Bool
  | _, [] => true
  | i, v :: r => (cond (gfi d i) (xf1 a i v) (cond (s_isR (gct a i)) (xf2 a i v) true)) && xfs a d (i + 1) r
noncomputable def xck (a : Nat) (x : jv_E) : Bool := match x with
  | .inl (ty, n, g) => (Nat.beq (gkd a) ty && Nat.blt ty 2) && (Nat.beq (gln a) n && (List.range n).all (fun i => decide (g i = wS a i)))
  | .inr (.inl (ty, n, g)) => (Nat.beq (gkd a) ty && (Nat.beq ty 2 || Nat.beq ty 3)) && (Nat.beq (gln a) n && (List.range n).all (fun i => decide (g i = some (gpl a i))))
  | .inr (.inr (d, fs)) => Nat.beq (gkd a) (16 + d) && (Nat.beq (gln a) fs.length && xfs a d 0 fs)
theorem xfs_ok (a d : Nat) : ∀ (fs : List Value) (k : Nat), xfs a d k fs = true → ∀ (i : Nat) (v : Value), fs[i]? = some v → gvl (wS a) a d (k + i) v
  | [], _, _, i, v, hv => by cases i <;> cases hv
  | w :: r, k, h, i, v, hv => by
    unfold xfs at h
    obtain ⟨h1, h2⟩ := s_and h
    match i, hv with
    | 0, hv =>
      cases hv
      unfold gvl
      cases e : gfi d k with
      | true =>
        rw [e] at h1
        exact xf1_ok h1
      | false =>
        rw [e] at h1
        have h1 : cond (s_isR (gct a k)) (xf2 a k w) true = true := h1
        show cond (s_isR (gct a k)) (w = .ref (gpl a k)) True
        cases e2 : s_isR (gct a k) with
        | true =>
          rw [e2] at h1
          exact xf2_ok h1
        | false => exact trivial
    | i + 1, hv =>
      have h3 := xfs_ok a d r (k + 1) h2 i v hv
      rw [show k + 1 + i = k + (i + 1) by omega] at h3
      exact h3
theorem xck_ok {a : Nat} {x : jv_E} (h : xck a x = true) : gCk (wS a) a x := by
  unfold xck at h
  split at h
  · obtain ⟨h1, h2⟩ := s_and h
    obtain ⟨h3, h4⟩ := s_and h1
    obtain ⟨h5, h6⟩ := s_and h2
    exact ⟨b_eq h3, b_lt h4, b_eq h5, fun i hi => of_decide_eq_true (List.all_eq_true.mp h6 i (List.mem_range.mpr hi))⟩
  · obtain ⟨h1, h2⟩ := s_and h
    obtain ⟨h3, h4⟩ := s_and h1
    obtain ⟨h5, h6⟩ := s_and h2
    exact ⟨b_eq h3, (s_or h4).imp b_eq b_eq, b_eq h5, fun i hi => of_decide_eq_true (List.all_eq_true.mp h6 i (List.mem_range.mpr hi))⟩
  · obtain ⟨h1, h2⟩ := s_and h
    obtain ⟨h5, h6⟩ := s_and h2
    exact ⟨b_eq h1, b_eq h5, fun i v hv => by have := xfs_ok a _ _ 0 h6 i v hv; rw [Nat.zero_add] at this; exact this⟩
noncomputable def xchk (x : Option (Option Value × jv_H)) : Bool := match x with
  | some (none, h) => Nat.beq h.2.1 323 && (Nat.beq h.2.2 6048 && (List.range 323).all (fun a => xck a (h.1 a)))
  | _ => false
set_option maxRecDepth 100000 in
theorem xrun_ok : xchk (jv_run 100000 107 0 (xL 0) [] xh1) = true := by decide +kernel
theorem xrun : ∃ h, jv_ev 107 0 (xL 0) [] xh1 (none, h) ∧ gRel 0 (fun _ => 0) wS h ∧ h.1 1000000 = jm_dead := by
  have h0 := xrun_ok
  cases e : jv_run 100000 107 0 (xL 0) [] xh1 with
  | none => rw [e] at h0; cases h0
  | some q =>
    obtain ⟨r, h⟩ := q
    rw [e] at h0
    cases r with
    | some v => cases h0
    | none =>
      have h0 : (Nat.beq h.2.1 323 && (Nat.beq h.2.2 6048 && (List.range 323).all (fun a => xck a (h.1 a)))) = true := h0
      obtain ⟨h1, h2⟩ := s_and h0
      obtain ⟨h3, h4⟩ := s_and h2
      have e1 := b_eq h1
      have far : ∀ b, 1000000 ≤ b → h.1 b = xh1.1 b := fun b hb => jv_run_far 100000 e b (by omega)
      refine ⟨h, jv_ev_of e, ⟨e1, b_eq h3, fun a ha => ?_, fun a ha => xck_ok (List.all_eq_true.mp h4 a (List.mem_range.mpr ha))⟩, ?_⟩
      · have := jv_old_eq ha
        rw [far a (by omega)]
        show jv_up xh0.1 0 xobj a = _
        unfold jv_up
        rw [if_neg (by omega)]
        show (if a = 1000000 then jm_dead else jv_oldc a) = _
        rw [if_neg (by omega)]
      · rw [far _ (Nat.le_refl _)]
        rfl
/-- the constructor, over any heap -/
theorem xnew {H : jv_H} (hf : jv_fixO H) (hs : H.2.1 + 323 ≤ 1000000) : jE 107 0 (xL H.2.1) [] (jv_add H xobj (jv_fn 7)) (fun r H' => r = none ∧ xH H.2.1 wS H' ∧ H'.2.1 = H.2.1 + 323 ∧ H'.2.2 = H.2.2 + 6048 ∧ ∀ a, a < H.2.1 ∨ 1000000 ≤ a → H'.1 a = H.1 a) := by
  obtain ⟨h, hev, hr, hd⟩ := xrun
  have hS0 : jm_S (fun a => a + H.2.1) xh0 H := by
    refine ⟨fun a ha => ?_, ⟨Nat.zero_le _, fun a ha => absurd ha (Nat.not_lt_zero _), fun a b ha => absurd ha (Nat.not_lt_zero _)⟩, by omega⟩
    rcases ha with q | q | q
    · exact absurd q (Nat.not_lt_zero _)
    · subst q
      exact Or.inr ⟨rfl, rfl⟩
    · have h1 := jv_old_eq q
      left
      rw [jm_big (by omega), hf a q]
      show _ = jm_c _ (if a = 1000000 then jm_dead else jv_oldc a)
      rw [if_neg (by omega)]
      unfold jv_oldc
      split
      · show _ = Sum.inr (Sum.inr (8, [Value.ref (jm_p _ (a + 100)), Value.int 0]))
        rw [jm_big (by omega)]
      · split
        · rfl
        · split
          · rfl
          · split <;> rfl
  have hA : jm_A (fun a => a + H.2.1) xh0.2.1 H.2.1 := fun i => by show 0 + i + H.2.1 = H.2.1 + i; omega
  have hS1 := hS0.add hA (by omega) xobj (jv_fn 7)
  have ec : jm_c (fun a => a + H.2.1) xobj = xobj := by
    show (Sum.inr (Sum.inr (7, _)) : jv_E) = _
    unfold xobj
    rw [List.map_map]
    congr 3 <;> (apply List.map_congr_left; intro k _; exact jm_default _ _)
  rw [ec] at hS1
  have e1 : h.2.1 = 323 := hr.1
  have e2 : h.2.2 = 6048 := hr.2.1
  have t0 : xh0.2.1 = 0 := rfl
  have t1 : xh1.2.1 = 1 := rfl
  have t2 : xh1.2.2 = jv_fn 7 := by show 0 + jv_fn 7 = _; omega
  have t3 : jv_fn 7 = 10 := by decide +kernel
  have u1 : (jv_add H xobj (jv_fn 7)).2.1 = H.2.1 + 1 := rfl
  have u2 : (jv_add H xobj (jv_fn 7)).2.2 = H.2.2 + jv_fn 7 := rfl
  obtain ⟨H', ev, s, f1, f2, f3⟩ := jm_ev hev hS1 (Or.inr (hA.next (a1 := xh1.2.1) (b1 := (jv_add H xobj (jv_fn 7)).2.1) (by rw [t1, t0]; omega) (by rw [t1, u1, t0]))) (by rw [u1, t1, e1]; omega)
  rw [u1, e1, t1] at f1
  rw [u2, e2, t2, t3] at f2
  have g0 : jm_p (fun a => a + H.2.1) 0 = H.2.1 := by
    unfold jm_p
    rw [if_pos (by decide)]
    show 0 + H.2.1 = _
    omega
  have eL : (xL 0).map (Option.map (jm_v (fun a => a + H.2.1))) = xL H.2.1 := by
    show some (Value.ref (jm_p (fun a => a + H.2.1) 0)) :: _ = _
    rw [g0]
    rfl
  rw [eL] at ev
  refine ⟨_, H', ev, rfl, ⟨by omega, h, hr, hd, s⟩, by omega, by omega, fun a ha => ?_⟩
  rcases ha with ha | ha
  · have h3 := f3 a (by omega) (fun b hb1 hb2 => by
      have hb4 : b + H.2.1 = a := hb2
      omega)
    rw [h3]
    show jv_up H.1 H.2.1 xobj a = _
    unfold jv_up
    rw [if_neg (by omega)]
  · obtain ⟨N, hN⟩ := ev
    have := s.2.2
    rw [jv_run_far N (hN N (Nat.le_refl _)) a (by omega)]
    show jv_up H.1 H.2.1 xobj a = _
    unfold jv_up
    rw [if_neg (by omega)]
