/-! THE SETUP'S TEXT as a text that load takes: the row's travellers -/
theorem nsN_top : ∀ f V, nsN f V < f → V < 27 ^ nsN f V
  | 0, _, h => absurd h (Nat.not_lt_zero _)
  | f + 1, V, h => by
    have e : nsN (f + 1) V = if V = 0 then 0 else nsN f (V / 27) + 1 := rfl
    rw [e] at h ⊢
    by_cases z : V = 0
    · rw [if_pos z, z]
      decide
    · rw [if_neg z] at h ⊢
      have i := nsN_top f (V / 27) (by omega)
      rw [Nat.pow_succ]
      exact (Nat.div_lt_iff_lt_mul (by decide)).mp i
/-- a name's letters tell its number -/
theorem nmW_len (r : Int32) : ∀ d j, (nmW r d j).length = min d (nsz r - j)
  | 0, j => by show 0 = _; omega
  | d + 1, j => by
    unfold nmW
    split
    · rw [List.length_cons, nmW_len r d (j + 1)]
      omega
    · show 0 = _
      omega
theorem nmW_at (r : Int32) : ∀ d j i, i < d → j + i < nsz r → (nmW r d j).getD i 0 = iN (96 + lOf r (j + i))
  | 0, j, i, h, _ => absurd h (Nat.not_lt_zero _)
  | d + 1, j, i, h, h2 => by
    have b27 : lOf r j < 27 := by
      unfold lOf
      exact Nat.mod_lt _ (by decide)
    have e : (97 + iN (lOf r j) - 1 : Int32) = iN (96 + lOf r j) := by
      rw [show (97 : Int32) = iN 97 from rfl, iN_add, show (1 : Int32) = iN 1 from rfl, iN_sub (by omega) (by omega)]
      congr 1
      omega
    unfold nmW
    rw [if_pos (by omega)]
    cases i with
    | zero => exact e
    | succ i =>
      show (nmW r d (j + 1)).getD i 0 = _
      rw [nmW_at r d (j + 1) i (by omega) (by omega), show j + 1 + i = j + (i + 1) by omega]
theorem wvl_W {r : Int32} (h0 : 0 ≤ r) (h5 : nsz r ≤ 5) : wvl (nmW r 5 0) = r := by
  obtain ⟨e, l⟩ := iN_of h0
  have hl : (nmW r 5 0).length = nsz r := by
    rw [nmW_len]
    omega
  have top : r.toNatClampNeg < 27 ^ nsz r := nsN_top 8 r.toNatClampNeg (by show nsz r < 8; omega)
  have p5 : (27 : Nat) ^ 5 = 14348907 := by decide
  have big : r.toNatClampNeg < 14348907 := by
    rw [← p5]
    exact Nat.lt_of_lt_of_le top (Nat.pow_le_pow_right (by decide) h5)
  have key : ∀ k, k ≤ nsz r → wvN (gLs (nmW r 5 0)) 0 k = iN (r.toNatClampNeg / 27 ^ (nsz r - k)) := by
    intro k
    induction k with
    | zero =>
      intro _
      rw [Nat.sub_zero, Nat.div_eq_of_lt top]
      rfl
    | succ k ih =>
      intro hk
      show 27 * wvN (gLs (nmW r 5 0)) 0 k + gLs (nmW r 5 0) (0 + k) - 96 = _
      have b27 : lOf r k < 27 := by
        unfold lOf
        exact Nat.mod_lt _ (by decide)
      have ea : gLs (nmW r 5 0) (0 + k) = iN (96 + lOf r k) := by
        unfold gLs
        rw [Nat.zero_add, nmW_at r 5 0 k (by omega) (by omega), Nat.zero_add]
      have hd : r.toNatClampNeg / 27 ^ (nsz r - k) ≤ r.toNatClampNeg := Nat.div_le_self _ _
      have es : nsz r - k = nsz r - (k + 1) + 1 := by omega
      have ed : r.toNatClampNeg / 27 ^ (nsz r - (k + 1)) = 27 * (r.toNatClampNeg / 27 ^ (nsz r - k)) + lOf r k := by
        have h := Nat.div_add_mod (r.toNatClampNeg / 27 ^ (nsz r - (k + 1))) 27
        rw [Nat.div_div_eq_div_mul, ← Nat.pow_succ, show (nsz r - (k + 1)).succ = nsz r - k by omega] at h
        rw [← h]
        congr 1
        unfold lOf
        rw [show nsz r - 1 - k = nsz r - (k + 1) by omega]
      have hd2 : r.toNatClampNeg / 27 ^ (nsz r - (k + 1)) ≤ r.toNatClampNeg := Nat.div_le_self _ _
      rw [ih (by omega), ea, show (27 : Int32) = iN 27 from rfl, iN_mul, iN_add, show (96 : Int32) = iN 96 from rfl, iN_sub (by omega) (by omega), ed]
      congr 1
      omega
  unfold wvl
  rw [hl, key _ (Nat.le_refl _), Nat.sub_self, Nat.pow_zero, Nat.div_one]
  exact e.symm
noncomputable def tvR (R : gW) (t : Nat) : TV :=
  (((fld R t 0).toNatClampNeg, nmW (fld R t 9) 5 0, decide (fld R t 1 = 1)),
   (if fld R t 2 = 0 then none else some (fld R t 2).toNatClampNeg,
    if fld R t 3 = 0 then none else some (decide (0 < fld R t 3), (if fld R t 3 < 0 then -fld R t 3 else fld R t 3).toNatClampNeg),
    if fld R t 4 = 0 then none else some (decide (0 < fld R t 4), (if fld R t 4 < 0 then -fld R t 4 else fld R t 4).toNatClampNeg)),
   (if 0 < fld R t 5 ∨ 0 < fld R t 6 then some ((fld R t 5).toNatClampNeg, (fld R t 6).toNatClampNeg) else none,
    if fld R t 7 = 0 then none else some (fld R t 7).toNatClampNeg,
    if fld R t 8 = 99 then none else some (fld R t 8).toNatClampNeg))
/-- a traveller's numbers within what a text can say -/
def tOk (R : gW) (t : Nat) : Prop := ((0 ≤ fld R t 0 ∧ fld R t 0 < 40) ∧ (fld R t 1 = 0 ∨ fld R t 1 = 1) ∧ (0 ≤ fld R t 2 ∧ fld R t 2 ≤ 9)) ∧ ((-9 ≤ fld R t 3 ∧ fld R t 3 ≤ 9) ∧ (-9 ≤ fld R t 4 ∧ fld R t 4 ≤ 9)) ∧ ((0 ≤ fld R t 5 ∧ fld R t 5 ≤ 9) ∧ (0 ≤ fld R t 6 ∧ fld R t 6 ≤ 3)) ∧ (0 ≤ fld R t 7 ∧ fld R t 7 ≤ 99) ∧ (1 ≤ fld R t 8 ∧ fld R t 8 ≤ 99) ∧ 0 ≤ fld R t 9 ∧ (1 ≤ nsz (fld R t 9) ∧ nsz (fld R t 9) ≤ 5) ∧ ∃ c, nmR c (fld R t 9)
theorem nl100 {x : Int32} {d : Nat} (h : 0 ≤ x ∧ x ≤ iN d) (hd : d < 100) : numL x = dg x.toNatClampNeg ∧ x.toNatClampNeg ≤ d ∧ iN x.toNatClampNeg = x := by
  obtain ⟨e, l⟩ := iN_of h.1
  have h2 := h.2
  rw [e, iN_le l (by omega)] at h2
  refine ⟨?_, h2, e.symm⟩
  have := numL_d x.toNatClampNeg (by omega)
  rw [← e] at this
  exact this
theorem ab9 {x : Int32} (h : -9 ≤ x ∧ x ≤ 9) : 0 ≤ (if x < 0 then -x else x) ∧ (if x < 0 then -x else x) ≤ iN 9 := by
  show _ ∧ _ ≤ (9 : Int32)
  split
  · grind
  · grind
theorem gRw_tv {R : gW} {t : Nat} (h : tOk R t) : gRw R t = oT 2 ++ 32 :: lnW (tvR R t) := by
  obtain ⟨⟨h0, h1, h2⟩, ⟨h3, h4⟩, ⟨h5, h6⟩, h7, h8, h9, hz, -⟩ := h
  have e12 : oT 12 = oT 2 ++ [32] := rfl
  have h0b : 0 ≤ fld R t 0 ∧ fld R t 0 ≤ iN 40 := ⟨h0.1, by show _ ≤ (40 : Int32); grind⟩
  have n0 := (nl100 h0b (by decide)).1
  have n2 := (nl100 (d := 9) h2 (by decide)).1
  have n3 := (nl100 (ab9 h3) (by decide)).1
  have n4 := (nl100 (ab9 h4) (by decide)).1
  have n5 := (nl100 (d := 9) h5 (by decide)).1
  have n6 := (nl100 (d := 3) h6 (by decide)).1
  have n7 := (nl100 (d := 99) h7 (by decide)).1
  have n8 := (nl100 (d := 99) ⟨by have := h8.1; grind, h8.2⟩ (by decide)).1
  have p1 : (if fld R t 1 = 1 then oT 13 else []) = pT (tvR R t).1.2.2 := by
    unfold pT
    show _ = if decide (fld R t 1 = 1) = true then oT 28 else []
    by_cases z : fld R t 1 = 1
    · rw [if_pos z, if_pos (decide_eq_true z)]
      rfl
    · rw [if_neg z, if_neg (by rw [decide_eq_true_eq]; exact z)]
  have p2 : (if fld R t 2 = 0 then [] else oT 14 ++ numL (fld R t 2)) = pN 30 (tvR R t).2.1.1 := by
    show _ = pN 30 (if fld R t 2 = 0 then none else some (fld R t 2).toNatClampNeg)
    by_cases z : fld R t 2 = 0
    · rw [if_pos z, if_pos z]
      rfl
    · rw [if_neg z, if_neg z, n2]
      rfl
  have p3 : (if fld R t 3 = 0 then [] else oT 15 ++ ([if 0 < fld R t 3 then 43 else 45] ++ numL (if fld R t 3 < 0 then -fld R t 3 else fld R t 3))) = pL 31 (tvR R t).2.1.2.1 := by
    show _ = pL 31 (if fld R t 3 = 0 then none else some (decide (0 < fld R t 3), (if fld R t 3 < 0 then -fld R t 3 else fld R t 3).toNatClampNeg))
    by_cases z : fld R t 3 = 0
    · rw [if_pos z, if_pos z]
      rfl
    · rw [if_neg z, if_neg z, n3]
      unfold pL
      simp only [decide_eq_true_eq]
      rfl
  have p4 : (if fld R t 4 = 0 then [] else oT 16 ++ ([if 0 < fld R t 4 then 43 else 45] ++ numL (if fld R t 4 < 0 then -fld R t 4 else fld R t 4))) = pL 32 (tvR R t).2.1.2.2 := by
    show _ = pL 32 (if fld R t 4 = 0 then none else some (decide (0 < fld R t 4), (if fld R t 4 < 0 then -fld R t 4 else fld R t 4).toNatClampNeg))
    by_cases z : fld R t 4 = 0
    · rw [if_pos z, if_pos z]
      rfl
    · rw [if_neg z, if_neg z, n4]
      unfold pL
      simp only [decide_eq_true_eq]
      rfl
  have p5 : (if 0 < fld R t 5 ∨ 0 < fld R t 6 then oT 17 ++ (numL (fld R t 5) ++ ([32] ++ numL (fld R t 6))) else []) = pR (tvR R t).2.2.1 := by
    show _ = pR (if 0 < fld R t 5 ∨ 0 < fld R t 6 then some ((fld R t 5).toNatClampNeg, (fld R t 6).toNatClampNeg) else none)
    by_cases z : 0 < fld R t 5 ∨ 0 < fld R t 6
    · rw [if_pos z, if_pos z, n5, n6]
      rfl
    · rw [if_neg z, if_neg z]
      rfl
  have p7 : (if fld R t 7 = 0 then [] else oT 18 ++ numL (fld R t 7)) = pN 34 (tvR R t).2.2.2.1 := by
    show _ = pN 34 (if fld R t 7 = 0 then none else some (fld R t 7).toNatClampNeg)
    by_cases z : fld R t 7 = 0
    · rw [if_pos z, if_pos z]
      rfl
    · rw [if_neg z, if_neg z, n7]
      rfl
  have p8 : (if fld R t 8 = 99 then [] else oT 19 ++ numL (fld R t 8)) = pN 35 (tvR R t).2.2.2.2 := by
    show _ = pN 35 (if fld R t 8 = 99 then none else some (fld R t 8).toNatClampNeg)
    by_cases z : fld R t 8 = 99
    · rw [if_pos z, if_pos z]
      rfl
    · rw [if_neg z, if_neg z, n8]
      rfl
  have eg : g55 (fun f => fld R t (f - 1)) = lnP (tvR R t) := by
    unfold g55 g69 g80 g90 g100 g142 g153 lnP
    rw [← p1, ← p2, ← p3, ← p4, ← p5, ← p7, ← p8]
  unfold gRw lnW
  rw [n0, eg, e12]
  simp only [List.append_assoc, List.cons_append, List.nil_append]
  rfl
