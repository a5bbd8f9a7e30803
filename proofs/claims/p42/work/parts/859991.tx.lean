/-! THE SETUP'S TEXT read again -/
theorem sg9 {x : Int32} (h : -9 ≤ x ∧ x ≤ 9) (hz : ¬ x = 0) : lkV (decide (0 < x), (if x < 0 then -x else x).toNatClampNeg) = x := by
  have e := (nl100 (ab9 h) (by decide)).2.2
  unfold lkV
  show (if decide (0 < x) = true then 1 else -1) * iN (if x < 0 then -x else x).toNatClampNeg = x
  rw [e]
  by_cases p : 0 < x
  · rw [if_pos (decide_eq_true p), if_neg (fun y => by grind)]
    grind
  · rw [if_neg (by rw [decide_eq_true_eq]; exact p), if_pos (by grind)]
    grind
theorem lnV_tv {R : gW} {t : Nat} (h : tOk R t) : ∀ f, f < 10 → lnV (tvR R t) f = fld R t f := by
  obtain ⟨⟨h0, h1, h2⟩, ⟨h3, h4⟩, ⟨h5, h6⟩, h7, h8, h9, hz, -⟩ := h
  have h0b : 0 ≤ fld R t 0 ∧ fld R t 0 ≤ iN 40 := ⟨h0.1, by show _ ≤ (40 : Int32); grind⟩
  intro f hf
  have c : f = 0 ∨ f = 1 ∨ f = 2 ∨ f = 3 ∨ f = 4 ∨ f = 5 ∨ f = 6 ∨ f = 7 ∨ f = 8 ∨ f = 9 := by omega
  rcases c with rfl | rfl | rfl | rfl | rfl | rfl | rfl | rfl | rfl | rfl
  · exact (nl100 h0b (by decide)).2.2
  · show (if decide (fld R t 1 = 1) = true then 1 else 0) = _
    rcases h1 with e | e <;> rw [e] <;> rfl
  · show ((if fld R t 2 = 0 then none else some (fld R t 2).toNatClampNeg).map iN).getD 0 = _
    by_cases z : fld R t 2 = 0
    · rw [if_pos z, z]
      rfl
    · rw [if_neg z]
      exact (nl100 (d := 9) h2 (by decide)).2.2
  · show ((if fld R t 3 = 0 then none else some (decide (0 < fld R t 3), (if fld R t 3 < 0 then -fld R t 3 else fld R t 3).toNatClampNeg)).map lkV).getD 0 = _
    by_cases z : fld R t 3 = 0
    · rw [if_pos z, z]
      rfl
    · rw [if_neg z]
      exact sg9 h3 z
  · show ((if fld R t 4 = 0 then none else some (decide (0 < fld R t 4), (if fld R t 4 < 0 then -fld R t 4 else fld R t 4).toNatClampNeg)).map lkV).getD 0 = _
    by_cases z : fld R t 4 = 0
    · rw [if_pos z, z]
      rfl
    · rw [if_neg z]
      exact sg9 h4 z
  · show ((if 0 < fld R t 5 ∨ 0 < fld R t 6 then some ((fld R t 5).toNatClampNeg, (fld R t 6).toNatClampNeg) else none).map (fun p => iN p.1)).getD 0 = _
    by_cases z : 0 < fld R t 5 ∨ 0 < fld R t 6
    · rw [if_pos z]
      exact (nl100 (d := 9) h5 (by decide)).2.2
    · rw [if_neg z]
      show (0 : Int32) = _
      have : ¬ 0 < fld R t 5 := fun y => z (Or.inl y)
      grind
  · show ((if 0 < fld R t 5 ∨ 0 < fld R t 6 then some ((fld R t 5).toNatClampNeg, (fld R t 6).toNatClampNeg) else none).map (fun p => iN p.2)).getD 0 = _
    by_cases z : 0 < fld R t 5 ∨ 0 < fld R t 6
    · rw [if_pos z]
      exact (nl100 (d := 3) h6 (by decide)).2.2
    · rw [if_neg z]
      show (0 : Int32) = _
      have : ¬ 0 < fld R t 6 := fun y => z (Or.inr y)
      grind
  · show ((if fld R t 7 = 0 then none else some (fld R t 7).toNatClampNeg).map iN).getD 0 = _
    by_cases z : fld R t 7 = 0
    · rw [if_pos z, z]
      rfl
    · rw [if_neg z]
      exact (nl100 (d := 99) h7 (by decide)).2.2
  · show ((if fld R t 8 = 99 then none else some (fld R t 8).toNatClampNeg).map iN).getD 99 = _
    by_cases z : fld R t 8 = 99
    · rw [if_pos z, z]
      rfl
    · rw [if_neg z]
      exact (nl100 (d := 99) ⟨by have := h8.1; grind, h8.2⟩ (by decide)).2.2
  · exact wvl_W h9 hz.2
theorem tv_TV {R : gW} {t m : Nat} (h : tOk R t) (hm : m ≤ 10) (hs : fld R t 0 < iN (4 * m)) (h5 : fld R t 5 < iN m) (hm1 : 1 ≤ m) (hk : ¬ isKey (fld R t 9)) : TVok m (tvR R t) := by
  obtain ⟨⟨h0, h1, h2⟩, ⟨h3, h4⟩, ⟨h5b, h6⟩, h7, h8, h9, hz, c9, hc9⟩ := h
  have n0 := nat_lt (d := 4 * m) ⟨h0.1, hs⟩ (by omega)
  have n5 := nat_lt (d := m) ⟨h5b.1, h5⟩ (by omega)
  have n2 := nl100 (d := 9) h2 (by decide)
  have n3 := nl100 (ab9 h3) (by decide)
  have n4 := nl100 (ab9 h4) (by decide)
  have n6 := nl100 (d := 3) h6 (by decide)
  have n7 := nl100 (d := 99) h7 (by decide)
  have n8 := nl100 (d := 99) ⟨by have := h8.1; grind, h8.2⟩ (by decide)
  have hw := wvl_W h9 hz.2
  have hl := nmW_len (fld R t 9) 5 0
  refine ⟨⟨n0.1, ⟨fun x hx => ?_, ?_, ?_⟩, ?_, ?_⟩, ⟨fun k e => ?_, fun p e => ?_, fun p e => ?_⟩, fun p e => ?_, fun k e => ?_, fun k e => ?_⟩
  · have hx : x ∈ nmW (fld R t 9) 5 0 := hx
    obtain ⟨i, hi, rfl⟩ := List.getElem_of_mem hx
    have e := nmW_at (fld R t 9) 5 0 i (by omega) (by omega)
    rw [List.getD_eq_getElem?_getD, List.getElem?_eq_getElem hi] at e
    have e : (nmW (fld R t 9) 5 0)[i] = iN (96 + lOf (fld R t 9) (0 + i)) := e
    rw [e, Nat.zero_add]
    have hlt : i < nsz (fld R t 9) := by
      rw [hl] at hi
      omega
    obtain ⟨z1, z2⟩ := nm_z hc9 (j := i) (by omega)
    have z3 := z1.mpr hlt
    rw [z2 hlt] at z3
    have b27 : lOf (fld R t 9) i < 27 := by
      unfold lOf
      exact Nat.mod_lt _ (by decide)
    have z4 := (iN_lt (k := 0) (by decide) (by omega)).mp z3
    exact ⟨(iN_le (k := 97) (by decide) (by omega)).mpr (by omega), (iN_le (m := 122) (by omega) (by decide)).mpr (by omega)⟩
  · show 1 ≤ (nmW (fld R t 9) 5 0).length
    omega
  · show (nmW (fld R t 9) 5 0).length ≤ 5
    omega
  · show nsz (wvl (nmW (fld R t 9) 5 0)) ≤ 5
    rw [hw]
    exact hz.2
  · show ¬ isKey (wvl (nmW (fld R t 9) 5 0))
    rw [hw]
    exact hk
  · have e : (if fld R t 2 = 0 then none else some (fld R t 2).toNatClampNeg) = some k := e
    by_cases z : fld R t 2 = 0
    · rw [if_pos z] at e
      cases e
    · rw [if_neg z] at e
      have e := Option.some.inj e
      have : ¬ (fld R t 2).toNatClampNeg = 0 := fun y => z (by rw [← n2.2.2, y]; rfl)
      have := n2.2.1
      omega
  · have e : (if fld R t 3 = 0 then none else some (decide (0 < fld R t 3), (if fld R t 3 < 0 then -fld R t 3 else fld R t 3).toNatClampNeg)) = some p := e
    by_cases z : fld R t 3 = 0
    · rw [if_pos z] at e
      cases e
    · rw [if_neg z] at e
      rw [← Option.some.inj e]
      exact n3.2.1
  · have e : (if fld R t 4 = 0 then none else some (decide (0 < fld R t 4), (if fld R t 4 < 0 then -fld R t 4 else fld R t 4).toNatClampNeg)) = some p := e
    by_cases z : fld R t 4 = 0
    · rw [if_pos z] at e
      cases e
    · rw [if_neg z] at e
      rw [← Option.some.inj e]
      exact n4.2.1
  · have e : (if 0 < fld R t 5 ∨ 0 < fld R t 6 then some ((fld R t 5).toNatClampNeg, (fld R t 6).toNatClampNeg) else none) = some p := e
    by_cases z : 0 < fld R t 5 ∨ 0 < fld R t 6
    · rw [if_pos z] at e
      rw [← Option.some.inj e]
      exact ⟨n5.1, n6.2.1⟩
    · rw [if_neg z] at e
      cases e
  · have e : (if fld R t 7 = 0 then none else some (fld R t 7).toNatClampNeg) = some k := e
    by_cases z : fld R t 7 = 0
    · rw [if_pos z] at e
      cases e
    · rw [if_neg z] at e
      rw [← Option.some.inj e]
      exact n7.2.1
  · have e : (if fld R t 8 = 99 then none else some (fld R t 8).toNatClampNeg) = some k := e
    by_cases z : fld R t 8 = 99
    · rw [if_pos z] at e
      cases e
    · rw [if_neg z] at e
      have e := Option.some.inj e
      have : ¬ (fld R t 8).toNatClampNeg = 0 := fun y => by
        have := n8.2.2
        rw [y] at this
        have h := h8.1
        rw [← this] at h
        exact absurd h (by decide)
      have := n8.2.1
      omega
/-- the row's travellers, one behind another -/
noncomputable def tvL (R : gW) : Nat → Nat → List TV
  | 0, _ => []
  | d + 1, t => tvR R t :: tvL R d (t + 1)
theorem tvL_len (R : gW) : ∀ d t, (tvL R d t).length = d
  | 0, _ => rfl
  | d + 1, t => by
    show (tvL R d (t + 1)).length + 1 = d + 1
    rw [tvL_len R d (t + 1)]
theorem tvL_at (R : gW) : ∀ d t i, i < d → (tvL R d t).getD i default = tvR R (t + i)
  | 0, _, i, h => absurd h (Nat.not_lt_zero _)
  | d + 1, t, 0, _ => rfl
  | d + 1, t, i + 1, h => by
    show (tvL R d (t + 1)).getD i default = _
    rw [tvL_at R d (t + 1) i (by omega), show t + 1 + i = t + (i + 1) by omega]
theorem tvL_mem (R : gW) : ∀ d t s, s ∈ tvL R d t → ∃ i, t ≤ i ∧ i < t + d ∧ s = tvR R i
  | 0, _, s, h => by cases h
  | d + 1, t, s, h => by
    rcases List.mem_cons.mp h with rfl | h
    · exact ⟨t, Nat.le_refl _, by omega, rfl⟩
    · obtain ⟨i, h1, h2, h3⟩ := tvL_mem R d (t + 1) s h
      exact ⟨i, by omega, by omega, h3⟩
theorem tvL_nd {R : gW} (hi : ∀ a b, a < nM R → b < nM R → (fld R a 0).toNatClampNeg = (fld R b 0).toNatClampNeg → a = b) : ∀ d t, t + d ≤ nM R → ((tvL R d t).map (fun s => s.1.1)).Nodup
  | 0, _, _ => List.nodup_nil
  | d + 1, t, h => by
    show ((tvR R t :: tvL R d (t + 1)).map (fun s => s.1.1)).Nodup
    rw [List.map_cons, List.nodup_cons]
    refine ⟨fun hm => ?_, tvL_nd hi d (t + 1) (by omega)⟩
    obtain ⟨s, hs, e⟩ := List.mem_map.mp hm
    obtain ⟨i, h1, h2, rfl⟩ := tvL_mem R d (t + 1) s hs
    have e : (fld R i 0).toNatClampNeg = (fld R t 0).toNatClampNeg := e
    have := hi i t (by omega) (by omega) e
    omega
theorem gRs_txt {R : gW} (h : ∀ t, t < nM R → tOk R t) : ∀ d t, t + d ≤ nM R → gRs R d t = txt (tvL R d t)
  | 0, _, _ => rfl
  | d + 1, t, ht => by
    show gRw R t ++ gRs R d (t + 1) = oT 2 ++ 32 :: (lnW (tvR R t) ++ txt (tvL R d (t + 1)))
    rw [gRw_tv (h t (by omega)), gRs_txt h d (t + 1) (by omega)]
    simp only [List.append_assoc, List.cons_append]
theorem suT_txt {R : gW} {m F : Nat} (h0 : R 0 = iN m) (h1 : R 1 = iN F) (hm : m ≤ 10) (hF : F ≤ 10) (h : ∀ t, t < nM R → tOk R t) : suT R = hdT m F ++ txt (tvL R (nM R) 0) := by
  unfold suT hdT
  rw [gRs_txt h (nM R) 0 (by omega), h0, h1, numL_d m (by omega), numL_d F (by omega), show oT 10 = oT 0 ++ [32] from rfl, show oT 11 = 32 :: (oT 1 ++ [32]) from rfl]
  simp only [List.append_assoc, List.cons_append, List.nil_append]
/-- what the second SeatSwap holds behind load: the same numbers -/
theorem LdF.agf {R : gW} {m F : Nat} {τ : gS} (h0 : R 0 = iN m) (h1 : R 1 = iN F) (h3 : R 3 = iN (nM R)) (h : ∀ t, t < nM R → tOk R t) (ld : LdF m F (tvL R (nM R) 0) τ) : agf R (τ 324) ∧ ∀ t f, t < nM R → f < 10 → fld (τ 324) t f = fld R t f := by
  obtain ⟨-, ⟨r0, r1, -, r3⟩, hf⟩ := ld
  rw [tvL_len] at r3 hf
  have k : ∀ t f, t < nM R → f < 10 → fld (τ 324) t f = fld R t f := by
    intro t f ht hf2
    rw [hf t f ht hf2, tvL_at R (nM R) 0 t ht, Nat.zero_add]
    exact lnV_tv (h t ht) f hf2
  refine ⟨⟨fun j _ hj => ?_, fun t ht f hf2 => (k t f ht (by omega)).symm⟩, k⟩
  rcases hj with rfl | rfl | rfl
  · rw [h0, r0]
  · rw [h1, r1]
  · rw [h3, r3]
