/-! ROWS OVER ANY HEAP: new cells, whole numbers in rows, fields -/
section JR
variable {y pc : Nat} {i : Instr} {len : Nat} {Lv : List (Option Value)} {st r : List Value} {h : jv_H} {K : jK}
/-- another reference's numbers do as well: they are no part of the heap -/
theorem xH.ph {B : Nat} {σ τ : gS} {H : jv_H} (hx : xH B σ H) (e : ∀ a, a < 323 → τ a = σ a) : xH B τ H := by
  obtain ⟨h1, h, ⟨r1, r2, r3, r4⟩, hd, hS⟩ := hx
  exact ⟨h1, h, ⟨r1, r2, r3, fun a ha => by rw [e a ha]; exact r4 a ha⟩, hd, hS⟩
theorem jr_in {n : Nat} {x : Int32} (hn : n < 2147483648) (hx : 0 ≤ x ∧ x < Int32.ofNat n) : ¬ (x < 0 ∨ n ≤ x.toNatClampNeg) := by
  have e : (Int32.ofNat n).toInt = n := Int32.toInt_ofNat_of_lt (by omega)
  obtain ⟨i1, i2⟩ := hx
  rw [Int32.lt_iff_toInt_lt, e] at i2
  rw [Int32.le_iff_toInt_le] at i1
  have i1 : 0 ≤ x.toInt := i1
  have en : x.toNatClampNeg = x.toInt.toNat := rfl
  intro q
  rcases q with q | q
  · rw [Int32.lt_iff_toInt_lt] at q
    have q : x.toInt < 0 := q
    omega
  · omega
theorem jr_lt {n : Nat} {x : Int32} (hn : n < 2147483648) (hx : 0 ≤ x ∧ x < Int32.ofNat n) : x.toNatClampNeg < n := by
  have := jr_in hn hx
  omega
/-- the whole numbers f stand in the row at a -/
def jIa (h : jv_H) (a n : Nat) (f : Nat → Int32) : Prop := a < h.2.1 ∧ ∃ g, h.1 a = .inl (0, n, g) ∧ ∀ j, j < n → g j = f j
theorem jx_newi {n : Int32} {k : Nat} (hy : y < 272) (hcode : jv_code y pc = some (.newarray .int, 2)) (hn : n.toNatClampNeg = k ∧ ¬ n < 0 ∧ k ≤ 100000) (hg : jE y (pc + 2) Lv (.ref h.2.1 :: r) (jv_add h (.inl (0, k, fun _ => 0)) k) K) : jE y pc Lv (.int n :: r) h K := by
  obtain ⟨rfl, h1, h2⟩ := hn
  exact jx_heap hy hcode rfl rfl rfl rfl rfl rfl (if_pos ⟨h1, h2⟩) hg
theorem jIa.new {k : Nat} : jIa (jv_add h (.inl (0, k, fun _ => 0)) k) h.2.1 k (fun _ => 0) :=
  ⟨Nat.lt_succ_self _, fun _ => 0, by show jv_up h.1 h.2.1 _ h.2.1 = _; unfold jv_up; rw [if_pos rfl], fun _ _ => rfl⟩
theorem jIa.add {a n m : Nat} {f : Nat → Int32} {x : jv_E} (ha : jIa h a n f) : jIa (jv_add h x m) a n f := by
  obtain ⟨h1, g, h2, h3⟩ := ha
  refine ⟨Nat.lt_succ_of_lt h1, g, ?_, h3⟩
  show jv_up h.1 h.2.1 x a = _
  unfold jv_up
  rw [if_neg (Nat.ne_of_lt h1)]
  exact h2
theorem jIa.put {a b n : Nat} {f : Nat → Int32} {x : jv_E} (ha : jIa h a n f) (hne : a ≠ b) : jIa (jv_put h b x) a n f := by
  obtain ⟨h1, g, h2, h3⟩ := ha
  refine ⟨h1, g, ?_, h3⟩
  show jv_up h.1 b x a = _
  unfold jv_up
  rw [if_neg hne]
  exact h2
theorem jIa.fr {a n : Nat} {f : Nat → Int32} {h' : jv_H} (ha : jIa h a n f) (e : h'.1 a = h.1 a) (hl : h.2.1 ≤ h'.2.1) : jIa h' a n f := by
  obtain ⟨h1, g, h2, h3⟩ := ha
  exact ⟨by omega, g, e.trans h2, h3⟩
theorem jx_iald {a n : Nat} {f : Nat → Int32} {x : Int32} (hy : y < 272) (hcode : jv_code y pc = some (.iaload, 1)) (ha : jIa h a n f) (hx : ¬ (x < 0 ∨ n ≤ x.toNatClampNeg)) (hg : jE y (pc + 1) Lv (.int (f x.toNatClampNeg) :: r) h K) : jE y pc Lv (.int x :: .ref a :: r) h K := by
  obtain ⟨h1, g, h2, h3⟩ := ha
  refine jx_heap hy hcode rfl rfl rfl rfl rfl rfl (st' := .int (f x.toNatClampNeg) :: r) (h1 := h) ?_ hg
  show (if a < h.2.1 ∨ (a = 1000000 ∧ sow y = 10) then match h.1 a with
      | .inl (ty, n, f) => if (ty = 0 ∧ a < h.2.1 ∨ ty = 9 ∧ a = 1000000) ∧ ¬ (x < 0 ∨ n ≤ x.toNatClampNeg) then some (.int (f x.toNatClampNeg) :: r, h) else none
      | _ => none else none) = _
  rw [if_pos (Or.inl h1), h2]
  rw [← h3 _ (by omega)]
  exact if_pos ⟨Or.inl ⟨rfl, h1⟩, hx⟩
theorem jx_iast {a n : Nat} {f : Nat → Int32} {x v : Int32} (hy : y < 272) (hcode : jv_code y pc = some (.iastore, 1)) (ha : jIa h a n f) (hx : ¬ (x < 0 ∨ n ≤ x.toNatClampNeg)) (hg : ∀ h', h'.2 = h.2 → (∀ b, b ≠ a → h'.1 b = h.1 b) → jIa h' a n (upd f x.toNatClampNeg v) → jE y (pc + 1) Lv r h' K) : jE y pc Lv (.int v :: .int x :: .ref a :: r) h K := by
  obtain ⟨h1, g, h2, h3⟩ := ha
  refine jx_heap hy hcode rfl rfl rfl rfl rfl rfl (st' := r) (h1 := jv_put h a (.inl (0, n, upd g x.toNatClampNeg v))) ?_ (hg _ rfl (fun b hb => ?_) ⟨h1, upd g x.toNatClampNeg v, ?_, fun j hj => ?_⟩)
  · show (if a < h.2.1 then match h.1 a with
      | .inl (ty, n, f) => if ty = 0 ∧ ¬ (x < 0 ∨ n ≤ x.toNatClampNeg) then some (r, jv_put h a (.inl (ty, n, upd f x.toNatClampNeg v))) else none
      | _ => none else none) = _
    rw [if_pos h1, h2]
    exact if_pos ⟨rfl, hx⟩
  · show jv_up h.1 a _ b = _
    unfold jv_up
    rw [if_neg hb]
  · show jv_up h.1 a _ a = _
    unfold jv_up
    rw [if_pos rfl]
  · unfold upd
    split
    · rfl
    · exact h3 j hj
theorem jx_newo {idx c : Nat} (hy : y < 272) (hcode : jv_code y pc = some (.new idx, 3)) (hc : jv_new (sow y) idx = some c) (hg : jE y (pc + 3) Lv (.ref h.2.1 :: st) (jv_add h (.inr (.inr (c, (List.range (jv_fn c)).map (fun k => defaultValue (jv_fty c k))))) (jv_fn c)) K) : jE y pc Lv st h K := by
  refine jx_heap hy hcode rfl rfl rfl rfl rfl rfl ?_ hg
  unfold jv_heap
  simp only [hc]
theorem jx_putf {idx cx k a : Nat} {fs : List Value} {v : Value} (hy : y < 272) (hcode : jv_code y pc = some (.putfield idx, 3)) (hf : jv_fld (sow y) idx = some (cx, k)) (ha : a < h.2.1) (hc : h.1 a = .inr (.inr (cx, fs))) (hk : k < fs.length) (hv : narrow (jv_fty cx k) v = v ∧ fits (jv_fty cx k) v = true) (hfin : (jv_fT cx k).2.2.2 = false ∨ (sini y = true ∧ cx = sow y)) (hg : jE y (pc + 3) Lv r (jv_put h a (.inr (.inr (cx, fs.set k v)))) K) : jE y pc Lv (v :: .ref a :: r) h K := by
  refine jx_heap hy hcode rfl rfl rfl rfl rfl rfl (st' := r) (h1 := jv_put h a (.inr (.inr (cx, fs.set k v)))) ?_ hg
  show jv_set (sow y) (sini y) idx (v :: .ref a :: r) h = _
  unfold jv_set
  simp only [hf]
  rw [if_pos ⟨ha, hv.1, hv.2, hfin⟩, hc]
  exact if_pos ⟨rfl, hk⟩
theorem jx_ldc {idx : Nat} {v : Value} (hy : y < 272) (hcode : jv_code y pc = some (.ldc idx, 2)) (hf : jv_ldc (sow y) idx = some v) (hg : jE y (pc + 2) Lv (v :: st) h K) : jE y pc Lv st h K := by
  refine jx_heap hy hcode rfl rfl rfl rfl rfl rfl (st' := v :: st) (h1 := h) ?_ hg
  unfold jv_heap
  simp only [hf]
theorem jx_ldc2 {idx : Nat} {v : Int64} (hy : y < 272) (hcode : jv_code y pc = some (.ldc2_w idx, 3)) (hf : jv_ldl (sow y) idx = some v) (hg : jE y (pc + 3) Lv (.long v :: st) h K) : jE y pc Lv st h K := by
  refine jx_heap hy hcode rfl rfl rfl rfl rfl rfl (st' := .long v :: st) (h1 := h) ?_ hg
  unfold jv_heap
  simp only [hf]
/-- Object's constructor -/
def jx_chkO (y pc : Nat) : Bool := match jv_code y pc, jv_inf y with
  | some (i, 3), some (o1, _, _, _, fr, lo) => match jv_isC i with
    | some (ck, idx) => decide (ck = 2 ∧ (jv_cal o1 idx).map (fun q => q.1) = some 900 ∧ 1 ≤ fr ∧ 20 ≤ lo)
    | none => false
  | _, _ => false
theorem jx_obj {a : Nat} (hD : jx_chkO y pc = true) (hw : jv_wd r ≤ 8) (hg : jE y (pc + 3) Lv r h K) : jE y pc Lv (.ref a :: r) h K := by
  unfold jx_chkO at hD
  split at hD
  · rename_i i o1 _ _ _ fr lo hcode hinf
    split at hD
    · rename_i ck idx hC
      obtain ⟨rfl, hcal, hfr, hlo⟩ := of_decide_eq_true hD
      cases hcal2 : jv_cal o1 idx with
      | none => rw [hcal2] at hcal; cases hcal
      | some q =>
        obtain ⟨z', na', ne⟩ := q
        rw [hcal2] at hcal
        cases hcal
        obtain ⟨r2, h', e, k⟩ := hg
        refine ⟨r2, h', jv_ev_step (fun m => ?_) e, k⟩
        rw [jv_run]
        simp only [hinf, hcode, jv_ret_no (jv_isC_noR hC), hC, hcal2]
        rw [if_pos trivial, if_pos ⟨trivial, hfr, by omega⟩]
    · cases hD
  · cases hD
/-- a call of SeatSwap's: x stands at B, its numbers are σ -/
theorem jx_x {z na mL B : Nat} {σ : gS} {KG : gK} {as : List Value} (hD : jx_chk y pc z na mL 1 7 = true) (hx : xH B σ h) (hna : na = as.length + 1) (hw1 : jv_wd r ≤ 8) (hw2 : jv_wd (as ++ [Value.ref B]) = na)
    (hg : gE z 0 (some (.ref 0) :: (as.reverse.map some ++ List.replicate (mL - na) none)) [] σ KG) (has : ∀ v ∈ as, ∃ n, v = Value.int n)
    (hk : ∀ (r0 : Option Value) (σ' : gS) (h' : jv_H), KG r0 σ' → xH B σ' h' → xF B h h' → jE y (pc + 3) Lv ((r0.map (jm_v (fun a => a + B))).toList ++ r) h' K) : jE y pc Lv (as ++ .ref B :: r) h K := by
  have hB : B + 323 ≤ h.2.1 := hx.1
  have hBm : B < 1000000 := by
    obtain ⟨-, h0, -, -, hS⟩ := hx
    have := hS.2.2
    omega
  have hcell : ∃ fs, h.1 B = .inr (.inr (7, fs)) := by
    obtain ⟨-, h0, hr, -, hS⟩ := hx
    have h1 : (0 : Nat) < h0.2.1 := by rw [hr.1]; decide
    have h2 := jm_at hS h1
    rw [(jm_lt hS h1).1] at h2
    obtain ⟨fs, h3, -⟩ := gCk_obj (c := 7) (hr.2.2.2 0 (by decide)) (by decide +kernel)
    rw [h3] at h2
    refine ⟨fs.map (jm_v (fun a => a + B)), ?_⟩
    have h5 : h.1 (0 + B) = .inr (.inr (7, fs.map (jm_v (fun a => a + B)))) := h2
    rw [Nat.zero_add] at h5
    exact h5
  obtain ⟨fs, hfs⟩ := hcell
  have ht : (as ++ Value.ref B :: r).take na = as ++ [.ref B] := by
    rw [hna, show as ++ Value.ref B :: r = (as ++ [.ref B]) ++ r by simp, List.take_left' (by simp)]
  have hd : (as ++ Value.ref B :: r).drop na = r := by
    rw [hna, show as ++ Value.ref B :: r = (as ++ [.ref B]) ++ r by simp, List.drop_left' (by simp)]
  refine jx_call (z := z) (na := na) (mL := mL) (ck := 1) (ow := 7) hD (by rw [hna]; simp) (by rw [hd]; exact hw1) (by rw [ht]; exact hw2) (Or.inr ⟨B, 7, fs, by rw [ht, List.getLast?_concat], Or.inl (by omega), hfs, rfl⟩) ?_
  rw [ht, hd]
  have hc := xcall hg hx
  have eL : (some (.ref 0) :: (as.reverse.map some ++ List.replicate (mL - na) none)).map (Option.map (jm_v (fun a => a + B))) = ((as ++ [Value.ref B]).reverse.map some ++ List.replicate (mL - na) none : List (Option Value)) := by
    have e0 : jm_p (fun a => a + B) 0 = B := by
      unfold jm_p
      rw [if_pos (by decide)]
      show 0 + B = B
      omega
    have e1 : (as.reverse.map some).map (Option.map (jm_v (fun a => a + B))) = as.reverse.map some := by
      rw [List.map_map]
      apply List.map_congr_left
      intro v hv
      obtain ⟨n, rfl⟩ := has v (List.mem_reverse.mp hv)
      rfl
    rw [List.map_cons, List.map_append, e1, List.map_replicate]
    show some (Value.ref (jm_p _ 0)) :: _ = _
    rw [e0]
    simp
  rw [eL] at hc
  refine hc.mono (fun r1 h1 q => ?_)
  obtain ⟨r0, σ', k1, rfl, k2, k3⟩ := q
  exact hk r0 σ' h1 k1 k2 k3
end JR
