/-! THE LAW'S HEAP with a table of numbers (six rows of ten) at p besides -/
theorem addn_at (m : Nat) : ∀ (k : Nat) (h : jv_H), (jv_addn h k m).2.1 = h.2.1 + k ∧ (jv_addn h k m).2.2 = h.2.2 + k * m ∧ (∀ i, i < k → (jv_addn h k m).1 (h.2.1 + i) = .inl (0, m, fun _ => 0)) ∧ ∀ a, a < h.2.1 ∨ h.2.1 + k ≤ a → (jv_addn h k m).1 a = h.1 a
  | 0, h => ⟨rfl, by rw [Nat.zero_mul]; rfl, fun i hi => absurd hi (Nat.not_lt_zero _), fun _ _ => rfl⟩
  | k + 1, h => by
    obtain ⟨i1, i2, i3, i4⟩ := addn_at m k (jv_add h (.inl (0, m, fun _ => 0)) m)
    have e1 : (jv_add h (.inl (0, m, fun _ => 0)) m).2.1 = h.2.1 + 1 := rfl
    have e2 : (jv_add h (.inl (0, m, fun _ => 0)) m).2.2 = h.2.2 + m := rfl
    have e : jv_addn h (k + 1) m = jv_addn (jv_add h (.inl (0, m, fun _ => 0)) m) k m := rfl
    rw [e]
    rw [e1] at i1 i3 i4
    rw [e2] at i2
    refine ⟨by omega, by rw [i2, Nat.succ_mul]; omega, fun i hi => ?_, fun a ha => ?_⟩
    · by_cases q : i = 0
      · subst q
        rw [i4 _ (by omega), Nat.add_zero]
        exact jv_at_new
      · have := i3 (i - 1) (by omega)
        rw [show h.2.1 + 1 + (i - 1) = h.2.1 + i by omega] at this
        exact this
    · rw [i4 a (by omega)]
      show jv_up h.1 h.2.1 _ a = _
      unfold jv_up
      rw [if_neg (by omega)]
def lyR (p : Nat) : jv_E := .inr (.inl (6, 6, fun i => if i < 6 then some (p + 1 + i) else none))
def LY (B n : Nat) (ρ : gS) (A : jAs) (p : Nat) (g : Nat → Nat → Int32) (c s : Nat) (h0 h : jv_H) : Prop := LX B n ρ A c s h0 h ∧ (h0.2.1 ≤ p ∧ p + 7 ≤ h.2.1) ∧ h.1 p = lyR p ∧ (∀ i, i < 6 → jIa h (p + 1 + i) 10 (g i)) ∧ ∀ q ∈ A, q.1 < p ∨ p + 7 ≤ q.1
/-- the same rows, told otherwise -/
def AE : jAs → jAs → Prop
  | [], [] => True
  | q :: t, q2 :: t2 => (q2.1 = q.1 ∧ q2.2.1 = q.2.1 ∧ ∀ j, j < q.2.1 → q2.2.2 j = q.2.2 j) ∧ AE t t2
  | _, _ => False
theorem AE.map : ∀ {A A' : jAs}, AE A A' → A'.map (fun q => q.1) = A.map (fun q => q.1)
  | [], [], _ => rfl
  | q :: t, q2 :: t2, h => by
    show q2.1 :: t2.map _ = q.1 :: t.map _
    rw [h.1.1, AE.map h.2]
theorem AE.mem : ∀ {A A' : jAs}, AE A A' → ∀ q', q' ∈ A' → ∃ q, q ∈ A ∧ q'.1 = q.1 ∧ q'.2.1 = q.2.1 ∧ ∀ j, j < q.2.1 → q'.2.2 j = q.2.2 j
  | [], [], _, q', hq => by cases hq
  | q :: t, q2 :: t2, h, q', hq => by
    rcases List.mem_cons.mp hq with rfl | hq
    · exact ⟨q, List.mem_cons_self, h.1⟩
    · obtain ⟨r, r1, r2⟩ := AE.mem h.2 q' hq
      exact ⟨r, List.mem_cons_of_mem _ r1, r2⟩
theorem LX.ext {B n c s : Nat} {ρ : gS} {A A' : jAs} {h0 h : jv_H} (hx : LX B n ρ A c s h0 h) (e : AE A A') : LX B n ρ A' c s h0 h := by
  obtain ⟨h1, h2, h3, h4, h5⟩ := hx
  refine ⟨h1, fun q' hq => ?_, by rw [e.map]; exact h3, h4, h5⟩
  obtain ⟨q, hq2, e1, e2, e3⟩ := e.mem q' hq
  obtain ⟨⟨i1, gg, i2, i3⟩, i4⟩ := h2 q hq2
  rw [e1, e2]
  exact ⟨⟨i1, gg, i2, fun j hj => (i3 j hj).trans (e3 j hj).symm⟩, i4⟩
theorem LY.ext {B n c s p : Nat} {ρ : gS} {A A' : jAs} {g g' : Nat → Nat → Int32} {h0 h : jv_H} (hx : LY B n ρ A p g c s h0 h) (e : AE A A') (eg : ∀ i, i < 6 → ∀ j, j < 10 → g' i j = g i j) : LY B n ρ A' p g' c s h0 h := by
  obtain ⟨h1, h2, h3, h4, h5⟩ := hx
  refine ⟨h1.ext e, h2, h3, fun i hi => ?_, fun q' hq => ?_⟩
  · obtain ⟨i1, gg, i2, i3⟩ := h4 i hi
    exact ⟨i1, gg, i2, fun j hj => (i3 j hj).trans (eg i hi j hj).symm⟩
  · obtain ⟨q, hq2, e1, -⟩ := e.mem q' hq
    rw [e1]
    exact h5 q hq2
section LYR
variable {y pc B n c s p : Nat} {ρ : gS} {A A' : jAs} {g : Nat → Nat → Int32} {h0 h : jv_H} {Lv : List (Option Value)} {st r : List Value} {K : jK}
theorem ly_call {z na mL : Nat} {v : Value} {L : gL} (is : List Int32) (hD : jx_chk y pc z na mL 1 7 = true) (hx : LY B n ρ A p g c s h0 h) (hr : XRV z L n ρ v n ρ) (hL : L = some (.ref 0) :: ((is.map Value.int).reverse.map some ++ List.replicate (mL - na) none)) (hna : na = is.length + 1) (hv : ∀ f, jm_v f v = v) (hw1 : jv_wd r ≤ 8)
    (hg : ∀ h', LY B n ρ A p g c s h0 h' → jE y (pc + 3) Lv (v :: r) h' K) : jE y pc Lv (is.map Value.int ++ .ref B :: r) h K := by
  obtain ⟨⟨⟨x1, σ, x2, x3, x4⟩, h2, h3, h4, h5⟩, p1, p2, p3, p4⟩ := hx
  have hB := x2.1
  have hw2 : jv_wd (is.map Value.int ++ [Value.ref B]) = na := by
    rw [hna]
    unfold jv_wd
    rw [List.map_append, List.sum_append, List.map_map]
    have e : (is.map ((fun v : Value => v.category) ∘ Value.int)).sum = is.length := by
      clear hL hna hg
      induction is with
      | nil => rfl
      | cons a t ih =>
        show 1 + (t.map _).sum = t.length + 1
        rw [ih, Nat.add_comm]
    rw [e]
    rfl
  have hg1 := hr x1 σ x3 x4
  rw [hL] at hg1
  refine jx_x (as := is.map Value.int) hD x2 (by rw [List.length_map]; exact hna) hw1 hw2 hg1 (fun w hw => ?_) (fun r0 σ' h' hk x5 xf => ?_)
  · obtain ⟨i, -, e⟩ := List.mem_map.mp hw
    exact ⟨i, e.symm⟩
  · obtain ⟨rfl, τ, t1, t2, t3⟩ := hk
    have e : ((some v : Option Value).map (jm_v (fun a => a + B))).toList ++ r = v :: r := by
      show [jm_v _ v] ++ r = _
      rw [hv]
      rfl
    rw [e]
    have f2 : h'.2 = h.2 := xf.1
    have f3 : ∀ a, a < B ∨ B + 323 ≤ a → h'.1 a = h.1 a := xf.2
    have g5 := h5
    obtain ⟨g1, g2, g3⟩ := g5
    refine hg h' ⟨⟨⟨x1, τ, x5.ph t1, t2, t3⟩, fun q hq => ?_, h3, by unfold bud; rw [f2]; exact h4, g1, by rw [f2]; exact g2, fun a ha hb => ?_⟩, by rw [f2]; exact p1, ?_, fun i hi => ?_, p4⟩
    · obtain ⟨i1, i2⟩ := h2 q hq
      exact ⟨i1.fr (f3 _ (by omega)) (by rw [f2]; exact Nat.le_refl _), i2⟩
    · rw [f3 a hb]
      exact g3 a ha hb
    · rw [f3 p (by omega)]
      exact p2
    · exact (p3 i hi).fr (f3 _ (by omega)) (by rw [f2]; exact Nat.le_refl _)
theorem ly_ld {i a k j : Nat} {f : Nat → Int32} {x : Int32} (hy : y < 272) (hcode : jv_code y pc = some (.iaload, 1)) (hx : LY B n ρ A p g c s h0 h) (hi : A[i]? = some (a, k, f)) (hj : x.toNatClampNeg = j ∧ 0 ≤ x) (hk : j < k) (hg : jE y (pc + 1) Lv (.int (f j) :: r) h K) : jE y pc Lv (.int x :: .ref a :: r) h K := lx_ld hy hcode hx.1 hi hj hk hg
theorem ly_st {i a k j : Nat} {f : Nat → Int32} {x v : Int32} (hy : y < 272) (hcode : jv_code y pc = some (.iastore, 1)) (hx : LY B n ρ A p g c s h0 h) (hi : A[i]? = some (a, k, f)) (hj : x.toNatClampNeg = j ∧ 0 ≤ x) (hk : j < k) (hA : A.set i (a, k, upd f j v) = A') (hg : ∀ h', LY B n ρ A' p g c s h0 h' → jE y (pc + 1) Lv r h' K) : jE y pc Lv (.int v :: .int x :: .ref a :: r) h K := by
  obtain ⟨h1, p1, p2, p3, p4⟩ := hx
  have hne := p4 _ (List.mem_of_getElem? hi)
  have hne : a < p ∨ p + 7 ≤ a := hne
  obtain ⟨x1, h2, h3, h4, h5⟩ := h1
  have hx1 : LX B n ρ A c s h0 h := ⟨x1, h2, h3, h4, h5⟩
  obtain ⟨g1, g2, g3⟩ := h5
  obtain ⟨m1, m2⟩ := h2 _ (List.mem_of_getElem? hi)
  have m2 : h0.2.1 ≤ a := m2
  have hB := x1.lt
  have hah : a < h.2.1 := m1.1
  obtain ⟨ma, gg, mc, mf⟩ := m1
  -- the store, once more with what it leaves alone
  refine jx_iast hy hcode (h2 _ (List.mem_of_getElem? hi)).1 (jIa.nn hj hk) (fun h' e2 e1 ia => hg h' ?_)
  rw [hj.1] at ia
  subst hA
  have b4 : bud h c s := h4
  have b5 := b4.1
  refine ⟨⟨x1.same (fun b hb => e1 b (by omega)) (by rw [e2]; exact Nat.le_refl _) (by rw [e2]; omega), fun q hq => ?_, ?_, by unfold bud; rw [e2]; exact h4, g1, by rw [e2]; exact g2, fun b hb hb2 => ?_⟩, by rw [e2]; exact p1, by rw [e1 p (by omega)]; exact p2, fun i hi => (p3 i hi).fr (e1 _ (by omega)) (by rw [e2]; exact Nat.le_refl _), fun q hq => ?_⟩
  · obtain ⟨w, hw, e⟩ := List.getElem_of_mem hq
    rw [List.getElem_set] at e
    split at e
    · subst e
      exact ⟨ia, m2⟩
    · rename_i hne
      rw [List.length_set] at hw
      have hq2 : A[w]? = some q := by rw [List.getElem?_eq_getElem hw, e]
      obtain ⟨j1, j2⟩ := h2 q (List.mem_of_getElem? hq2)
      refine ⟨j1.fr (e1 _ (fun z => ?_)) (by rw [e2]; exact Nat.le_refl _), j2⟩
      obtain ⟨hil, hie⟩ := List.getElem?_eq_some_iff.mp hi
      have h6 : (A.map (fun q => q.1))[i]'(by rw [List.length_map]; exact hil) = (A.map (fun q => q.1))[w]'(by rw [List.length_map]; exact hw) := by
        rw [List.getElem_map, List.getElem_map, hie, e]
        exact z.symm
      have h7 := List.pairwise_iff_getElem.mp h3
      rcases Nat.lt_or_ge i w with z2 | z2
      · exact h7 i w (by rw [List.length_map]; exact hil) (by rw [List.length_map]; exact hw) z2 h6
      · exact h7 w i (by rw [List.length_map]; exact hw) (by rw [List.length_map]; exact hil) (by omega) h6.symm
  · have e3 : (A.set i (a, k, upd f j v)).map (fun q => q.1) = A.map (fun q => q.1) := by
      rw [List.map_set]
      apply List.ext_getElem
      · rw [List.length_set]
      · intro w w1 w2
        rw [List.getElem_set]
        split
        · rename_i e4
          subst e4
          obtain ⟨hil, hie⟩ := List.getElem?_eq_some_iff.mp hi
          rw [List.getElem_map, hie]
        · rfl
    rw [e3]
    exact h3
  · rw [e1 b (by omega)]
    exact g3 b hb hb2
  · obtain ⟨w, hw, e⟩ := List.getElem_of_mem hq
    rw [List.getElem_set] at e
    split at e
    · subst e
      exact hne
    · rw [List.length_set] at hw
      exact p4 q (List.mem_of_getElem? (by rw [List.getElem?_eq_getElem hw, e]))
/-- a row of the table -/
theorem ly_aa {x : Int32} {k : Nat} (hy : y < 272) (hcode : jv_code y pc = some (.aaload, 1)) (hx : LY B n ρ A p g c s h0 h) (hj : x.toNatClampNeg = k ∧ 0 ≤ x) (hk : k < 6) (hg : jE y (pc + 1) Lv (.ref (p + 1 + k) :: r) h K) : jE y pc Lv (.int x :: .ref p :: r) h K := by
  obtain ⟨h1, p1, p2, p3, p4⟩ := hx
  refine jx_heap hy hcode rfl rfl rfl rfl rfl rfl (st' := .ref (p + 1 + k) :: r) (h1 := h) ?_ hg
  show (if p < h.2.1 then match h.1 p with
      | .inr (.inl (ty, n, f)) => if (2 ≤ ty ∧ ty ≤ 6 ∧ ty ≠ 4) ∧ ¬ (x < 0 ∨ n ≤ x.toNatClampNeg) then (match f x.toNatClampNeg with
        | some b => some (.ref b :: r, h)
        | none => none) else none
      | _ => none else none) = _
  rw [if_pos (by omega), p2]
  show (if (2 ≤ 6 ∧ 6 ≤ 6 ∧ 6 ≠ 4) ∧ ¬ (x < 0 ∨ 6 ≤ x.toNatClampNeg) then (match (if x.toNatClampNeg < 6 then some (p + 1 + x.toNatClampNeg) else none) with
        | some b => some (.ref b :: r, h)
        | none => none) else none) = _
  rw [if_pos ⟨by decide, jIa.nn (k := 6) hj hk⟩, hj.1, if_pos hk]
theorem ly_ml {x : Int32} {i j : Nat} (hy : y < 272) (hcode : jv_code y pc = some (.iaload, 1)) (hx : LY B n ρ A p g c s h0 h) (hi : i < 6) (hj : x.toNatClampNeg = j ∧ 0 ≤ x) (hk : j < 10) (hg : jE y (pc + 1) Lv (.int (g i j) :: r) h K) : jE y pc Lv (.int x :: .ref (p + 1 + i) :: r) h K := by
  refine jx_iald hy hcode (hx.2.2.2.1 i hi) (jIa.nn hj hk) ?_
  rw [hj.1]
  exact hg
theorem ly_ms {x v : Int32} {i j : Nat} (hy : y < 272) (hcode : jv_code y pc = some (.iastore, 1)) (hx : LY B n ρ A p g c s h0 h) (hi : i < 6) (hj : x.toNatClampNeg = j ∧ 0 ≤ x) (hk : j < 10) (hg : ∀ h', LY B n ρ A p (fun q => if q = i then upd (g i) j v else g q) c s h0 h' → jE y (pc + 1) Lv r h' K) : jE y pc Lv (.int v :: .int x :: .ref (p + 1 + i) :: r) h K := by
  obtain ⟨h1, p1, p2, p3, p4⟩ := hx
  obtain ⟨x1, h2, h3, h4, h5⟩ := h1
  obtain ⟨g1, g2, g3⟩ := h5
  have hB := x1.lt
  refine jx_iast hy hcode (p3 i hi) (jIa.nn hj hk) (fun h' e2 e1 ia => hg h' ?_)
  rw [hj.1] at ia
  have b4 : bud h c s := h4
  have b5 := b4.1
  refine ⟨⟨x1.same (fun b hb => e1 b (by omega)) (by rw [e2]; exact Nat.le_refl _) (by rw [e2]; omega), fun q hq => ?_, h3, by unfold bud; rw [e2]; exact h4, g1, by rw [e2]; exact g2, fun b hb hb2 => ?_⟩, by rw [e2]; exact p1, by rw [e1 p (by omega)]; exact p2, fun q hq => ?_, p4⟩
  · have := p4 q hq
    exact ⟨(h2 q hq).1.fr (e1 _ (by omega)) (by rw [e2]; exact Nat.le_refl _), (h2 q hq).2⟩
  · rw [e1 b (by omega)]
    exact g3 b hb hb2
  · by_cases z : q = i
    · subst z
      rw [show (fun q_1 => if q_1 = q then upd (g q) j v else g q_1) q = upd (g q) j v from if_pos rfl]
      exact ia
    · show jIa h' (p + 1 + q) 10 (if q = i then upd (g i) j v else g q)
      rw [if_neg z]
      exact (p3 q hq).fr (e1 _ (by omega)) (by rw [e2]; exact Nat.le_refl _)
theorem ly_new (hy : y < 272) (ho : sow y = 10) (hcode : jv_code y pc = some (.multianewarray 101 2, 4)) (hx : LX B n ρ A (c + 7) (s + 66) h0 h) (hg : ∀ p h', LY B n ρ A p (fun _ _ => 0) c s h0 h' → jE y (pc + 4) Lv (.ref p :: r) h' K) : jE y pc Lv (.int 10 :: .int 6 :: r) h K := by
  obtain ⟨x1, h2, h3, h4, h5⟩ := hx
  obtain ⟨g1, g2, g3⟩ := h5
  obtain ⟨b1, b2⟩ := h4
  have hB := x1.lt
  obtain ⟨i1, i2, i3, i4⟩ := addn_at 10 6 (jv_add h (lyR h.2.1) 6)
  have e1 : (jv_add h (lyR h.2.1) 6).2.1 = h.2.1 + 1 := rfl
  have e2 : (jv_add h (lyR h.2.1) 6).2.2 = h.2.2 + 6 := rfl
  rw [e1] at i1 i3 i4
  rw [e2] at i2
  have low : ∀ a, a < h.2.1 ∨ h.2.1 + 7 ≤ a → (jv_addn (jv_add h (lyR h.2.1) 6) 6 10).1 a = h.1 a := fun a ha => by
    rw [i4 a (by omega)]
    show jv_up h.1 h.2.1 _ a = _
    unfold jv_up
    rw [if_neg (by omega)]
  have hp : (jv_addn (jv_add h (lyR h.2.1) 6) 6 10).1 h.2.1 = lyR h.2.1 := by
    rw [i4 _ (by omega)]
    exact jv_at_new
  refine jx_heap hy hcode rfl rfl rfl rfl rfl rfl (st' := .ref h.2.1 :: r) (h1 := jv_addn (jv_add h (lyR h.2.1) 6) 6 10) ?_ (hg h.2.1 _ ⟨⟨x1.same (fun a ha => low a (by omega)) (by omega) (by omega), fun q hq => ?_, h3, ⟨by omega, by omega⟩, g1, by omega, fun a ha hb => ?_⟩, ⟨g2, by omega⟩, hp, fun i hi => ?_, fun q hq => ?_⟩)
  · show (if sow y = 10 ∧ 101 = 101 ∧ 2 = 2 then _ else none) = _
    rw [if_pos ⟨ho, rfl, rfl⟩]
    rfl
  · obtain ⟨j1, j2⟩ := h2 q hq
    have := j1.1
    exact ⟨j1.fr (low _ (by omega)) (by omega), j2⟩
  · rw [low a (by omega)]
    exact g3 a ha hb
  · refine ⟨by omega, fun _ => 0, ?_, fun _ _ => rfl⟩
    exact i3 i hi
  · obtain ⟨j1, j2⟩ := h2 q hq
    have := j1.1
    omega
theorem LY.sub {c' s' : Nat} (hx : LY B n ρ A p g c s h0 h) (hc : c' ≤ c) (hs : s' ≤ s) : LY B n ρ A p g c' s' h0 h := ⟨hx.1.le hc hs, hx.2⟩
end LYR
