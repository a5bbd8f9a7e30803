/-! THE LAW'S HEAP: a SeatSwap at B, the method's own rows of whole numbers A, room for c cells and s slots more; what was there at h0 is as it was but for the SeatSwap -/
theorem xH.same {B : Nat} {σ : gS} {H H' : jv_H} (hx : xH B σ H) (e : ∀ a, (B ≤ a ∧ a < B + 323) ∨ 1000000 ≤ a → H'.1 a = H.1 a) (hl : H.2.1 ≤ H'.2.1) (hm : H'.2.1 ≤ 1000000) : xH B σ H' := by
  obtain ⟨hB, h, hr, hd, hS⟩ := hx
  have h323 : h.2.1 = 323 := hr.1
  refine ⟨by omega, h, hr, hd, ?_, ⟨by have := hS.2.1.1; omega, fun a ha => by have := hS.2.1.2.1 a ha; omega, hS.2.1.2.2⟩, hm⟩
  intro a ha
  rcases hS.1 a ha with q | q
  · left
    rw [e]
    · exact q
    · unfold jm_p
      rcases ha with h1 | h1 | h1
      · rw [if_pos (by omega)]
        left
        constructor
        · show B ≤ a + B
          omega
        · show a + B < B + 323
          omega
      · rw [if_neg (by omega)]
        right
        omega
      · have := jv_old_eq h1
        rw [if_neg (by omega)]
        right
        omega
  · exact Or.inr q
def bud (h : jv_H) (c s : Nat) : Prop := h.2.1 + c ≤ 600000 ∧ h.2.2 + s ≤ 7302250
def XP (B n : Nat) (ρ : gS) (H : jv_H) : Prop := n ≤ 9000 ∧ ∃ σ, xH B σ H ∧ GI n σ ∧ XQ σ ρ
theorem XP.same {B n : Nat} {ρ : gS} {H H' : jv_H} (hx : XP B n ρ H) (e : ∀ a, (B ≤ a ∧ a < B + 323) ∨ 1000000 ≤ a → H'.1 a = H.1 a) (hl : H.2.1 ≤ H'.2.1) (hm : H'.2.1 ≤ 1000000) : XP B n ρ H' := by
  obtain ⟨h1, σ, h2, h3, h4⟩ := hx
  exact ⟨h1, σ, h2.same e hl hm, h3, h4⟩
theorem XP.lt {B n : Nat} {ρ : gS} {H : jv_H} (hx : XP B n ρ H) : B + 323 ≤ H.2.1 := by
  obtain ⟨h1, σ, h2, h3, h4⟩ := hx
  exact h2.1
def fr (B : Nat) (h0 h : jv_H) : Prop := B + 323 ≤ h0.2.1 ∧ h0.2.1 ≤ h.2.1 ∧ ∀ a, a < h0.2.1 ∨ 1000000 ≤ a → (a < B ∨ B + 323 ≤ a) → h.1 a = h0.1 a
theorem fr.trans {B : Nat} {h0 h1 h2 : jv_H} (a : fr B h0 h1) (b : fr B h1 h2) : fr B h0 h2 := by
  obtain ⟨a1, a2, a3⟩ := a
  obtain ⟨b1, b2, b3⟩ := b
  refine ⟨a1, by omega, fun q hq hB => ?_⟩
  rw [b3 q (by omega) hB, a3 q hq hB]
abbrev jAs : Type := List (Nat × Nat × (Nat → Int32))
def LX (B n : Nat) (ρ : gS) (A : jAs) (c s : Nat) (h0 h : jv_H) : Prop := XP B n ρ h ∧ (∀ q ∈ A, jIa h q.1 q.2.1 q.2.2 ∧ h0.2.1 ≤ q.1) ∧ (A.map (fun q => q.1)).Nodup ∧ bud h c s ∧ fr B h0 h
theorem LX.start {B n c s : Nat} {ρ : gS} {h : jv_H} (hx : XP B n ρ h) (hb : bud h c s) : LX B n ρ [] c s h h := ⟨hx, (fun q hq => by cases hq), List.nodup_nil, hb, hx.lt, Nat.le_refl _, fun _ _ _ => rfl⟩
theorem LX.sub {B n c s c' s' : Nat} {ρ : gS} {A A' : jAs} {h0 h : jv_H} (hx : LX B n ρ A c s h0 h) (hA : A'.Sublist A) (hc : c' ≤ c) (hs : s' ≤ s) : LX B n ρ A' c' s' h0 h := by
  obtain ⟨h1, h2, h3, h4, h5⟩ := hx
  exact ⟨h1, fun q hq => h2 q (hA.subset hq), (hA.map _).nodup h3, ⟨by have := h4.1; omega, by have := h4.2; omega⟩, h5⟩
theorem LX.le {B n c s c' s' : Nat} {ρ : gS} {A : jAs} {h0 h : jv_H} (hx : LX B n ρ A c s h0 h) (hc : c' ≤ c) (hs : s' ≤ s) : LX B n ρ A c' s' h0 h := hx.sub (List.Sublist.refl _) hc hs
theorem LX.nil {B n c s : Nat} {ρ : gS} {A : jAs} {h0 h : jv_H} (hx : LX B n ρ A c s h0 h) : LX B n ρ [] c s h0 h := hx.sub (List.nil_sublist _) (Nat.le_refl _) (Nat.le_refl _)
/-- a method's contract: from room for c cells and s slots to room for c' and s' -/
def LM (z : Nat) (L : gL) (B n : Nat) (ρ : gS) (c s : Nat) (v : Value) (n' : Nat) (ρ' : gS) (c' s' : Nat) : Prop := ∀ h, LX B n ρ [] c s h h → jE z 0 L [] h (fun r h' => r = some v ∧ LX B n' ρ' [] c' s' h h')
section LXR
variable {y pc B n n' c s c' s' : Nat} {ρ ρ' : gS} {A A' : jAs} {h0 h : jv_H} {Lv : List (Option Value)} {st r : List Value} {K : jK}
theorem lx_call {z na mL : Nat} {v : Value} {L : gL} (is : List Int32) (hD : jx_chk y pc z na mL 1 7 = true) (hx : LX B n ρ A c s h0 h) (hr : XRV z L n ρ v n' ρ') (hn : n' ≤ 9000) (hL : L = some (.ref 0) :: ((is.map Value.int).reverse.map some ++ List.replicate (mL - na) none)) (hna : na = is.length + 1) (hv : ∀ f, jm_v f v = v) (hw1 : jv_wd r ≤ 8)
    (hg : ∀ h', LX B n' ρ' A c s h0 h' → jE y (pc + 3) Lv (v :: r) h' K) : jE y pc Lv (is.map Value.int ++ .ref B :: r) h K := by
  obtain ⟨⟨x1, σ, x2, x3, x4⟩, h2, h3, h4, h5⟩ := hx
  have hB := x2.1
  have hw2 : jv_wd (is.map Value.int ++ [Value.ref B]) = na := by
    rw [hna]
    unfold jv_wd
    rw [List.map_append, List.sum_append, List.map_map]
    have e : (is.map ((fun v : Value => v.category) ∘ Value.int)).sum = is.length := by
      clear hL hna hg
      induction is with
      | nil => rfl
      | cons a t ih =>
        show 1 + (t.map _).sum = t.length + 1
        rw [ih, Nat.add_comm]
    rw [e]
    rfl
  have hg1 := hr x1 σ x3 x4
  rw [hL] at hg1
  refine jx_x (as := is.map Value.int) hD x2 (by rw [List.length_map]; exact hna) hw1 hw2 hg1 (fun w hw => ?_) (fun r0 σ' h' hk x5 xf => ?_)
  · obtain ⟨i, -, e⟩ := List.mem_map.mp hw
    exact ⟨i, e.symm⟩
  · obtain ⟨rfl, τ, t1, t2, t3⟩ := hk
    have e : ((some v : Option Value).map (jm_v (fun a => a + B))).toList ++ r = v :: r := by
      show [jm_v _ v] ++ r = _
      rw [hv]
      rfl
    rw [e]
    have f2 : h'.2 = h.2 := xf.1
    have f3 : ∀ a, a < B ∨ B + 323 ≤ a → h'.1 a = h.1 a := xf.2
    obtain ⟨g1, g2, g3⟩ := h5
    refine hg h' ⟨⟨hn, τ, x5.ph t1, t2, t3⟩, fun q hq => ?_, h3, by unfold bud; rw [f2]; exact h4, g1, by rw [f2]; exact g2, fun a ha hb => ?_⟩
    · obtain ⟨i1, i2⟩ := h2 q hq
      exact ⟨i1.fr (f3 _ (by omega)) (by rw [f2]; exact Nat.le_refl _), i2⟩
    · rw [f3 a hb]
      exact g3 a ha hb
theorem lx_newi {nn : Int32} {k : Nat} (hy : y < 272) (hcode : jv_code y pc = some (.newarray .int, 2)) (hn : nn.toNatClampNeg = k ∧ ¬ nn < 0 ∧ k ≤ 100000) (hx : LX B n ρ A (c + 1) (s + k) h0 h) (hg : ∀ a h', LX B n ρ ((a, k, fun _ => 0) :: A) c s h0 h' → jE y (pc + 2) Lv (.ref a :: r) h' K) : jE y pc Lv (.int nn :: r) h K := by
  obtain ⟨x1, h2, h3, h4, h5⟩ := hx
  obtain ⟨g1, g2, g3⟩ := h5
  obtain ⟨b1, b2⟩ := h4
  refine jx_newi hy hcode hn (hg h.2.1 _ ⟨x1.same (fun a ha => ?_) (Nat.le_succ _) ?_, fun q hq => ?_, ?_, ⟨?_, ?_⟩, g1, ?_, fun a ha hb => ?_⟩)
  · have hB := x1.lt
    show jv_up h.1 h.2.1 _ a = _
    unfold jv_up
    rw [if_neg (by omega)]
  · show h.2.1 + 1 ≤ 1000000
    omega
  · rcases List.mem_cons.mp hq with rfl | hq
    · exact ⟨jIa.new, g2⟩
    · exact ⟨(h2 q hq).1.add, (h2 q hq).2⟩
  · rw [List.map_cons, List.nodup_cons]
    refine ⟨fun hm => ?_, h3⟩
    obtain ⟨q, hq, e⟩ := List.mem_map.mp hm
    have := (h2 q hq).1.1
    have e : q.1 = h.2.1 := e
    omega
  · show h.2.1 + 1 + c ≤ 600000
    omega
  · show h.2.2 + k + s ≤ 7302250
    omega
  · show h0.2.1 ≤ h.2.1 + 1
    omega
  · show jv_up h.1 h.2.1 _ a = _
    unfold jv_up
    rw [if_neg (by omega)]
    exact g3 a ha hb
theorem jIa.nn {x : Int32} {j k : Nat} (hj : x.toNatClampNeg = j ∧ 0 ≤ x) (hk : j < k) : ¬ (x < 0 ∨ k ≤ x.toNatClampNeg) := by
  intro z
  rcases z with z | z
  · exact absurd z (Int32.not_lt.mpr hj.2)
  · omega
theorem lx_ld {i a k j : Nat} {f : Nat → Int32} {x : Int32} (hy : y < 272) (hcode : jv_code y pc = some (.iaload, 1)) (hx : LX B n ρ A c s h0 h) (hi : A[i]? = some (a, k, f)) (hj : x.toNatClampNeg = j ∧ 0 ≤ x) (hk : j < k) (hg : jE y (pc + 1) Lv (.int (f j) :: r) h K) : jE y pc Lv (.int x :: .ref a :: r) h K := by
  obtain ⟨x1, h2, h3, h4, h5⟩ := hx
  refine jx_iald hy hcode (h2 _ (List.mem_of_getElem? hi)).1 (jIa.nn hj hk) ?_
  rw [hj.1]
  exact hg
theorem lx_st {i a k j : Nat} {f : Nat → Int32} {x v : Int32} (hy : y < 272) (hcode : jv_code y pc = some (.iastore, 1)) (hx : LX B n ρ A c s h0 h) (hi : A[i]? = some (a, k, f)) (hj : x.toNatClampNeg = j ∧ 0 ≤ x) (hk : j < k) (hA : A.set i (a, k, upd f j v) = A') (hg : ∀ h', LX B n ρ A' c s h0 h' → jE y (pc + 1) Lv r h' K) : jE y pc Lv (.int v :: .int x :: .ref a :: r) h K := by
  obtain ⟨x1, h2, h3, h4, h5⟩ := hx
  obtain ⟨g1, g2, g3⟩ := h5
  obtain ⟨m1, m2⟩ := h2 _ (List.mem_of_getElem? hi)
  have m2 : h0.2.1 ≤ a := m2
  have hB := x1.lt
  have hah : a < h.2.1 := m1.1
  refine jx_iast hy hcode m1 (jIa.nn hj hk) (fun h' e2 e1 ia => hg h' ?_)
  rw [hj.1] at ia
  subst hA
  have b4 : bud h c s := h4
  have b5 := b4.1
  refine ⟨x1.same (fun b hb => e1 b (by omega)) (by rw [e2]; exact Nat.le_refl _) (by rw [e2]; omega), fun q hq => ?_, ?_, by unfold bud; rw [e2]; exact h4, g1, by rw [e2]; exact g2, fun b hb hb2 => ?_⟩
  · obtain ⟨p, hp, e⟩ := List.getElem_of_mem hq
    rw [List.getElem_set] at e
    split at e
    · subst e
      exact ⟨ia, m2⟩
    · rename_i hne
      rw [List.length_set] at hp
      have hq2 : A[p]? = some q := by rw [List.getElem?_eq_getElem hp, e]
      obtain ⟨j1, j2⟩ := h2 q (List.mem_of_getElem? hq2)
      refine ⟨j1.fr (e1 _ (fun z => ?_)) (by rw [e2]; exact Nat.le_refl _), j2⟩
      have hi2 := (List.getElem?_eq_some_iff.mp hi)
      obtain ⟨hil, hie⟩ := hi2
      have h6 : (A.map (fun q => q.1))[i]'(by rw [List.length_map]; exact hil) = (A.map (fun q => q.1))[p]'(by rw [List.length_map]; exact hp) := by
        rw [List.getElem_map, List.getElem_map, hie, e]
        exact z.symm
      have h7 := List.pairwise_iff_getElem.mp h3
      rcases Nat.lt_or_ge i p with z2 | z2
      · exact h7 i p (by rw [List.length_map]; exact hil) (by rw [List.length_map]; exact hp) z2 h6
      · exact h7 p i (by rw [List.length_map]; exact hp) (by rw [List.length_map]; exact hil) (by omega) h6.symm
  · have e3 : (A.set i (a, k, upd f j v)).map (fun q => q.1) = A.map (fun q => q.1) := by
      rw [List.map_set]
      apply List.ext_getElem
      · rw [List.length_set]
      · intro p p1 p2
        rw [List.getElem_set]
        split
        · rename_i e4
          subst e4
          obtain ⟨hil, hie⟩ := List.getElem?_eq_some_iff.mp hi
          rw [List.getElem_map, hie]
        · rfl
    rw [e3]
    exact h3
  · rw [e1 b (by omega)]
    exact g3 b hb hb2
/-- behind a method of the law's that was called -/
theorem LX.back (hx : LX B n ρ A c s h0 h) {h' : jv_H} {c1 s1 : Nat} (hy : LX B n' ρ' [] c1 s1 h h') : LX B n' ρ' A c1 s1 h0 h' := by
  obtain ⟨x1, h2, h3, h4, h5⟩ := hx
  obtain ⟨y1, -, -, y4, y5⟩ := hy
  have g := h5
  obtain ⟨g1, g2, g3⟩ := g
  obtain ⟨f1, f2, f3⟩ := y5
  refine ⟨y1, fun q hq => ?_, h3, y4, h5.trans ⟨f1, f2, f3⟩⟩
  obtain ⟨i1, i2⟩ := h2 q hq
  have := i1.1
  exact ⟨i1.fr (f3 _ (by omega) (by omega)) f2, i2⟩
theorem lx_m {z na mL : Nat} {v : Value} {L : gL} (as : List Value) (hD : jx_chk y pc z na mL 0 10 = true) (hx : LX B n ρ A c s h0 h) (hm : LM z L B n ρ c s v n' ρ' c' s') (hL : L = as.reverse.map some ++ List.replicate (mL - na) none) (hna : na = as.length) (hw1 : jv_wd r ≤ 8) (hw2 : jv_wd as = na) (hg : ∀ h', LX B n' ρ' A c' s' h0 h' → jE y (pc + 3) Lv (v :: r) h' K) : jE y pc Lv (as ++ r) h K := by
  have ht : (as ++ r).take na = as := by rw [hna, List.take_left' rfl]
  have hd : (as ++ r).drop na = r := by rw [hna, List.drop_left' rfl]
  refine jx_call (z := z) (na := na) (mL := mL) (ck := 0) (ow := 10) hD (by rw [hna, List.length_append]; omega) (by rw [hd]; exact hw1) (by rw [ht]; exact hw2) (Or.inl rfl) ?_
  rw [ht, hd, ← hL]
  have hs : LX B n ρ [] c s h h := LX.start hx.1 hx.2.2.2.1
  refine (hm h hs).mono (fun r1 h1 q => ?_)
  obtain ⟨rfl, q2⟩ := q
  exact hg h1 (hx.back q2)
end LXR
