/-! THE LAW'S RECORD, letter by letter -/
/-- a builder at q in the law's hands: what lay before is as it was, and the cells X stand -/
def BS (X : List (Nat × jv_E)) (c s : Nat) (h0 h : jv_H) (q : Nat) (w : List Int32) (b : Nat) : Prop :=
  ∃ v m, jSB h q v m w ∧ w.length ≤ b ∧ (h0.2.1 ≤ q ∧ h0.2.1 ≤ v) ∧ (∀ a, a < h0.2.1 ∨ 1000000 ≤ a → h.1 a = h0.1 a) ∧ (∀ x ∈ X, h0.2.1 ≤ x.1 ∧ x.1 < h.2.1 ∧ x.1 ≠ q ∧ x.1 ≠ v ∧ h.1 x.1 = x.2) ∧ (h0.2.1 ≤ h.2.1 ∧ h.2.1 ≤ h0.2.1 + c + m ∧ h.2.2 ≤ h0.2.2 + s + 2 * m) ∧ jFix h0 ∧ h0.2.1 + c ≤ 700000
section TR
variable {y pc c s q b : Nat} {X : List (Nat × jv_E)} {h0 h : jv_H} {w : List Int32} {Lv : List (Option Value)} {r : List Value} {K : jK}
theorem BS.fix (hs : BS X c s h0 h q w b) : jFix h ∧ h.2.1 ≤ 900000 ∧ q < h.2.1 ∧ ∃ fs, h.1 q = .inr (.inr (9, fs)) := by
  obtain ⟨v, m, s1, s2, s3, s4, s5, s6, s7, s8⟩ := hs
  have := s1.2.2.2.1.2.2
  obtain ⟨ml, e⟩ := s1.o
  exact ⟨s7.fr (fun a ha => s4 a (Or.inr ha)), by omega, s1.1.1, _, e⟩
theorem BS.step {h' : jv_H} {v m v' m' k : Nat} {t : List Int32} (s2 : w.length ≤ b) (s1 : jSB h q v m w) (s3 : h0.2.1 ≤ q ∧ h0.2.1 ≤ v) (s4 : ∀ a, a < h0.2.1 ∨ 1000000 ≤ a → h.1 a = h0.1 a) (s5 : ∀ x ∈ X, h0.2.1 ≤ x.1 ∧ x.1 < h.2.1 ∧ x.1 ≠ q ∧ x.1 ≠ v ∧ h.1 x.1 = x.2) (s6 : h0.2.1 ≤ h.2.1 ∧ h.2.1 ≤ h0.2.1 + c + m ∧ h.2.2 ≤ h0.2.2 + s + 2 * m) (s7 : jFix h0) (s8 : h0.2.1 + c ≤ 700000) (ht : t.length ≤ k) (a : jSB h' q v' m' (w ++ t)) (u : jSu h h' q v m v' m') : BS X c s h0 h' q (w ++ t) (b + k) := by
  obtain ⟨u1, u2, u3, u4⟩ := u
  have m8 := a.2.2.2.1.2.2
  have q1 := s1.1.1
  have v1 := s1.1.2.1
  have a1 := a.1.2.1
  refine ⟨v', m', a, by rw [List.length_append]; omega, ⟨s3.1, by omega⟩, fun x hx => ?_, fun x hx => ?_, ⟨by omega, by omega, by omega⟩, s7, s8⟩
  · rw [u1 x (by omega) (by omega) (by omega)]
    exact s4 x hx
  · obtain ⟨x1, x2, x3, x4, x5⟩ := s5 x hx
    refine ⟨x1, by omega, x3, by omega, ?_⟩
    rw [u1 x.1 (Or.inl x2) x3 x4]
    exact x5
theorem bx_as (i : Nat) (hD : jx_chk y pc 160 2 2 1 9 = true) (hs : BS X c s h0 h q w b) (hi : i < 37) (hb : b + 8 ≤ 4000) (hw1 : jv_wd r ≤ 8) (hg : ∀ h', BS X c s h0 h' q (w ++ oT i) (b + 8) → jE y (pc + 3) Lv (.ref q :: r) h' K) : jE y pc Lv (.ref (1000001 + i) :: .ref q :: r) h K := by
  obtain ⟨f1, f2, f3, fs, f4⟩ := hs.fix
  obtain ⟨v, m, s1, s2, s3, s4, s5, s6, s7, s8⟩ := hs
  refine jx_call (z := 160) (na := 2) (mL := 2) (ck := 1) (ow := 9) hD (by show 2 ≤ r.length + 2; omega) hw1 rfl (Or.inr ⟨q, 9, _, rfl, Or.inl f3, f4, rfl⟩) ?_
  have ol := (oT_lt i hi).2
  exact sb_as s1 f1 hi f2 (by omega) (fun h' v' m' a u => hg h' (BS.step s2 s1 s3 s4 s5 s6 s7 s8 ol a u))
theorem bx_ac {x : Int32} (hD : jx_chk y pc 161 2 2 1 9 = true) (hs : BS X c s h0 h q w b) (hx : 0 ≤ x ∧ x < 128) (hb : b + 1 ≤ 4000) (hw1 : jv_wd r ≤ 8) (hg : ∀ h', BS X c s h0 h' q (w ++ [x]) (b + 1) → jE y (pc + 3) Lv (.ref q :: r) h' K) : jE y pc Lv (.int x :: .ref q :: r) h K := by
  obtain ⟨f1, f2, f3, fs, f4⟩ := hs.fix
  obtain ⟨v, m, s1, s2, s3, s4, s5, s6, s7, s8⟩ := hs
  refine jx_call (z := 161) (na := 2) (mL := 2) (ck := 1) (ow := 9) hD (by show 2 ≤ r.length + 2; omega) hw1 rfl (Or.inr ⟨q, 9, _, rfl, Or.inl f3, f4, rfl⟩) ?_
  exact sb_ac s1 hx (by omega) (fun h' v' m' a u => hg h' (BS.step s2 s1 s3 s4 s5 s6 s7 s8 (Nat.le_refl 1) a u))
/-- a number's digits, of a whole number of the program's -/
def dgI (x : Int32) : List Int32 := dg x.toNatClampNeg
theorem bx_ai {x : Int32} (hD : jx_chk y pc 162 2 2 1 9 = true) (hs : BS X c s h0 h q w b) (hx : 0 ≤ x ∧ x < 100) (hb : b + 2 ≤ 4000) (hw1 : jv_wd r ≤ 8) (hg : ∀ h', BS X c s h0 h' q (w ++ dgI x) (b + 2) → jE y (pc + 3) Lv (.ref q :: r) h' K) : jE y pc Lv (.int x :: .ref q :: r) h K := by
  obtain ⟨f1, f2, f3, fs, f4⟩ := hs.fix
  obtain ⟨v, m, s1, s2, s3, s4, s5, s6, s7, s8⟩ := hs
  obtain ⟨e, l⟩ := iN_of hx.1
  have hk : x.toNatClampNeg < 100 := by
    have h2 := hx.2
    rw [e, show (100 : Int32) = iN 100 from rfl, iN_lt l (by decide)] at h2
    exact h2
  refine jx_call (z := 162) (na := 2) (mL := 2) (ck := 1) (ow := 9) hD (by show 2 ≤ r.length + 2; omega) hw1 rfl (Or.inr ⟨q, 9, _, rfl, Or.inl f3, f4, rfl⟩) ?_
  have d2 := (dg_lt _ hk).2.1
  show jE 162 0 [some (.ref q), some (.int x)] [] h _
  rw [e]
  refine sb_ai s1 hk f1 f2 (by omega) (fun h' v' m' a u => ?_)
  exact hg h' (BS.step (t := dgI x) s2 s1 s3 s4 s5 s6 s7 s8 d2 a u)
/-- a cell of the law's beside -/
theorem BS.new {x : jv_E} {k : Nat} (hs : BS X c s h0 h q w b) (hc : h0.2.1 + c + 1 ≤ 700000) : BS ((h.2.1, x) :: X) (c + 1) (s + k) h0 (jv_add h x k) q w b := by
  obtain ⟨v, m, s1, s2, s3, s4, s5, s6, s7, s8⟩ := hs
  have m8 := s1.2.2.2.1.2.2
  have q1 := s1.1.1
  have v1 := s1.1.2.1
  have e : ∀ a, a ≠ h.2.1 → (jv_add h x k).1 a = h.1 a := by
    intro a ha
    show jv_up h.1 h.2.1 x a = _
    unfold jv_up
    rw [if_neg ha]
  have t1 : (jv_add h x k).2.1 = h.2.1 + 1 := rfl
  have t2 : (jv_add h x k).2.2 = h.2.2 + k := rfl
  refine ⟨v, m, s1.add, s2, s3, fun a ha => ?_, fun z hz => ?_, ⟨by omega, by omega, by omega⟩, s7, by omega⟩
  · rw [e a (by omega)]
    exact s4 a ha
  · rcases List.mem_cons.mp hz with rfl | hz
    · exact ⟨by show h0.2.1 ≤ h.2.1; omega, Nat.lt_succ_self _, by show h.2.1 ≠ q; omega, by show h.2.1 ≠ v; omega, jv_at_new⟩
    · obtain ⟨x1, x2, x3, x4, x5⟩ := s5 z hz
      exact ⟨x1, by omega, x3, x4, (e _ (by omega)).trans x5⟩
theorem BS.put {x z : jv_E} {p : Nat} (hs : BS [(p, x)] c s h0 h q w b) : BS [(p, z)] c s h0 (jv_put h p z) q w b := by
  obtain ⟨v, m, ⟨⟨q1, q2, q3⟩, ⟨ml, e1⟩, ⟨g, e2, e3⟩, l, hl⟩, s2, s3, s4, s5, s6, s7, s8⟩ := hs
  obtain ⟨x1, x2, x3, x4, x5⟩ := s5 (p, x) List.mem_cons_self
  have x1 : h0.2.1 ≤ p := x1
  have x2 : p < h.2.1 := x2
  have x3 : p ≠ q := x3
  have x4 : p ≠ v := x4
  have l3 := l.2.2
  refine ⟨v, m, ⟨⟨q1, q2, q3⟩, ⟨ml, (jv_at_pne (fun z => x3 z.symm)).trans e1⟩, ⟨g, (jv_at_pne (fun z => x4 z.symm)).trans e2, e3⟩, l, hl⟩, s2, s3, fun a ha => (jv_at_pne (by omega)).trans (s4 a ha), fun z hz => ?_, s6, s7, s8⟩
  rw [List.mem_singleton.mp hz]
  exact ⟨x1, x2, x3, x4, jv_at_put⟩
theorem BS.x {x : Nat × jv_E} (hs : BS (x :: X) c s h0 h q w b) : x.1 < h.2.1 ∧ h.1 x.1 = x.2 := by
  obtain ⟨v, m, s1, s2, s3, s4, s5, s6, s7, s8⟩ := hs
  obtain ⟨x1, x2, x3, x4, x5⟩ := s5 x List.mem_cons_self
  exact ⟨x2, x5⟩
theorem BS.le {b' : Nat} (hs : BS X c s h0 h q w b) (hb : b ≤ b') : BS X c s h0 h q w b' := by
  obtain ⟨v, m, s1, s2, s⟩ := hs
  exact ⟨v, m, s1, by omega, s⟩
/-- names in a row -/
def nmF : Nat → Option Nat := va_up (va_up (va_up (va_up (va_up (fun _ => none) 0 (some 1000023)) 1 (some 1000024)) 2 (some 1000025)) 3 (some 1000026)) 4 (some 1000027)
theorem nmF_at : ∀ j, j < 5 → nmF j = some (1000001 + (22 + j)) := by decide
theorem jx_newa5 (hy : y < 272) (hso : sow y = 10) (hcode : jv_code y pc = some (.anewarray 8, 3)) (hg : jE y (pc + 3) Lv (.ref h.2.1 :: r) (jv_add h (.inr (.inl (5, 5, fun _ => none))) 5) K) : jE y pc Lv (.int 5 :: r) h K := by
  refine jx_heap hy hcode rfl rfl rfl rfl rfl rfl (st' := .ref h.2.1 :: r) (h1 := jv_add h (.inr (.inl (5, 5, fun _ => none))) 5) ?_ hg
  rw [hso]
  rfl
theorem jx_aast {p t j : Nat} {x : Int32} {f : Nat → Option Nat} {fs : List Value} (hy : y < 272) (hcode : jv_code y pc = some (.aastore, 1)) (hp : p < h.2.1) (hc : h.1 p = .inr (.inl (5, 5, f))) (ho : jv_old t = true) (ht : h.1 t = .inr (.inr (8, fs))) (hj : x.toNatClampNeg = j ∧ 0 ≤ x) (h5 : j < 5) (hg : jE y (pc + 1) Lv r (jv_put h p (.inr (.inl (5, 5, va_up f j (some t))))) K) : jE y pc Lv (.ref t :: .int x :: .ref p :: r) h K := by
  refine jx_heap hy hcode rfl rfl rfl rfl rfl rfl (st' := r) (h1 := jv_put h p (.inr (.inl (5, 5, va_up f j (some t))))) ?_ hg
  show (if p < h.2.1 ∧ (t < h.2.1 ∨ jv_old t = true) then match h.1 p, h.1 t with
      | .inr (.inl (ty, n, f)), .inr (.inr (d, _)) => if ((ty = 2 ∧ d = 6 ∧ t < h.2.1) ∨ (ty = 3 ∧ d = 5 ∧ t < h.2.1) ∨ (ty = 5 ∧ d = 8 ∧ jv_old t = true)) ∧ ¬ (x < 0 ∨ n ≤ x.toNatClampNeg) then some (r, jv_put h p (.inr (.inl (ty, n, va_up f x.toNatClampNeg (some t))))) else none
      | _, _ => none else none) = _
  rw [if_pos ⟨hp, Or.inr ho⟩, hc, ht]
  show (if _ then _ else _) = _
  rw [if_pos ⟨Or.inr (Or.inr ⟨rfl, rfl, ho⟩), jIa.nn hj h5⟩, hj.1]
theorem jx_aald {p t : Nat} {x : Int32} {f : Nat → Option Nat} (hy : y < 272) (hcode : jv_code y pc = some (.aaload, 1)) (hp : p < h.2.1) (hc : h.1 p = .inr (.inl (5, 5, f))) (hx : 0 ≤ x ∧ x.toNatClampNeg < 5) (ht : f x.toNatClampNeg = some t) (hg : jE y (pc + 1) Lv (.ref t :: r) h K) : jE y pc Lv (.int x :: .ref p :: r) h K := by
  refine jx_heap hy hcode rfl rfl rfl rfl rfl rfl (st' := .ref t :: r) (h1 := h) ?_ hg
  show (if p < h.2.1 then match h.1 p with
      | .inr (.inl (ty, n, f)) => if (2 ≤ ty ∧ ty ≤ 6 ∧ ty ≠ 4) ∧ ¬ (x < 0 ∨ n ≤ x.toNatClampNeg) then (match f x.toNatClampNeg with
        | some b => some (.ref b :: r, h)
        | none => none) else none
      | _ => none else none) = _
  rw [if_pos hp, hc]
  show (if _ then _ else _) = _
  rw [if_pos ⟨by decide, jIa.nn ⟨rfl, hx.1⟩ hx.2⟩, ht]
/-- bounds -/
theorem an_b (x : Int32) (m : Nat) (hm : m < 2147483647) : 0 ≤ x &&& iN m ∧ x &&& iN m < iN (m + 1) := by
  obtain ⟨j, hj, e⟩ := and_n x m (by omega)
  rw [e]
  exact ⟨(iN_le (k := 0) (by decide) (by omega)).mpr (Nat.zero_le _), (iN_lt (by omega) (by omega)).mpr (by omega)⟩
theorem rem_b {x : Int32} {d : Nat} (hx : 0 ≤ x) (hd : 0 < d ∧ d < 2147483648) : 0 ≤ x - x / iN d * iN d ∧ x - x / iN d * iN d < iN d := by
  obtain ⟨e, l⟩ := iN_of hx
  rw [e, iN_mod l hd.2]
  have := Nat.mod_lt x.toNatClampNeg hd.1
  exact ⟨(iN_le (k := 0) (by decide) (by omega)).mpr (Nat.zero_le _), (iN_lt (by omega) hd.2).mpr this⟩
theorem lt_b {x : Int32} {d e : Nat} (hx : 0 ≤ x ∧ x < iN d) (hd : d ≤ e) (he : e < 2147483648) : 0 ≤ x ∧ x < iN e := by
  obtain ⟨q, l⟩ := iN_of hx.1
  refine ⟨hx.1, ?_⟩
  have h2 := hx.2
  rw [q, iN_lt l (by omega)] at h2
  rw [q, iN_lt l he]
  omega
theorem add_b {x : Int32} {d a : Nat} (hx : 0 ≤ x ∧ x < iN d) (hd : a + d < 2147483648) : 0 ≤ iN a + x ∧ iN a + x < iN (a + d) := by
  obtain ⟨q, l⟩ := iN_of hx.1
  have h2 := hx.2
  rw [q, iN_lt l (by omega)] at h2
  rw [q, iN_add]
  exact ⟨(iN_le (k := 0) (by decide) (by omega)).mpr (Nat.zero_le _), (iN_lt (by omega) (by omega)).mpr (by omega)⟩
def tFam (x : Int32) : List Int32 := if ((x >>> ((15 : Int32) &&& 31)) &&& 1) = 0 then oT 30 ++ dgI (1 + ((x >>> ((16 : Int32) &&& 31)) &&& 1)) else []
theorem tr_194 {p : Nat} {w0 v0 R F x n k : Int32} (hR : 2 ≤ R ∧ R ≤ 6) (hs : BS [(p, .inr (.inl (5, 5, nmF)))] c s h0 h q w b) (hb : b + 20 ≤ 4000) (T : ∀ h1, BS [(p, .inr (.inl (5, 5, nmF)))] c s h0 h1 q (w ++ tFam x) (b + 20) → jE 190 224 [some (.int w0), some (.int v0), some (.int R), some (.int F), some (.ref q), some (.ref p), some (.int x), some (.int n), some (.int k)] [] h1 K) : jE 190 194 [some (.int w0), some (.int v0), some (.int R), some (.int F), some (.ref q), some (.ref p), some (.int x), some (.int n), some (.int k)] [] h K := by
  refine jx_blk (by decide) [(.iload 6, 2), (.bipush 15, 2), (.ishr, 1), (.iconst 1, 1), (.iand, 1)] (pc' := 201) (Lv' := [some (.int w0), some (.int v0), some (.int R), some (.int F), some (.ref q), some (.ref p), some (.int x), some (.int n), some (.int k)]) (st' := [.int ((x >>> ((15 : Int32) &&& 31)) &&& 1)]) (by decide +kernel) rfl ?_
  refine jx_if_ne (off := 23) (b := 224) (by decide) (by decide +kernel) (by decide) (fun e => ?_) (fun e => ?_)
  · refine T h ?_
    unfold tFam
    rw [if_neg e, List.append_nil]
    exact hs.le (by omega)
  · refine jx_blk (by decide) [(.aload 4, 2)] (pc' := 206) (Lv' := [some (.int w0), some (.int v0), some (.int R), some (.int F), some (.ref q), some (.ref p), some (.int x), some (.int n), some (.int k)]) (st' := [.ref q]) (by decide +kernel) rfl ?_
    refine jx_ldc (idx := 62) (v := .ref 1000031) (by decide) (by decide +kernel) (by decide +kernel) ?_
    refine bx_as 30 (by decide +kernel) hs (by decide) (by omega) (Nat.le_of_ble_eq_true rfl) (fun h1 hs1 => ?_)
    refine jx_blk (by decide) [(.iconst 1, 1), (.iload 6, 2), (.bipush 16, 2), (.ishr, 1), (.iconst 1, 1), (.iand, 1), (.iadd, 1)] (pc' := 220) (Lv' := [some (.int w0), some (.int v0), some (.int R), some (.int F), some (.ref q), some (.ref p), some (.int x), some (.int n), some (.int k)]) (st' := [.int (1 + ((x >>> ((16 : Int32) &&& 31)) &&& 1)), .ref q]) (by decide +kernel) rfl ?_
    refine bx_ai (by decide +kernel) hs1 (lt_b (add_b (a := 1) (an_b _ 1 (by decide)) (by decide)) (by decide) (by decide)) (by omega) (Nat.le_of_ble_eq_true rfl) (fun h2 hs2 => ?_)
    refine jx_blk (by decide) [(.pop, 1)] (pc' := 224) (Lv' := [some (.int w0), some (.int v0), some (.int R), some (.int F), some (.ref q), some (.ref p), some (.int x), some (.int n), some (.int k)]) (st' := []) (by decide +kernel) rfl ?_
    refine T h2 ?_
    unfold tFam
    rw [if_pos e]
    have z := hs2.le (b' := b + 20) (by omega)
    (try simp only [List.append_assoc] at z)
    (try simp only [List.append_assoc])
    exact z
def tWin (x : Int32) : List Int32 := if ((x >>> ((17 : Int32) &&& 31)) &&& 1) = 0 then oT 31 ++ [if ((x >>> ((18 : Int32) &&& 31)) &&& 1) = 0 then 43 else 45] ++ dgI (((x >>> ((19 : Int32) &&& 31)) &&& 255) - ((x >>> ((19 : Int32) &&& 31)) &&& 255) / 10 * 10) else []
theorem tr_224 {p : Nat} {w0 v0 R F x n k : Int32} (hR : 2 ≤ R ∧ R ≤ 6) (hs : BS [(p, .inr (.inl (5, 5, nmF)))] c s h0 h q w b) (hb : b + 20 ≤ 4000) (T : ∀ h1, BS [(p, .inr (.inl (5, 5, nmF)))] c s h0 h1 q (w ++ tWin x) (b + 20) → jE 190 277 [some (.int w0), some (.int v0), some (.int R), some (.int F), some (.ref q), some (.ref p), some (.int x), some (.int n), some (.int k)] [] h1 K) : jE 190 224 [some (.int w0), some (.int v0), some (.int R), some (.int F), some (.ref q), some (.ref p), some (.int x), some (.int n), some (.int k)] [] h K := by
  refine jx_blk (by decide) [(.iload 6, 2), (.bipush 17, 2), (.ishr, 1), (.iconst 1, 1), (.iand, 1)] (pc' := 231) (Lv' := [some (.int w0), some (.int v0), some (.int R), some (.int F), some (.ref q), some (.ref p), some (.int x), some (.int n), some (.int k)]) (st' := [.int ((x >>> ((17 : Int32) &&& 31)) &&& 1)]) (by decide +kernel) rfl ?_
  refine jx_if_ne (off := 46) (b := 277) (by decide) (by decide +kernel) (by decide) (fun e => ?_) (fun e => ?_)
  · refine T h ?_
    unfold tWin
    rw [if_neg e, List.append_nil]
    exact hs.le (by omega)
  · refine jx_blk (by decide) [(.aload 4, 2)] (pc' := 236) (Lv' := [some (.int w0), some (.int v0), some (.int R), some (.int F), some (.ref q), some (.ref p), some (.int x), some (.int n), some (.int k)]) (st' := [.ref q]) (by decide +kernel) rfl ?_
    refine jx_ldc (idx := 64) (v := .ref 1000032) (by decide) (by decide +kernel) (by decide +kernel) ?_
    refine bx_as 31 (by decide +kernel) hs (by decide) (by omega) (Nat.le_of_ble_eq_true rfl) (fun h1 hs1 => ?_)
    refine jx_blk (by decide) [(.iload 6, 2), (.bipush 18, 2), (.ishr, 1), (.iconst 1, 1), (.iand, 1)] (pc' := 248) (Lv' := [some (.int w0), some (.int v0), some (.int R), some (.int F), some (.ref q), some (.ref p), some (.int x), some (.int n), some (.int k)]) (st' := [.int ((x >>> ((18 : Int32) &&& 31)) &&& 1), .ref q]) (by decide +kernel) rfl ?_
    refine jx_if_ne (off := 8) (b := 256) (by decide) (by decide +kernel) (by decide) (fun e2 => ?_) (fun e2 => ?_)
    · refine jx_blk (by decide) [(.bipush 45, 2)] (pc' := 258) (Lv' := [some (.int w0), some (.int v0), some (.int R), some (.int F), some (.ref q), some (.ref p), some (.int x), some (.int n), some (.int k)]) (st' := [.int 45, .ref q]) (by decide +kernel) rfl ?_
      refine bx_ac (by decide +kernel) hs1 (by decide) (by omega) (Nat.le_of_ble_eq_true rfl) (fun h2 hs2 => ?_)
      refine jx_blk (by decide) [(.iload 6, 2), (.bipush 19, 2), (.ishr, 1), (.sipush 255, 3), (.iand, 1), (.bipush 10, 2), (.irem, 1)] (pc' := 273) (Lv' := [some (.int w0), some (.int v0), some (.int R), some (.int F), some (.ref q), some (.ref p), some (.int x), some (.int n), some (.int k)]) (st' := [.int (((x >>> ((19 : Int32) &&& 31)) &&& 255) - ((x >>> ((19 : Int32) &&& 31)) &&& 255) / 10 * 10), .ref q]) (by decide +kernel) rfl ?_
      refine bx_ai (by decide +kernel) hs2 (lt_b (rem_b (an_b _ 255 (by decide)).1 (by decide)) (by decide) (by decide)) (by omega) (Nat.le_of_ble_eq_true rfl) (fun h3 hs3 => ?_)
      refine jx_blk (by decide) [(.pop, 1)] (pc' := 277) (Lv' := [some (.int w0), some (.int v0), some (.int R), some (.int F), some (.ref q), some (.ref p), some (.int x), some (.int n), some (.int k)]) (st' := []) (by decide +kernel) rfl ?_
      refine T h3 ?_
      unfold tWin
      rw [if_pos e, if_neg e2]
      have z := hs3.le (b' := b + 20) (by omega)
      (try simp only [List.append_assoc] at z)
      (try simp only [List.append_assoc])
      exact z
    · refine jx_blk (by decide) [(.bipush 43, 2)] (pc' := 253) (Lv' := [some (.int w0), some (.int v0), some (.int R), some (.int F), some (.ref q), some (.ref p), some (.int x), some (.int n), some (.int k)]) (st' := [.int 43, .ref q]) (by decide +kernel) rfl ?_
      refine jx_goto (off := 5) (b := 258) (by decide) (by decide +kernel) (by decide) ?_
      refine bx_ac (by decide +kernel) hs1 (by decide) (by omega) (Nat.le_of_ble_eq_true rfl) (fun h2 hs2 => ?_)
      refine jx_blk (by decide) [(.iload 6, 2), (.bipush 19, 2), (.ishr, 1), (.sipush 255, 3), (.iand, 1), (.bipush 10, 2), (.irem, 1)] (pc' := 273) (Lv' := [some (.int w0), some (.int v0), some (.int R), some (.int F), some (.ref q), some (.ref p), some (.int x), some (.int n), some (.int k)]) (st' := [.int (((x >>> ((19 : Int32) &&& 31)) &&& 255) - ((x >>> ((19 : Int32) &&& 31)) &&& 255) / 10 * 10), .ref q]) (by decide +kernel) rfl ?_
      refine bx_ai (by decide +kernel) hs2 (lt_b (rem_b (an_b _ 255 (by decide)).1 (by decide)) (by decide) (by decide)) (by omega) (Nat.le_of_ble_eq_true rfl) (fun h3 hs3 => ?_)
      refine jx_blk (by decide) [(.pop, 1)] (pc' := 277) (Lv' := [some (.int w0), some (.int v0), some (.int R), some (.int F), some (.ref q), some (.ref p), some (.int x), some (.int n), some (.int k)]) (st' := []) (by decide +kernel) rfl ?_
      refine T h3 ?_
      unfold tWin
      rw [if_pos e, if_pos e2]
      have z := hs3.le (b' := b + 20) (by omega)
      (try simp only [List.append_assoc] at z)
      (try simp only [List.append_assoc])
      exact z
def tAhe (x : Int32) : List Int32 := if ((x >>> ((20 : Int32) &&& 31)) &&& 1) = 0 then oT 32 ++ [if ((x >>> ((21 : Int32) &&& 31)) &&& 1) = 0 then 43 else 45] ++ dgI (((x >>> ((22 : Int32) &&& 31)) &&& 255) - ((x >>> ((22 : Int32) &&& 31)) &&& 255) / 10 * 10) else []
theorem tr_277 {p : Nat} {w0 v0 R F x n k : Int32} (hR : 2 ≤ R ∧ R ≤ 6) (hs : BS [(p, .inr (.inl (5, 5, nmF)))] c s h0 h q w b) (hb : b + 20 ≤ 4000) (T : ∀ h1, BS [(p, .inr (.inl (5, 5, nmF)))] c s h0 h1 q (w ++ tAhe x) (b + 20) → jE 190 330 [some (.int w0), some (.int v0), some (.int R), some (.int F), some (.ref q), some (.ref p), some (.int x), some (.int n), some (.int k)] [] h1 K) : jE 190 277 [some (.int w0), some (.int v0), some (.int R), some (.int F), some (.ref q), some (.ref p), some (.int x), some (.int n), some (.int k)] [] h K := by
  refine jx_blk (by decide) [(.iload 6, 2), (.bipush 20, 2), (.ishr, 1), (.iconst 1, 1), (.iand, 1)] (pc' := 284) (Lv' := [some (.int w0), some (.int v0), some (.int R), some (.int F), some (.ref q), some (.ref p), some (.int x), some (.int n), some (.int k)]) (st' := [.int ((x >>> ((20 : Int32) &&& 31)) &&& 1)]) (by decide +kernel) rfl ?_
  refine jx_if_ne (off := 46) (b := 330) (by decide) (by decide +kernel) (by decide) (fun e => ?_) (fun e => ?_)
  · refine T h ?_
    unfold tAhe
    rw [if_neg e, List.append_nil]
    exact hs.le (by omega)
  · refine jx_blk (by decide) [(.aload 4, 2)] (pc' := 289) (Lv' := [some (.int w0), some (.int v0), some (.int R), some (.int F), some (.ref q), some (.ref p), some (.int x), some (.int n), some (.int k)]) (st' := [.ref q]) (by decide +kernel) rfl ?_
    refine jx_ldc (idx := 66) (v := .ref 1000033) (by decide) (by decide +kernel) (by decide +kernel) ?_
    refine bx_as 32 (by decide +kernel) hs (by decide) (by omega) (Nat.le_of_ble_eq_true rfl) (fun h1 hs1 => ?_)
    refine jx_blk (by decide) [(.iload 6, 2), (.bipush 21, 2), (.ishr, 1), (.iconst 1, 1), (.iand, 1)] (pc' := 301) (Lv' := [some (.int w0), some (.int v0), some (.int R), some (.int F), some (.ref q), some (.ref p), some (.int x), some (.int n), some (.int k)]) (st' := [.int ((x >>> ((21 : Int32) &&& 31)) &&& 1), .ref q]) (by decide +kernel) rfl ?_
    refine jx_if_ne (off := 8) (b := 309) (by decide) (by decide +kernel) (by decide) (fun e2 => ?_) (fun e2 => ?_)
    · refine jx_blk (by decide) [(.bipush 45, 2)] (pc' := 311) (Lv' := [some (.int w0), some (.int v0), some (.int R), some (.int F), some (.ref q), some (.ref p), some (.int x), some (.int n), some (.int k)]) (st' := [.int 45, .ref q]) (by decide +kernel) rfl ?_
      refine bx_ac (by decide +kernel) hs1 (by decide) (by omega) (Nat.le_of_ble_eq_true rfl) (fun h2 hs2 => ?_)
      refine jx_blk (by decide) [(.iload 6, 2), (.bipush 22, 2), (.ishr, 1), (.sipush 255, 3), (.iand, 1), (.bipush 10, 2), (.irem, 1)] (pc' := 326) (Lv' := [some (.int w0), some (.int v0), some (.int R), some (.int F), some (.ref q), some (.ref p), some (.int x), some (.int n), some (.int k)]) (st' := [.int (((x >>> ((22 : Int32) &&& 31)) &&& 255) - ((x >>> ((22 : Int32) &&& 31)) &&& 255) / 10 * 10), .ref q]) (by decide +kernel) rfl ?_
      refine bx_ai (by decide +kernel) hs2 (lt_b (rem_b (an_b _ 255 (by decide)).1 (by decide)) (by decide) (by decide)) (by omega) (Nat.le_of_ble_eq_true rfl) (fun h3 hs3 => ?_)
      refine jx_blk (by decide) [(.pop, 1)] (pc' := 330) (Lv' := [some (.int w0), some (.int v0), some (.int R), some (.int F), some (.ref q), some (.ref p), some (.int x), some (.int n), some (.int k)]) (st' := []) (by decide +kernel) rfl ?_
      refine T h3 ?_
      unfold tAhe
      rw [if_pos e, if_neg e2]
      have z := hs3.le (b' := b + 20) (by omega)
      (try simp only [List.append_assoc] at z)
      (try simp only [List.append_assoc])
      exact z
    · refine jx_blk (by decide) [(.bipush 43, 2)] (pc' := 306) (Lv' := [some (.int w0), some (.int v0), some (.int R), some (.int F), some (.ref q), some (.ref p), some (.int x), some (.int n), some (.int k)]) (st' := [.int 43, .ref q]) (by decide +kernel) rfl ?_
      refine jx_goto (off := 5) (b := 311) (by decide) (by decide +kernel) (by decide) ?_
      refine bx_ac (by decide +kernel) hs1 (by decide) (by omega) (Nat.le_of_ble_eq_true rfl) (fun h2 hs2 => ?_)
      refine jx_blk (by decide) [(.iload 6, 2), (.bipush 22, 2), (.ishr, 1), (.sipush 255, 3), (.iand, 1), (.bipush 10, 2), (.irem, 1)] (pc' := 326) (Lv' := [some (.int w0), some (.int v0), some (.int R), some (.int F), some (.ref q), some (.ref p), some (.int x), some (.int n), some (.int k)]) (st' := [.int (((x >>> ((22 : Int32) &&& 31)) &&& 255) - ((x >>> ((22 : Int32) &&& 31)) &&& 255) / 10 * 10), .ref q]) (by decide +kernel) rfl ?_
      refine bx_ai (by decide +kernel) hs2 (lt_b (rem_b (an_b _ 255 (by decide)).1 (by decide)) (by decide) (by decide)) (by omega) (Nat.le_of_ble_eq_true rfl) (fun h3 hs3 => ?_)
      refine jx_blk (by decide) [(.pop, 1)] (pc' := 330) (Lv' := [some (.int w0), some (.int v0), some (.int R), some (.int F), some (.ref q), some (.ref p), some (.int x), some (.int n), some (.int k)]) (st' := []) (by decide +kernel) rfl ?_
      refine T h3 ?_
      unfold tAhe
      rw [if_pos e, if_pos e2]
      have z := hs3.le (b' := b + 20) (by omega)
      (try simp only [List.append_assoc] at z)
      (try simp only [List.append_assoc])
      exact z
theorem rem_R {R : Int32} (hR : 2 ≤ R ∧ R ≤ 6) (x : Int32) : 0 ≤ (x &&& 255) - (x &&& 255) / R * R ∧ (x &&& 255) - (x &&& 255) / R * R < 100 := by
  have h0 : (0 : Int32) ≤ R := Int32.le_trans (by decide) hR.1
  obtain ⟨e, l⟩ := iN_of h0
  have r1 := hR.1
  have r2 := hR.2
  rw [e, show (2 : Int32) = iN 2 from rfl, iN_le (by decide) l] at r1
  rw [e, show (6 : Int32) = iN 6 from rfl, iN_le l (by decide)] at r2
  have := rem_b (x := x &&& 255) (d := R.toNatClampNeg) (an_b x 255 (by decide)).1 ⟨by omega, l⟩
  rw [← e] at this
  rw [e] at this ⊢
  exact lt_b (e := 100) this (by omega) (by decide)
def tRow (x R : Int32) : List Int32 := if ((x >>> ((23 : Int32) &&& 31)) &&& 1) = 0 then oT 33 ++ dgI (((x >>> ((3 : Int32) &&& 31)) &&& 255) - ((x >>> ((3 : Int32) &&& 31)) &&& 255) / R * R) ++ [32] ++ dgI ((x >>> ((5 : Int32) &&& 31)) &&& 3) else []
theorem tr_330 {p : Nat} {w0 v0 R F x n k : Int32} (hR : 2 ≤ R ∧ R ≤ 6) (hs : BS [(p, .inr (.inl (5, 5, nmF)))] c s h0 h q w b) (hb : b + 20 ≤ 4000) (T : ∀ h1, BS [(p, .inr (.inl (5, 5, nmF)))] c s h0 h1 q (w ++ tRow x R) (b + 20) → jE 190 375 [some (.int w0), some (.int v0), some (.int R), some (.int F), some (.ref q), some (.ref p), some (.int x), some (.int n), some (.int k)] [] h1 K) : jE 190 330 [some (.int w0), some (.int v0), some (.int R), some (.int F), some (.ref q), some (.ref p), some (.int x), some (.int n), some (.int k)] [] h K := by
  refine jx_blk (by decide) [(.iload 6, 2), (.bipush 23, 2), (.ishr, 1), (.iconst 1, 1), (.iand, 1)] (pc' := 337) (Lv' := [some (.int w0), some (.int v0), some (.int R), some (.int F), some (.ref q), some (.ref p), some (.int x), some (.int n), some (.int k)]) (st' := [.int ((x >>> ((23 : Int32) &&& 31)) &&& 1)]) (by decide +kernel) rfl ?_
  refine jx_if_ne (off := 38) (b := 375) (by decide) (by decide +kernel) (by decide) (fun e => ?_) (fun e => ?_)
  · refine T h ?_
    unfold tRow
    rw [if_neg e, List.append_nil]
    exact hs.le (by omega)
  · refine jx_blk (by decide) [(.aload 4, 2)] (pc' := 342) (Lv' := [some (.int w0), some (.int v0), some (.int R), some (.int F), some (.ref q), some (.ref p), some (.int x), some (.int n), some (.int k)]) (st' := [.ref q]) (by decide +kernel) rfl ?_
    refine jx_ldc (idx := 68) (v := .ref 1000034) (by decide) (by decide +kernel) (by decide +kernel) ?_
    refine bx_as 33 (by decide +kernel) hs (by decide) (by omega) (Nat.le_of_ble_eq_true rfl) (fun h1 hs1 => ?_)
    refine jx_blk (by decide) [(.iload 6, 2), (.iconst 3, 1), (.ishr, 1), (.sipush 255, 3), (.iand, 1), (.iload_n 2, 1)] (pc' := 356) (Lv' := [some (.int w0), some (.int v0), some (.int R), some (.int F), some (.ref q), some (.ref p), some (.int x), some (.int n), some (.int k)]) (st' := [.int R, .int ((x >>> ((3 : Int32) &&& 31)) &&& 255), .ref q]) (by decide +kernel) rfl ?_
    refine jx_rem (by decide) (by decide +kernel) (fun z => by rw [z] at hR; exact absurd hR.1 (by decide)) ?_
    refine bx_ai (by decide +kernel) hs1 (rem_R hR _) (by omega) (Nat.le_of_ble_eq_true rfl) (fun h2 hs2 => ?_)
    refine jx_blk (by decide) [(.bipush 32, 2)] (pc' := 362) (Lv' := [some (.int w0), some (.int v0), some (.int R), some (.int F), some (.ref q), some (.ref p), some (.int x), some (.int n), some (.int k)]) (st' := [.int 32, .ref q]) (by decide +kernel) rfl ?_
    refine bx_ac (by decide +kernel) hs2 (by decide) (by omega) (Nat.le_of_ble_eq_true rfl) (fun h3 hs3 => ?_)
    refine jx_blk (by decide) [(.iload 6, 2), (.iconst 5, 1), (.ishr, 1), (.iconst 3, 1), (.iand, 1)] (pc' := 371) (Lv' := [some (.int w0), some (.int v0), some (.int R), some (.int F), some (.ref q), some (.ref p), some (.int x), some (.int n), some (.int k)]) (st' := [.int ((x >>> ((5 : Int32) &&& 31)) &&& 3), .ref q]) (by decide +kernel) rfl ?_
    refine bx_ai (by decide +kernel) hs3 (lt_b (an_b _ 3 (by decide)) (by decide) (by decide)) (by omega) (Nat.le_of_ble_eq_true rfl) (fun h4 hs4 => ?_)
    refine jx_blk (by decide) [(.pop, 1)] (pc' := 375) (Lv' := [some (.int w0), some (.int v0), some (.int R), some (.int F), some (.ref q), some (.ref p), some (.int x), some (.int n), some (.int k)]) (st' := []) (by decide +kernel) rfl ?_
    refine T h4 ?_
    unfold tRow
    rw [if_pos e]
    have z := hs4.le (b' := b + 20) (by omega)
    (try simp only [List.append_assoc] at z)
    (try simp only [List.append_assoc])
    exact z
def tSwe (x : Int32) : List Int32 := if ((x >>> ((24 : Int32) &&& 31)) &&& 1) = 0 then oT 34 ++ dgI ((x >>> ((4 : Int32) &&& 31)) &&& 15) else []
theorem tr_375 {p : Nat} {w0 v0 R F x n k : Int32} (hR : 2 ≤ R ∧ R ≤ 6) (hs : BS [(p, .inr (.inl (5, 5, nmF)))] c s h0 h q w b) (hb : b + 20 ≤ 4000) (T : ∀ h1, BS [(p, .inr (.inl (5, 5, nmF)))] c s h0 h1 q (w ++ tSwe x) (b + 20) → jE 190 403 [some (.int w0), some (.int v0), some (.int R), some (.int F), some (.ref q), some (.ref p), some (.int x), some (.int n), some (.int k)] [] h1 K) : jE 190 375 [some (.int w0), some (.int v0), some (.int R), some (.int F), some (.ref q), some (.ref p), some (.int x), some (.int n), some (.int k)] [] h K := by
  refine jx_blk (by decide) [(.iload 6, 2), (.bipush 24, 2), (.ishr, 1), (.iconst 1, 1), (.iand, 1)] (pc' := 382) (Lv' := [some (.int w0), some (.int v0), some (.int R), some (.int F), some (.ref q), some (.ref p), some (.int x), some (.int n), some (.int k)]) (st' := [.int ((x >>> ((24 : Int32) &&& 31)) &&& 1)]) (by decide +kernel) rfl ?_
  refine jx_if_ne (off := 21) (b := 403) (by decide) (by decide +kernel) (by decide) (fun e => ?_) (fun e => ?_)
  · refine T h ?_
    unfold tSwe
    rw [if_neg e, List.append_nil]
    exact hs.le (by omega)
  · refine jx_blk (by decide) [(.aload 4, 2)] (pc' := 387) (Lv' := [some (.int w0), some (.int v0), some (.int R), some (.int F), some (.ref q), some (.ref p), some (.int x), some (.int n), some (.int k)]) (st' := [.ref q]) (by decide +kernel) rfl ?_
    refine jx_ldc (idx := 70) (v := .ref 1000035) (by decide) (by decide +kernel) (by decide +kernel) ?_
    refine bx_as 34 (by decide +kernel) hs (by decide) (by omega) (Nat.le_of_ble_eq_true rfl) (fun h1 hs1 => ?_)
    refine jx_blk (by decide) [(.iload 6, 2), (.iconst 4, 1), (.ishr, 1), (.bipush 15, 2), (.iand, 1)] (pc' := 399) (Lv' := [some (.int w0), some (.int v0), some (.int R), some (.int F), some (.ref q), some (.ref p), some (.int x), some (.int n), some (.int k)]) (st' := [.int ((x >>> ((4 : Int32) &&& 31)) &&& 15), .ref q]) (by decide +kernel) rfl ?_
    refine bx_ai (by decide +kernel) hs1 (lt_b (an_b _ 15 (by decide)) (by decide) (by decide)) (by omega) (Nat.le_of_ble_eq_true rfl) (fun h2 hs2 => ?_)
    refine jx_blk (by decide) [(.pop, 1)] (pc' := 403) (Lv' := [some (.int w0), some (.int v0), some (.int R), some (.int F), some (.ref q), some (.ref p), some (.int x), some (.int n), some (.int k)]) (st' := []) (by decide +kernel) rfl ?_
    refine T h2 ?_
    unfold tSwe
    rw [if_pos e]
    have z := hs2.le (b' := b + 20) (by omega)
    (try simp only [List.append_assoc] at z)
    (try simp only [List.append_assoc])
    exact z
def tSto (x : Int32) : List Int32 := if ((x >>> ((25 : Int32) &&& 31)) &&& 1) = 0 then oT 35 ++ dgI (1 + ((x >>> ((6 : Int32) &&& 31)) &&& 15)) else []
theorem tr_403 {p : Nat} {w0 v0 R F x n k : Int32} (hR : 2 ≤ R ∧ R ≤ 6) (hs : BS [(p, .inr (.inl (5, 5, nmF)))] c s h0 h q w b) (hb : b + 20 ≤ 4000) (T : ∀ h1, BS [(p, .inr (.inl (5, 5, nmF)))] c s h0 h1 q (w ++ tSto x) (b + 20) → jE 190 434 [some (.int w0), some (.int v0), some (.int R), some (.int F), some (.ref q), some (.ref p), some (.int x), some (.int n), some (.int k)] [] h1 K) : jE 190 403 [some (.int w0), some (.int v0), some (.int R), some (.int F), some (.ref q), some (.ref p), some (.int x), some (.int n), some (.int k)] [] h K := by
  refine jx_blk (by decide) [(.iload 6, 2), (.bipush 25, 2), (.ishr, 1), (.iconst 1, 1), (.iand, 1)] (pc' := 410) (Lv' := [some (.int w0), some (.int v0), some (.int R), some (.int F), some (.ref q), some (.ref p), some (.int x), some (.int n), some (.int k)]) (st' := [.int ((x >>> ((25 : Int32) &&& 31)) &&& 1)]) (by decide +kernel) rfl ?_
  refine jx_if_ne (off := 24) (b := 434) (by decide) (by decide +kernel) (by decide) (fun e => ?_) (fun e => ?_)
  · refine T h ?_
    unfold tSto
    rw [if_neg e, List.append_nil]
    exact hs.le (by omega)
  · refine jx_blk (by decide) [(.aload 4, 2)] (pc' := 415) (Lv' := [some (.int w0), some (.int v0), some (.int R), some (.int F), some (.ref q), some (.ref p), some (.int x), some (.int n), some (.int k)]) (st' := [.ref q]) (by decide +kernel) rfl ?_
    refine jx_ldc (idx := 72) (v := .ref 1000036) (by decide) (by decide +kernel) (by decide +kernel) ?_
    refine bx_as 35 (by decide +kernel) hs (by decide) (by omega) (Nat.le_of_ble_eq_true rfl) (fun h1 hs1 => ?_)
    refine jx_blk (by decide) [(.iconst 1, 1), (.iload 6, 2), (.bipush 6, 2), (.ishr, 1), (.bipush 15, 2), (.iand, 1), (.iadd, 1)] (pc' := 430) (Lv' := [some (.int w0), some (.int v0), some (.int R), some (.int F), some (.ref q), some (.ref p), some (.int x), some (.int n), some (.int k)]) (st' := [.int (1 + ((x >>> ((6 : Int32) &&& 31)) &&& 15)), .ref q]) (by decide +kernel) rfl ?_
    refine bx_ai (by decide +kernel) hs1 (lt_b (add_b (a := 1) (an_b _ 15 (by decide)) (by decide)) (by decide) (by decide)) (by omega) (Nat.le_of_ble_eq_true rfl) (fun h2 hs2 => ?_)
    refine jx_blk (by decide) [(.pop, 1)] (pc' := 434) (Lv' := [some (.int w0), some (.int v0), some (.int R), some (.int F), some (.ref q), some (.ref p), some (.int x), some (.int n), some (.int k)]) (st' := []) (by decide +kernel) rfl ?_
    refine T h2 ?_
    unfold tSto
    rw [if_pos e]
    have z := hs2.le (b' := b + 20) (by omega)
    (try simp only [List.append_assoc] at z)
    (try simp only [List.append_assoc])
    exact z
theorem tr_434 {p : Nat} {w0 v0 R F x n k : Int32} (hs : BS [(p, .inr (.inl (5, 5, nmF)))] c s h0 h q w b) (hb : b + 1 ≤ 4000) (T : ∀ h1, BS [(p, .inr (.inl (5, 5, nmF)))] c s h0 h1 q (w ++ [59]) (b + 1) → jE 190 91 [some (.int w0), some (.int v0), some (.int R), some (.int F), some (.ref q), some (.ref p), some (.int x), some (.int (n + 1)), some (.int (k + 1))] [] h1 K) : jE 190 434 [some (.int w0), some (.int v0), some (.int R), some (.int F), some (.ref q), some (.ref p), some (.int x), some (.int n), some (.int k)] [] h K := by
  refine jx_blk (by decide) [(.aload 4, 2), (.bipush 59, 2)] (pc' := 438) (Lv' := [some (.int w0), some (.int v0), some (.int R), some (.int F), some (.ref q), some (.ref p), some (.int x), some (.int n), some (.int k)]) (st' := [.int 59, .ref q]) (by decide +kernel) rfl ?_
  refine bx_ac (by decide +kernel) hs (by decide) (by omega) (Nat.le_of_ble_eq_true rfl) (fun h1 hs1 => ?_)
  refine jx_blk (by decide) [(.pop, 1), (.iinc 7 1, 3), (.iinc 8 1, 3)] (pc' := 448) (Lv' := [some (.int w0), some (.int v0), some (.int R), some (.int F), some (.ref q), some (.ref p), some (.int x), some (.int (n + 1)), some (.int (k + 1))]) (st' := []) (by decide +kernel) rfl ?_
  refine jx_goto (off := (-357)) (b := 91) (by decide) (by decide +kernel) (by decide) ?_
  exact T _ hs1
theorem nm5 (x : Int32) : 0 ≤ (((x >>> ((10 : Int32) &&& 31)) &&& 255) - ((x >>> ((10 : Int32) &&& 31)) &&& 255) / 5 * 5) ∧ ((((x >>> ((10 : Int32) &&& 31)) &&& 255) - ((x >>> ((10 : Int32) &&& 31)) &&& 255) / 5 * 5)).toNatClampNeg < 5 := by
  have h := rem_b (x := (x >>> ((10 : Int32) &&& 31)) &&& 255) (d := 5) (an_b _ 255 (by decide)).1 (by decide)
  refine ⟨h.1, ?_⟩
  obtain ⟨e, l⟩ := iN_of h.1
  have h2 := h.2
  rw [e, iN_lt l (by decide)] at h2
  exact h2
def tTic (x k F : Int32) : List Int32 := if (k / 4) < F then oT 28 else if ((x >>> ((12 : Int32) &&& 31)) &&& 7) = 0 then oT 28 else oT 29
def tHea (x k : Int32) : List Int32 := oT 27 ++ dgI k ++ [32] ++ oT (22 + (((x >>> ((10 : Int32) &&& 31)) &&& 255) - ((x >>> ((10 : Int32) &&& 31)) &&& 255) / 5 * 5).toNatClampNeg)
theorem tr_130 {p : Nat} {w0 v0 R F x n k : Int32} (hk : 0 ≤ k ∧ k < 100) (hs : BS [(p, .inr (.inl (5, 5, nmF)))] c s h0 h q w b) (hb : b + 30 ≤ 4000) (T : ∀ h1, BS [(p, .inr (.inl (5, 5, nmF)))] c s h0 h1 q (w ++ (tHea x k ++ tTic x k F)) (b + 30) → jE 190 194 [some (.int w0), some (.int v0), some (.int R), some (.int F), some (.ref q), some (.ref p), some (.int x), some (.int n), some (.int k)] [] h1 K) : jE 190 130 [some (.int w0), some (.int v0), some (.int R), some (.int F), some (.ref q), some (.ref p), some (.int x), some (.int n), some (.int k)] [] h K := by
  refine jx_blk (by decide) [(.aload 4, 2)] (pc' := 132) (Lv' := [some (.int w0), some (.int v0), some (.int R), some (.int F), some (.ref q), some (.ref p), some (.int x), some (.int n), some (.int k)]) (st' := [.ref q]) (by decide +kernel) rfl ?_
  refine jx_ldc (idx := 56) (v := .ref 1000028) (by decide) (by decide +kernel) (by decide +kernel) ?_
  refine bx_as 27 (by decide +kernel) hs (by decide) (by omega) (Nat.le_of_ble_eq_true rfl) (fun h1 hs1 => ?_)
  refine jx_blk (by decide) [(.iload 8, 2)] (pc' := 139) (Lv' := [some (.int w0), some (.int v0), some (.int R), some (.int F), some (.ref q), some (.ref p), some (.int x), some (.int n), some (.int k)]) (st' := [.int k, .ref q]) (by decide +kernel) rfl ?_
  refine bx_ai (by decide +kernel) hs1 hk (by omega) (Nat.le_of_ble_eq_true rfl) (fun h2 hs2 => ?_)
  refine jx_blk (by decide) [(.bipush 32, 2)] (pc' := 144) (Lv' := [some (.int w0), some (.int v0), some (.int R), some (.int F), some (.ref q), some (.ref p), some (.int x), some (.int n), some (.int k)]) (st' := [.int 32, .ref q]) (by decide +kernel) rfl ?_
  refine bx_ac (by decide +kernel) hs2 (by decide) (by omega) (Nat.le_of_ble_eq_true rfl) (fun h3 hs3 => ?_)
  refine jx_blk (by decide) [(.aload 5, 2), (.iload 6, 2), (.bipush 10, 2), (.ishr, 1), (.sipush 255, 3), (.iand, 1), (.iconst 5, 1), (.irem, 1)] (pc' := 160) (Lv' := [some (.int w0), some (.int v0), some (.int R), some (.int F), some (.ref q), some (.ref p), some (.int x), some (.int n), some (.int k)]) (st' := [.int (((x >>> ((10 : Int32) &&& 31)) &&& 255) - ((x >>> ((10 : Int32) &&& 31)) &&& 255) / 5 * 5), .ref p, .ref q]) (by decide +kernel) rfl ?_
  have hi5 := nm5 x
  have hX := hs3.x
  refine jx_aald (by decide) (by decide +kernel) hX.1 hX.2 ⟨hi5.1, hi5.2⟩ (nmF_at _ hi5.2) ?_
  refine bx_as (22 + (((x >>> ((10 : Int32) &&& 31)) &&& 255) - ((x >>> ((10 : Int32) &&& 31)) &&& 255) / 5 * 5).toNatClampNeg) (by decide +kernel) hs3 (by omega) (by omega) (Nat.le_of_ble_eq_true rfl) (fun h4 hs4 => ?_)
  refine jx_blk (by decide) [(.iload 8, 2), (.iconst 4, 1), (.idiv, 1), (.iload_n 3, 1)] (pc' := 169) (Lv' := [some (.int w0), some (.int v0), some (.int R), some (.int F), some (.ref q), some (.ref p), some (.int x), some (.int n), some (.int k)]) (st' := [.int F, .int (k / 4), .ref q]) (by decide +kernel) rfl ?_
  refine jx_ic_lt (off := 14) (b := 183) (by decide) (by decide +kernel) (by decide) (fun e => ?_) (fun e => ?_)
  · refine jx_ldc (idx := 58) (v := .ref 1000029) (by decide) (by decide +kernel) (by decide +kernel) ?_
    refine jx_goto (off := 5) (b := 190) (by decide) (by decide +kernel) (by decide) ?_
    refine bx_as 28 (by decide +kernel) hs4 (by decide) (by omega) (Nat.le_of_ble_eq_true rfl) (fun h5 hs5 => ?_)
    refine jx_blk (by decide) [(.pop, 1)] (pc' := 194) (Lv' := [some (.int w0), some (.int v0), some (.int R), some (.int F), some (.ref q), some (.ref p), some (.int x), some (.int n), some (.int k)]) (st' := []) (by decide +kernel) rfl ?_
    refine T h5 ?_
    unfold tHea tTic
    rw [if_pos e]
    have z := hs5.le (b' := b + 30) (by omega)
    (try simp only [List.append_assoc] at z)
    (try simp only [List.append_assoc])
    exact z
  · refine jx_blk (by decide) [(.iload 6, 2), (.bipush 12, 2), (.ishr, 1), (.bipush 7, 2), (.iand, 1)] (pc' := 180) (Lv' := [some (.int w0), some (.int v0), some (.int R), some (.int F), some (.ref q), some (.ref p), some (.int x), some (.int n), some (.int k)]) (st' := [.int ((x >>> ((12 : Int32) &&& 31)) &&& 7), .ref q]) (by decide +kernel) rfl ?_
    refine jx_if_ne (off := 8) (b := 188) (by decide) (by decide +kernel) (by decide) (fun e2 => ?_) (fun e2 => ?_)
    · refine jx_ldc (idx := 60) (v := .ref 1000030) (by decide) (by decide +kernel) (by decide +kernel) ?_
      refine bx_as 29 (by decide +kernel) hs4 (by decide) (by omega) (Nat.le_of_ble_eq_true rfl) (fun h5 hs5 => ?_)
      refine jx_blk (by decide) [(.pop, 1)] (pc' := 194) (Lv' := [some (.int w0), some (.int v0), some (.int R), some (.int F), some (.ref q), some (.ref p), some (.int x), some (.int n), some (.int k)]) (st' := []) (by decide +kernel) rfl ?_
      refine T h5 ?_
      unfold tHea tTic
      rw [if_neg e, if_neg e2]
      have z := hs5.le (b' := b + 30) (by omega)
      (try simp only [List.append_assoc] at z)
      (try simp only [List.append_assoc])
      exact z
    · refine jx_ldc (idx := 58) (v := .ref 1000029) (by decide) (by decide +kernel) (by decide +kernel) ?_
      refine jx_goto (off := 5) (b := 190) (by decide) (by decide +kernel) (by decide) ?_
      refine bx_as 28 (by decide +kernel) hs4 (by decide) (by omega) (Nat.le_of_ble_eq_true rfl) (fun h5 hs5 => ?_)
      refine jx_blk (by decide) [(.pop, 1)] (pc' := 194) (Lv' := [some (.int w0), some (.int v0), some (.int R), some (.int F), some (.ref q), some (.ref p), some (.int x), some (.int n), some (.int k)]) (st' := []) (by decide +kernel) rfl ?_
      refine T h5 ?_
      unfold tHea tTic
      rw [if_neg e, if_pos e2]
      have z := hs5.le (b' := b + 30) (by omega)
      (try simp only [List.append_assoc] at z)
      (try simp only [List.append_assoc])
      exact z
/-- a traveller's line -/
def tLin (x k R F : Int32) : List Int32 := tHea x k ++ tTic x k F ++ tFam x ++ tWin x ++ tAhe x ++ tRow x R ++ tSwe x ++ tSto x ++ [59]
theorem tr_lin {p : Nat} {w0 v0 R F x n k : Int32} (hR : 2 ≤ R ∧ R ≤ 6) (hk : 0 ≤ k ∧ k < 100) (hs : BS [(p, .inr (.inl (5, 5, nmF)))] c s h0 h q w b) (hb : b + 151 ≤ 4000) (T : ∀ h1, BS [(p, .inr (.inl (5, 5, nmF)))] c s h0 h1 q (w ++ tLin x k R F) (b + 151) → jE 190 91 [some (.int w0), some (.int v0), some (.int R), some (.int F), some (.ref q), some (.ref p), some (.int x), some (.int (n + 1)), some (.int (k + 1))] [] h1 K) : jE 190 130 [some (.int w0), some (.int v0), some (.int R), some (.int F), some (.ref q), some (.ref p), some (.int x), some (.int n), some (.int k)] [] h K := by
  refine tr_130 hk hs (by omega) (fun h1 s1 => ?_)
  refine tr_194 hR s1 (by omega) (fun h2 s2 => ?_)
  refine tr_224 hR s2 (by omega) (fun h3 s3 => ?_)
  refine tr_277 hR s3 (by omega) (fun h4 s4 => ?_)
  refine tr_330 hR s4 (by omega) (fun h5 s5 => ?_)
  refine tr_375 hR s5 (by omega) (fun h6 s6 => ?_)
  refine tr_403 hR s6 (by omega) (fun h7 s7 => ?_)
  refine tr_434 s7 (by omega) (fun h8 s8 => T h8 ?_)
  unfold tLin
  have z := s8.le (b' := b + 151) (by omega)
  simp only [List.append_assoc] at z
  simp only [List.append_assoc]
  exact z
end TR
