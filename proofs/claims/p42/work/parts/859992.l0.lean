/-! THE LAW'S BEGIN -/
section L0
variable {y pc : Nat} {h : jv_H} {Lv : List (Option Value)} {r : List Value} {K : jK} {L : Nat} {xs : Nat → Int32}
theorem jx_scl (hy : y < 272) (hso : sow y = 10) (hcode : jv_code y pc = some (.arraylength, 1)) (hc : h.1 1000000 = .inl (9, L, xs)) (hg : jE y (pc + 1) Lv (.int (iN L) :: r) h K) : jE y pc Lv (.ref 1000000 :: r) h K := by
  refine jx_heap hy hcode rfl rfl rfl rfl rfl rfl (st' := .int (iN L) :: r) (h1 := h) ?_ hg
  show (if 1000000 < h.2.1 ∨ (1000000 = 1000000 ∧ sow y = 10) ∨ jv_old 1000000 = true then match h.1 1000000 with
      | .inl (ty, n, _) => if (ty < 2 ∨ ty = 4) ∧ 1000000 < h.2.1 ∨ ty = 9 ∧ 1000000 = 1000000 ∨ ty = 4 ∧ jv_old 1000000 = true then some (.int (Int32.ofNat n) :: r, h) else none
      | .inr (.inl (ty, n, _)) => if (2 ≤ ty ∧ ty ≤ 6 ∧ ty ≠ 4) ∧ 1000000 < h.2.1 then some (.int (Int32.ofNat n) :: r, h) else none
      | _ => none else none) = _
  rw [if_pos (Or.inr (Or.inl ⟨rfl, hso⟩)), hc]
  exact if_pos (Or.inr (Or.inl ⟨rfl, rfl⟩))
theorem jx_sci {i : Nat} (hy : y < 272) (hso : sow y = 10) (hcode : jv_code y pc = some (.iaload, 1)) (hc : h.1 1000000 = .inl (9, L, xs)) (hi : i < L) (hl : i < 2147483648) (hg : jE y (pc + 1) Lv (.int (xs i) :: r) h K) : jE y pc Lv (.int (iN i) :: .ref 1000000 :: r) h K := by
  have e : (iN i).toNatClampNeg = i := iN_nat hl
  refine jx_heap hy hcode rfl rfl rfl rfl rfl rfl (st' := .int (xs i) :: r) (h1 := h) ?_ hg
  show (if 1000000 < h.2.1 ∨ (1000000 = 1000000 ∧ sow y = 10) then match h.1 1000000 with
      | .inl (ty, n, f) => if (ty = 0 ∧ 1000000 < h.2.1 ∨ ty = 9 ∧ 1000000 = 1000000) ∧ ¬ (iN i < 0 ∨ n ≤ (iN i).toNatClampNeg) then some (.int (f (iN i).toNatClampNeg) :: r, h) else none
      | _ => none else none) = _
  rw [if_pos (Or.inr ⟨rfl, hso⟩), hc]
  have hn : ¬ (iN i < 0 ∨ L ≤ (iN i).toNatClampNeg) := by
    rw [e]
    intro z
    rcases z with z | z
    · exact absurd z (Int32.not_lt.mpr ((iN_le (k := 0) (by decide) hl).mpr (Nat.zero_le _)))
    · omega
  exact (if_pos ⟨Or.inr ⟨rfl, rfl⟩, hn⟩).trans (by rw [e])
theorem l0_lp {a : Nat} (hL : L < 2147483648) (ha0 : a < 1000000) (T : ∀ (h1 : jv_H) (f : Nat → Int32) (k : Int32), jIa h1 a 6 f → jFix h1 → h1.2 = h.2 → jE 271 34 [some (.ref 1000000), some (.ref a), some (.int k), none, none, none, none, none, none, none, none] [] h1 K) :
    ∀ (d i : Nat) (f : Nat → Int32) (g : jv_H), i + d = 6 → jIa g a 6 f → g.1 1000000 = .inl (9, L, xs) → jFix g → g.2 = h.2 → jE 271 7 [some (.ref 1000000), some (.ref a), some (.int (iN i)), none, none, none, none, none, none, none, none] [] g K := by
  intro d
  induction d with
  | zero =>
    intro i f g hi ha hc hF e
    have : i = 6 := by omega
    subst this
    refine jx_blk (by decide) [(.iload_n 2, 1), (.bipush 6, 2)] (pc' := 10) (Lv' := [some (.ref 1000000), some (.ref a), some (.int (iN 6)), none, none, none, none, none, none, none, none]) (st' := [.int 6, .int (iN 6)]) (by decide +kernel) rfl ?_
    refine jx_ic_ge (off := 24) (b := 34) (by decide) (by decide +kernel) (by decide) (fun _ => T g f _ ha hF e) (fun e => absurd e (by decide))
  | succ d ih =>
    intro i f g hi ha hc hF e
    have i6 : iN i < 6 := (iN_lt (m := 6) (by omega) (by decide)).mpr (by omega)
    refine jx_blk (by decide) [(.iload_n 2, 1), (.bipush 6, 2)] (pc' := 10) (Lv' := [some (.ref 1000000), some (.ref a), some (.int (iN i)), none, none, none, none, none, none, none, none]) (st' := [.int 6, .int (iN i)]) (by decide +kernel) rfl ?_
    refine jx_ic_ge (off := 24) (b := 34) (by decide) (by decide +kernel) (by decide) (fun z => absurd i6 z) (fun _ => ?_)
    refine jx_blk (by decide) [(.iload_n 2, 1), (.aload_n 0, 1)] (pc' := 15) (Lv' := [some (.ref 1000000), some (.ref a), some (.int (iN i)), none, none, none, none, none, none, none, none]) (st' := [.ref 1000000, .int (iN i)]) (by decide +kernel) rfl ?_
    refine jx_scl (by decide) (by decide +kernel) (by decide +kernel) hc ?_
    refine jx_ic_ge (off := 18) (b := 34) (by decide) (by decide +kernel) (by decide) (fun _ => T g f _ ha hF e) (fun z => ?_)
    have hiL : i < L := (iN_lt (by omega) hL).mp z
    refine jx_blk (by decide) [(.aload_n 1, 1), (.iload_n 2, 1), (.aload_n 0, 1), (.iload_n 2, 1)] (pc' := 23) (Lv' := [some (.ref 1000000), some (.ref a), some (.int (iN i)), none, none, none, none, none, none, none, none]) (st' := [.int (iN i), .ref 1000000, .int (iN i), .ref a]) (by decide +kernel) rfl ?_
    refine jx_sci (by decide) (by decide +kernel) (by decide +kernel) hc hiL (by omega) ?_
    refine jx_ldc (idx := 204) (v := .int 2147483647) (by decide) (by decide +kernel) (by decide +kernel) ?_
    refine jx_blk (by decide) [(.iand, 1)] (pc' := 27) (Lv' := [some (.ref 1000000), some (.ref a), some (.int (iN i)), none, none, none, none, none, none, none, none]) (st' := [.int ((xs i) &&& 2147483647), .int (iN i), .ref a]) (by decide +kernel) rfl ?_
    refine jx_iast (by decide) (by decide +kernel) ha (by rw [iN_nat (by omega)]; intro z; rcases z with z | z; exact absurd z (Int32.not_lt.mpr ((iN_le (k := 0) (by decide) (by omega)).mpr (Nat.zero_le _))); omega) (fun h1 e2 e1 ha1 => ?_)
    refine jx_blk (by decide) [(.iinc 2 1, 3)] (pc' := 31) (Lv' := [some (.ref 1000000), some (.ref a), some (.int ((iN i) + 1)), none, none, none, none, none, none, none, none]) (st' := []) (by decide +kernel) rfl ?_
    refine jx_goto (off := (-24)) (b := 7) (by decide) (by decide +kernel) (by decide) ?_
    rw [iN_one]
    refine ih (i + 1) _ h1 (by omega) ha1 ((e1 _ (by omega)).trans hc) (hF.fr (fun b hb => e1 b (by omega))) (e2.trans e)
theorem jx_newx {idx : Nat} {st : List Value} (hy : y < 272) (hcode : jv_code y pc = some (.new idx, 3)) (hc : jv_new (sow y) idx = some 7) (hd : jv_code y (pc + 3) = some (.dup, 1)) (hD : jx_chk y (pc + 4) 107 1 2 2 7 = true) (hF : jFix h) (hb : h.2.1 + 323 ≤ 1000000) (hw : jv_wd (.ref h.2.1 :: st) ≤ 8) (hg : ∀ h', XP h.2.1 0 wS h' → h'.2.1 = h.2.1 + 323 → h'.2.2 = h.2.2 + 6048 → (∀ a, a < h.2.1 ∨ 1000000 ≤ a → h'.1 a = h.1 a) → jE y (pc + 7) Lv (.ref h.2.1 :: st) h' K) : jE y pc Lv st h K := by
  refine jx_newo hy hcode hc ?_
  refine jx_pure (i := .dup) (len := 1) (st' := .ref h.2.1 :: .ref h.2.1 :: st) hy hd rfl rfl rfl ?_
  refine jx_call (z := 107) (na := 1) (mL := 2) (ck := 2) (ow := 7) hD (by show 1 ≤ st.length + 2; omega) hw rfl (Or.inr ⟨h.2.1, 7, _, rfl, Or.inl (Nat.lt_succ_self _), jv_at_new, rfl⟩) ?_
  refine (xnew (H := h) hF hb).mono (fun r1 h' q => ?_)
  obtain ⟨rfl, q1, q2, q3, q4⟩ := q
  exact hg h' ⟨Nat.zero_le _, wS, q1, wS_GI, XQ.rf⟩ q2 q3 q4
end L0
