/-! THE LAW, over one SeatSwap -/
/-- the six numbers drawn, before the SeatSwap -/
def jZ (B : Nat) (h : jv_H) (a : Nat) (f : Nat → Int32) : Prop := a < B ∧ jIa h a 6 f
section LWX
variable {y pc B n n' c s b : Nat} {ρ ρ' : gS} {A : jAs} {h0 h : jv_H} {Lv : List (Option Value)} {st r : List Value} {K : jK}
theorem jZ.at {a : Nat} {f : Nat → Int32} (hz : jZ B h0 a f) (hf : fr B h0 h) : jIa h a 6 f := by
  have h1 := hf.1
  have h2 := hz.1
  exact hz.2.fr (hf.2.2 a (Or.inl (by omega)) (Or.inl hz.1)) hf.2.1
theorem lx_ldz {a j : Nat} {f : Nat → Int32} {x : Int32} (hy : y < 272) (hcode : jv_code y pc = some (.iaload, 1)) (hx : LX B n ρ A c s h0 h) (hz : jZ B h0 a f) (hj : x.toNatClampNeg = j ∧ 0 ≤ x) (hk : j < 6) (hg : jE y (pc + 1) Lv (.int (f j) :: r) h K) : jE y pc Lv (.int x :: .ref a :: r) h K := by
  refine jx_iald hy hcode (hz.at hx.2.2.2.2) (jIa.nn hj hk) ?_
  rw [hj.1]
  exact hg
theorem LX.tm {a : Nat} {w : List Int32} {h' : jv_H} (hx : LX B n ρ A (c + 8020) (s + 20100) h0 h) (t : jTM h h' a w) : LX B n ρ A c s h0 h' := by
  have hB := hx.1.lt
  obtain ⟨x1, h2, h3, ⟨b1, b2⟩, g1, g2, g3⟩ := hx
  obtain ⟨t1, ⟨t2, t3, t4⟩, t5⟩ := t
  refine ⟨x1.same (fun q hq => t1 q (by omega)) t2 (by omega), fun q hq => ?_, h3, ⟨by omega, by omega⟩, g1, by omega, fun q hq hb => ?_⟩
  · obtain ⟨i1, i2⟩ := h2 q hq
    have := i1.1
    exact ⟨i1.fr (t1 _ (Or.inl this)) t2, i2⟩
  · rw [t1 q (by omega)]
    exact g3 q hq hb
theorem jTM.jT {a : Nat} {w : List Int32} {h' : jv_H} (t : jTM h h' a w) (hB : B + 323 ≤ h.2.1) : jT B h' a w.length (fun j => w.getD j 0) := by
  obtain ⟨t1, ⟨t2, t3, t4⟩, ⟨t5, t6⟩, ⟨tl, t7⟩, ⟨g, t8, t9⟩, -⟩ := t
  exact ⟨⟨Or.inl (by omega), Or.inr (by omega)⟩, a + 1, tl, t7, ⟨Or.inl t6, Or.inr (by omega)⟩, g, t8, t9⟩
theorem lx_train {w0 v0 : Int32} (hD : jx_chk y pc 190 2 9 0 10 = true) (hx : LX B n ρ A (c + 8020) (s + 20100) h0 h) (hw1 : jv_wd r ≤ 8) (hg : ∀ a h', jTM h h' a (recW w0 v0) → jT B h' a (recW w0 v0).length (fun j => (recW w0 v0).getD j 0) → LX B n ρ A c s h0 h' → jE y (pc + 3) Lv (.ref a :: r) h' K) : jE y pc Lv (.int v0 :: .int w0 :: r) h K := by
  have hB := hx.1.lt
  have hb := hx.2.2.2.1.1
  refine jx_call (z := 190) (na := 2) (mL := 9) (ck := 0) (ow := 10) hD (by show 2 ≤ r.length + 2; omega) hw1 rfl (Or.inl rfl) ?_
  refine lm_train (fun q hq => hx.1.old hq) (by omega) (fun a h' t => ?_)
  exact hg a h' t (t.jT hB) (hx.tm t)
theorem jLt.nat {w : List Int32} (h : jLt w) : ∀ i, i < w.length → (fun j => w.getD j 0) i = iN (w.getD i 0).toNatClampNeg ∧ (w.getD i 0).toNatClampNeg < 128 := by
  intro i hi
  have := nat_lt (d := 128) (h _ (getD_mem hi)) (by decide)
  exact ⟨this.2.symm, this.1⟩
theorem FdT.on {w : List Int32} {τ : gS} (h : FdT w.length (fun j => w.getD j 0) ρ τ) (hl : w.length ≤ 1000) : OnT τ w := ⟨h.2.2.1, hl, h.2.2.2⟩
theorem lx_does {w v : Int32} (hD : jx_chk y pc 199 3 10 0 10 = true) (hn : n + 1 ≤ 9000) (hb : b ≤ 1000) (hI : SQ (RWp b) ρ) (h8 : ρ 323 8 = 0) (hx : LX B n ρ A (c + 51) (s + 255) h0 h) (hw1 : jv_wd r ≤ 8) (hg : ∀ h' τ n', n' ≤ n + 1 → SQ (RWp (b + 4)) τ → τ 323 8 = 0 → LX B n' τ A c s h0 h' → jE y (pc + 3) Lv (.int 1 :: r) h' K) : jE y pc Lv (.int v :: .int w :: .ref B :: r) h K := by
  refine jx_call (z := 199) (na := 3) (mL := 10) (ck := 0) (ow := 10) hD (by show 3 ≤ r.length + 3; omega) hw1 rfl (Or.inl rfl) ?_
  have hs : LX B n ρ [] (c + 51) (s + 255) h h := LX.start hx.1 hx.2.2.2.1
  refine (lm_does hn hb hI h8 hs).mono (fun r1 h1 q => ?_)
  obtain ⟨rfl, τ, n', q1, q2, q3, q4⟩ := q
  exact hg h1 τ n' q1 q2 q3 (hx.back q4)
theorem hUn_0 (h : ρ 323 6 = 0) : hUn ρ = ρ := if_pos h
end LWX
theorem lw_42 {B n c s : Nat} {ρ : gS} {h0 h : jv_H} {K : jK} {zz : Nat} {f : Nat → Int32} (hz : jZ B h0 zz f) (sp : SP (hOp (hUn ρ) (gStl ((hUn ρ) 324)) (nStl ((hUn ρ) 324)))) (hx : LX B n ρ [] (c + 12) (s + 104) h0 h) (T : ((if ρ 323 6 = 0 then -1 else ρ 323 6 - 1) = (-1) ∧ (((hUn ρ) 324 0) = 4 ∧ (((hUn ρ) 324 1) = 1 ∧ ((4 * (hUn ρ) 324 0 - (hUn ρ) 324 3) = 16 ∧ ((fJa ((hUn ρ) 324) + 10000) = 10000 ∧ ((aStl ((hUn ρ) 324)) = (-2) ∧ ((fRi ((hOp (hUn ρ) (gStl ((hUn ρ) 324)) (nStl ((hUn ρ) 324))) 324)) = 0 ∧ (∀ h1, LX B n (hOp (hUn ρ) (gStl ((hUn ρ) 324)) (nStl ((hUn ρ) 324))) [] c s h0 h1 → jE 271 118 [some (.ref 1000000), some (.ref zz), some (.ref B), some (.int 1), none, none, none, none, none, none, none] [] h1 K))))))))) : jE 271 42 [some (.ref 1000000), some (.ref zz), some (.ref B), none, none, none, none, none, none, none, none] [] h K := by
  refine jx_blk (by decide) [(.aload_n 2, 1)] (pc' := 43) (Lv' := [some (.ref 1000000), some (.ref zz), some (.ref B), none, none, none, none, none, none, none, none]) (st' := [.ref B]) (by decide +kernel) rfl ?_
  refine lx_call (z := 122) (na := 1) (mL := 1) (v := .int (if ρ 323 6 = 0 then -1 else ρ 323 6 - 1)) (ρ' := (hUn ρ)) (r := []) [] (by decide +kernel) hx xr_undo hx.1.1 rfl rfl (fun _ => rfl) (Nat.le_of_ble_eq_true rfl) (fun h1 hx2 => ?_)
  refine jx_blk (by decide) [(.iconst (-1), 1)] (pc' := 47) (Lv' := [some (.ref 1000000), some (.ref zz), some (.ref B), none, none, none, none, none, none, none, none]) (st' := [.int (-1), .int (if ρ 323 6 = 0 then -1 else ρ 323 6 - 1)]) (by decide +kernel) rfl ?_
  refine jx_ic_ne (off := 69) (b := 116) (by decide) (by decide +kernel) (by decide) (fun e => absurd T.1 e) (fun _ => ?_)
  have t4 := T.2
  refine jx_blk (by decide) [(.aload_n 2, 1), (.iconst 0, 1)] (pc' := 52) (Lv' := [some (.ref 1000000), some (.ref zz), some (.ref B), none, none, none, none, none, none, none, none]) (st' := [.int 0, .ref B]) (by decide +kernel) rfl ?_
  refine lx_call (z := 123) (na := 2) (mL := 2) (v := .int ((hUn ρ) 324 0)) (ρ' := (hUn ρ)) (r := []) [0] (by decide +kernel) hx2 xr_v0 hx2.1.1 rfl rfl (fun _ => rfl) (Nat.le_of_ble_eq_true rfl) (fun h5 hx6 => ?_)
  refine jx_blk (by decide) [(.iconst 4, 1)] (pc' := 56) (Lv' := [some (.ref 1000000), some (.ref zz), some (.ref B), none, none, none, none, none, none, none, none]) (st' := [.int 4, .int ((hUn ρ) 324 0)]) (by decide +kernel) rfl ?_
  refine jx_ic_ne (off := 60) (b := 116) (by decide) (by decide +kernel) (by decide) (fun e => absurd t4.1 e) (fun _ => ?_)
  have t8 := t4.2
  refine jx_blk (by decide) [(.aload_n 2, 1), (.iconst 1, 1)] (pc' := 61) (Lv' := [some (.ref 1000000), some (.ref zz), some (.ref B), none, none, none, none, none, none, none, none]) (st' := [.int 1, .ref B]) (by decide +kernel) rfl ?_
  refine lx_call (z := 123) (na := 2) (mL := 2) (v := .int ((hUn ρ) 324 1)) (ρ' := (hUn ρ)) (r := []) [1] (by decide +kernel) hx6 xr_v1 hx6.1.1 rfl rfl (fun _ => rfl) (Nat.le_of_ble_eq_true rfl) (fun h9 hx10 => ?_)
  refine jx_blk (by decide) [(.iconst 1, 1)] (pc' := 65) (Lv' := [some (.ref 1000000), some (.ref zz), some (.ref B), none, none, none, none, none, none, none, none]) (st' := [.int 1, .int ((hUn ρ) 324 1)]) (by decide +kernel) rfl ?_
  refine jx_ic_ne (off := 51) (b := 116) (by decide) (by decide +kernel) (by decide) (fun e => absurd t8.1 e) (fun _ => ?_)
  have t12 := t8.2
  refine jx_blk (by decide) [(.aload_n 2, 1), (.iconst 4, 1)] (pc' := 70) (Lv' := [some (.ref 1000000), some (.ref zz), some (.ref B), none, none, none, none, none, none, none, none]) (st' := [.int 4, .ref B]) (by decide +kernel) rfl ?_
  refine lx_call (z := 123) (na := 2) (mL := 2) (v := .int (4 * (hUn ρ) 324 0 - (hUn ρ) 324 3)) (ρ' := (hUn ρ)) (r := []) [4] (by decide +kernel) hx10 xr_v4 hx10.1.1 rfl rfl (fun _ => rfl) (Nat.le_of_ble_eq_true rfl) (fun h13 hx14 => ?_)
  refine jx_blk (by decide) [(.bipush 16, 2)] (pc' := 75) (Lv' := [some (.ref 1000000), some (.ref zz), some (.ref B), none, none, none, none, none, none, none, none]) (st' := [.int 16, .int (4 * (hUn ρ) 324 0 - (hUn ρ) 324 3)]) (by decide +kernel) rfl ?_
  refine jx_ic_ne (off := 41) (b := 116) (by decide) (by decide +kernel) (by decide) (fun e => absurd t12.1 e) (fun _ => ?_)
  have t16 := t12.2
  refine jx_blk (by decide) [(.aload_n 2, 1), (.iconst 5, 1)] (pc' := 80) (Lv' := [some (.ref 1000000), some (.ref zz), some (.ref B), none, none, none, none, none, none, none, none]) (st' := [.int 5, .ref B]) (by decide +kernel) rfl ?_
  refine lx_call (z := 123) (na := 2) (mL := 2) (v := .int (fJa ((hUn ρ) 324) + 10000)) (ρ' := (hUn ρ)) (r := []) [5] (by decide +kernel) hx14 xr_v5 hx14.1.1 rfl rfl (fun _ => rfl) (Nat.le_of_ble_eq_true rfl) (fun h17 hx18 => ?_)
  refine jx_blk (by decide) [(.sipush 10000, 3)] (pc' := 86) (Lv' := [some (.ref 1000000), some (.ref zz), some (.ref B), none, none, none, none, none, none, none, none]) (st' := [.int 10000, .int (fJa ((hUn ρ) 324) + 10000)]) (by decide +kernel) rfl ?_
  refine jx_ic_ne (off := 30) (b := 116) (by decide) (by decide +kernel) (by decide) (fun e => absurd t16.1 e) (fun _ => ?_)
  have t20 := t16.2
  refine jx_blk (by decide) [(.aload_n 2, 1)] (pc' := 90) (Lv' := [some (.ref 1000000), some (.ref zz), some (.ref B), none, none, none, none, none, none, none, none]) (st' := [.ref B]) (by decide +kernel) rfl ?_
  refine lx_call (z := 118) (na := 1) (mL := 3) (v := .int (aStl ((hUn ρ) 324))) (ρ' := (hOp (hUn ρ) (gStl ((hUn ρ) 324)) (nStl ((hUn ρ) 324)))) (r := []) [] (by decide +kernel) hx18 xr_settle hx18.1.1 rfl rfl (fun _ => rfl) (Nat.le_of_ble_eq_true rfl) (fun h21 hx22 => ?_)
  refine jx_blk (by decide) [(.bipush (-2), 2)] (pc' := 95) (Lv' := [some (.ref 1000000), some (.ref zz), some (.ref B), none, none, none, none, none, none, none, none]) (st' := [.int (-2), .int (aStl ((hUn ρ) 324))]) (by decide +kernel) rfl ?_
  refine jx_ic_ne (off := 21) (b := 116) (by decide) (by decide +kernel) (by decide) (fun e => absurd t20.1 e) (fun _ => ?_)
  have t24 := t20.2
  refine jx_blk (by decide) [(.aload_n 2, 1)] (pc' := 99) (Lv' := [some (.ref 1000000), some (.ref zz), some (.ref B), none, none, none, none, none, none, none, none]) (st' := [.ref B]) (by decide +kernel) rfl ?_
  refine lx_call (z := 137) (na := 1) (mL := 1) (v := .int (fRi ((hOp (hUn ρ) (gStl ((hUn ρ) 324)) (nStl ((hUn ρ) 324))) 324))) (ρ' := (hOp (hUn ρ) (gStl ((hUn ρ) 324)) (nStl ((hUn ρ) 324)))) (r := []) [] (by decide +kernel) hx22 xr_rings hx22.1.1 rfl rfl (fun _ => rfl) (Nat.le_of_ble_eq_true rfl) (fun h25 hx26 => ?_)
  refine jx_if_ne (off := 14) (b := 116) (by decide) (by decide +kernel) (by decide) (fun e => absurd t24.1 e) (fun _ => ?_)
  have t28 := t24.2
  refine jx_blk (by decide) [(.aload_n 2, 1)] (pc' := 106) (Lv' := [some (.ref 1000000), some (.ref zz), some (.ref B), none, none, none, none, none, none, none, none]) (st' := [.ref B]) (by decide +kernel) rfl ?_
  refine lx_m (z := 193) (na := 1) (mL := 19) (v := .int 1) (r := []) [.ref B] (by decide +kernel) hx26 (lm_seats sp) rfl rfl (Nat.le_of_ble_eq_true rfl) rfl (fun h29 hx30 => ?_)
  refine jx_if_eq (off := 7) (b := 116) (by decide) (by decide +kernel) (by decide) (fun e => absurd e (by decide)) (fun _ => ?_)
  refine jx_blk (by decide) [(.iconst 1, 1)] (pc' := 113) (Lv' := [some (.ref 1000000), some (.ref zz), some (.ref B), none, none, none, none, none, none, none, none]) (st' := [.int 1]) (by decide +kernel) rfl ?_
  refine jx_goto (off := 4) (b := 117) (by decide) (by decide +kernel) (by decide) ?_
  refine jx_blk (by decide) [(.istore_n 3, 1)] (pc' := 118) (Lv' := [some (.ref 1000000), some (.ref zz), some (.ref B), some (.int 1), none, none, none, none, none, none, none]) (st' := []) (by decide +kernel) rfl ?_
  exact t28 _ hx30

theorem lw_118 {B n c s : Nat} {ρ : gS} {h0 h : jv_H} {K : jK} {zz : Nat} {f : Nat → Int32} (hz : jZ B h0 zz f) (hx : LX B n ρ [] c s h0 h) (T : (∀ h1, LX B n ρ [] c s h0 h1 → jE 271 121 [some (.ref 1000000), some (.ref zz), some (.ref B), some (.int 1), some (.int 0), none, none, none, none, none, none] [] h1 K)) : jE 271 118 [some (.ref 1000000), some (.ref zz), some (.ref B), some (.int 1), none, none, none, none, none, none, none] [] h K := by
  refine jx_blk (by decide) [(.iconst 0, 1), (.istore 4, 2)] (pc' := 121) (Lv' := [some (.ref 1000000), some (.ref zz), some (.ref B), some (.int 1), some (.int 0), none, none, none, none, none, none]) (st' := []) (by decide +kernel) rfl ?_
  exact T _ hx

theorem lw_121 {B n c s : Nat} {ρ : gS} {h0 h : jv_H} {K : jK} {zz : Nat} {f : Nat → Int32} (hz : jZ B h0 zz f) {i : Int32} {r5 r6 r7 r8 r9 r10 : Option Value} (hx : LX B n ρ [] c s h0 h) (T : ((¬ (i + 1) < 6 → (∀ h1, LX B n ρ [] c s h0 h1 → jE 271 597 [some (.ref 1000000), some (.ref zz), some (.ref B), some (.int 1), some (.int i), r5, r6, r7, r8, r9, r10] [] h1 K)) ∧ ((i + 1) < 6 → ((i = 2 → (∀ h1, LX B n ρ [] c s h0 h1 → jE 271 190 [some (.ref 1000000), some (.ref zz), some (.ref B), some (.int 1), some (.int i), r5, r6, r7, r8, r9, r10] [] h1 K)) ∧ (¬ i = 2 → (∀ h1, LX B n ρ [] c s h0 h1 → jE 271 140 [some (.ref 1000000), some (.ref zz), some (.ref B), some (.int 1), some (.int i), r5, r6, r7, r8, r9, r10] [] h1 K)))))) : jE 271 121 [some (.ref 1000000), some (.ref zz), some (.ref B), some (.int 1), some (.int i), r5, r6, r7, r8, r9, r10] [] h K := by
  refine jx_blk (by decide) [(.iload 4, 2), (.iconst 1, 1), (.iadd, 1), (.bipush 6, 2)] (pc' := 127) (Lv' := [some (.ref 1000000), some (.ref zz), some (.ref B), some (.int 1), some (.int i), r5, r6, r7, r8, r9, r10]) (st' := [.int 6, .int (i + 1)]) (by decide +kernel) rfl ?_
  refine jx_ic_ge (off := 470) (b := 597) (by decide) (by decide +kernel) (by decide) (fun e1 => ?_) (fun e1 => ?_)
  · have t2 := T.1 e1
    exact t2 _ hx
  · have t3 := T.2 e1
    refine jx_blk (by decide) [(.iload_n 3, 1)] (pc' := 131) (Lv' := [some (.ref 1000000), some (.ref zz), some (.ref B), some (.int 1), some (.int i), r5, r6, r7, r8, r9, r10]) (st' := [.int 1]) (by decide +kernel) rfl ?_
    refine jx_if_eq (off := 466) (b := 597) (by decide) (by decide +kernel) (by decide) (fun e => absurd e (by decide)) (fun _ => ?_)
    refine jx_blk (by decide) [(.iload 4, 2), (.iconst 2, 1)] (pc' := 137) (Lv' := [some (.ref 1000000), some (.ref zz), some (.ref B), some (.int 1), some (.int i), r5, r6, r7, r8, r9, r10]) (st' := [.int 2, .int i]) (by decide +kernel) rfl ?_
    refine jx_ic_eq (off := 53) (b := 190) (by decide) (by decide +kernel) (by decide) (fun e4 => ?_) (fun e4 => ?_)
    · have t5 := t3.1 e4
      exact t5 _ hx
    · have t6 := t3.2 e4
      exact t6 _ hx

theorem lw_190 {B n c s : Nat} {ρ : gS} {h0 h : jv_H} {K : jK} {zz : Nat} {f : Nat → Int32} (hz : jZ B h0 zz f) {i : Int32} {r5 r6 r7 r8 r9 r10 : Option Value} (hx : LX B n ρ [] c s h0 h) (T : (∀ h1, LX B n ρ [] c s h0 h1 → jE 271 193 [some (.ref 1000000), some (.ref zz), some (.ref B), some (.int 1), some (.int i), some (.int 0), r6, r7, r8, r9, r10] [] h1 K)) : jE 271 190 [some (.ref 1000000), some (.ref zz), some (.ref B), some (.int 1), some (.int i), r5, r6, r7, r8, r9, r10] [] h K := by
  refine jx_blk (by decide) [(.iconst 0, 1), (.istore 5, 2)] (pc' := 193) (Lv' := [some (.ref 1000000), some (.ref zz), some (.ref B), some (.int 1), some (.int i), some (.int 0), r6, r7, r8, r9, r10]) (st' := []) (by decide +kernel) rfl ?_
  exact T _ hx

theorem lw_193 {B n c s : Nat} {ρ : gS} {h0 h : jv_H} {K : jK} {zz : Nat} {f : Nat → Int32} (hz : jZ B h0 zz f) {i t : Int32} {r6 r7 r8 r9 r10 : Option Value} {b : Nat} (hn : n + 1 ≤ 9000) (hb : b ≤ 1000) (hx : LX B n ρ [] (c + 51) (s + 255) h0 h) (T : ((¬ t < 6 → (∀ h1, LX B n ρ [] c s h0 h1 → jE 271 235 [some (.ref 1000000), some (.ref zz), some (.ref B), some (.int 1), some (.int i), some (.int t), r6, r7, r8, r9, r10] [] h1 K)) ∧ (t < 6 → ((0 ≤ i ∧ i.toNatClampNeg < 6) ∧ ((0 ≤ (i + 1) ∧ (i + 1).toNatClampNeg < 6) ∧ ((SQ (RWp b) ρ ∧ ρ 323 8 = 0) ∧ ∀ τ8 n9, n9 ≤ n + 1 → SQ (RWp (b + 4)) τ8 → τ8 323 8 = 0 → (∀ h1, LX B n9 τ8 [] c s h0 h1 → jE 271 193 [some (.ref 1000000), some (.ref zz), some (.ref B), some (.int 1), some (.int i), some (.int (t + 1)), r6, r7, r8, r9, r10] [] h1 K))))))) : jE 271 193 [some (.ref 1000000), some (.ref zz), some (.ref B), some (.int 1), some (.int i), some (.int t), r6, r7, r8, r9, r10] [] h K := by
  refine jx_blk (by decide) [(.iload 5, 2), (.bipush 6, 2)] (pc' := 197) (Lv' := [some (.ref 1000000), some (.ref zz), some (.ref B), some (.int 1), some (.int i), some (.int t), r6, r7, r8, r9, r10]) (st' := [.int 6, .int t]) (by decide +kernel) rfl ?_
  refine jx_ic_ge (off := 38) (b := 235) (by decide) (by decide +kernel) (by decide) (fun e1 => ?_) (fun e1 => ?_)
  · have t2 := T.1 e1
    exact t2 _ (hx.le (by omega) (by omega))
  · have t3 := T.2 e1
    refine jx_blk (by decide) [(.iload_n 3, 1)] (pc' := 201) (Lv' := [some (.ref 1000000), some (.ref zz), some (.ref B), some (.int 1), some (.int i), some (.int t), r6, r7, r8, r9, r10]) (st' := [.int 1]) (by decide +kernel) rfl ?_
    refine jx_if_eq (off := 34) (b := 235) (by decide) (by decide +kernel) (by decide) (fun e => absurd e (by decide)) (fun _ => ?_)
    refine jx_blk (by decide) [(.aload_n 2, 1), (.aload_n 1, 1), (.iload 4, 2)] (pc' := 208) (Lv' := [some (.ref 1000000), some (.ref zz), some (.ref B), some (.int 1), some (.int i), some (.int t), r6, r7, r8, r9, r10]) (st' := [.int i, .ref zz, .ref B]) (by decide +kernel) rfl ?_
    obtain ⟨et4, t4⟩ := t3
    refine lx_ldz (j := i.toNatClampNeg) (by decide) (by decide +kernel) hx hz ⟨rfl, et4.1⟩ et4.2 ?_
    refine jx_blk (by decide) [(.iconst 3, 1), (.iload 5, 2), (.imul, 1), (.ishr, 1), (.aload_n 1, 1), (.iload 4, 2), (.iconst 1, 1), (.iadd, 1)] (pc' := 219) (Lv' := [some (.ref 1000000), some (.ref zz), some (.ref B), some (.int 1), some (.int i), some (.int t), r6, r7, r8, r9, r10]) (st' := [.int (i + 1), .ref zz, .int ((f i.toNatClampNeg) >>> ((3 * t) &&& 31)), .ref B]) (by decide +kernel) rfl ?_
    obtain ⟨et5, t5⟩ := t4
    refine lx_ldz (j := ((i + 1).toNatClampNeg)) (by decide) (by decide +kernel) hx hz ⟨rfl, et5.1⟩ et5.2 ?_
    refine jx_blk (by decide) [(.iconst 2, 1), (.iload 5, 2), (.imul, 1), (.ishr, 1)] (pc' := 225) (Lv' := [some (.ref 1000000), some (.ref zz), some (.ref B), some (.int 1), some (.int i), some (.int t), r6, r7, r8, r9, r10]) (st' := [.int ((f (i + 1).toNatClampNeg) >>> ((2 * t) &&& 31)), .int ((f i.toNatClampNeg) >>> ((3 * t) &&& 31)), .ref B]) (by decide +kernel) rfl ?_
    obtain ⟨e811, t10⟩ := t5
    refine lx_does (b := b) (r := []) (by decide +kernel) hn hb e811.1 e811.2 hx (Nat.le_of_ble_eq_true rfl) (fun h6 τ8 n9 a1 a2 a3 hx7 => ?_)
    have t12 := t10 τ8 n9 a1 a2 a3
    refine jx_blk (by decide) [(.istore_n 3, 1), (.iinc 5 1, 3)] (pc' := 232) (Lv' := [some (.ref 1000000), some (.ref zz), some (.ref B), some (.int 1), some (.int i), some (.int (t + 1)), r6, r7, r8, r9, r10]) (st' := []) (by decide +kernel) rfl ?_
    refine jx_goto (off := (-39)) (b := 193) (by decide) (by decide +kernel) (by decide) ?_
    exact t12 _ hx7

theorem lw_235 {B n c s : Nat} {ρ : gS} {h0 h : jv_H} {K : jK} {zz : Nat} {f : Nat → Int32} (hz : jZ B h0 zz f) {i : Int32} {r5 r6 r7 r8 r9 r10 : Option Value} (sp : SP ρ) (hx : LX B n ρ [] (c + 12) (s + 104) h0 h) (T : ((lg_cmp (hsh ρ) (hsh ρ)) = 0 ∧ ((0 ≤ i ∧ i.toNatClampNeg < 6) ∧ (∀ h1, LX B n ρ [] c s h0 h1 → jE 271 303 [some (.ref 1000000), some (.ref zz), some (.ref B), some (.int 1), some (.int i), some (.long (hsh ρ)), none, some (.int (ρ 324 3)), some (.int (((f i.toNatClampNeg) &&& 255) - ((f i.toNatClampNeg) &&& 255) / 3 * 3)), r9, r10] [] h1 K)))) : jE 271 235 [some (.ref 1000000), some (.ref zz), some (.ref B), some (.int 1), some (.int i), r5, r6, r7, r8, r9, r10] [] h K := by
  refine jx_blk (by decide) [(.iload_n 3, 1)] (pc' := 236) (Lv' := [some (.ref 1000000), some (.ref zz), some (.ref B), some (.int 1), some (.int i), r5, r6, r7, r8, r9, r10]) (st' := [.int 1]) (by decide +kernel) rfl ?_
  refine jx_if_eq (off := 10) (b := 246) (by decide) (by decide +kernel) (by decide) (fun e => absurd e (by decide)) (fun _ => ?_)
  refine jx_blk (by decide) [(.aload_n 2, 1)] (pc' := 240) (Lv' := [some (.ref 1000000), some (.ref zz), some (.ref B), some (.int 1), some (.int i), r5, r6, r7, r8, r9, r10]) (st' := [.ref B]) (by decide +kernel) rfl ?_
  refine lx_m (z := 192) (na := 1) (mL := 5) (v := .long (hsh ρ)) (r := []) [.ref B] (by decide +kernel) hx (lm_state) rfl rfl (Nat.le_of_ble_eq_true rfl) rfl (fun h1 hx2 => ?_)
  refine jx_goto (off := 4) (b := 247) (by decide) (by decide +kernel) (by decide) ?_
  refine jx_blk (by decide) [(.lstore 5, 2), (.iload_n 3, 1)] (pc' := 250) (Lv' := [some (.ref 1000000), some (.ref zz), some (.ref B), some (.int 1), some (.int i), some (.long (hsh ρ)), none, r7, r8, r9, r10]) (st' := [.int 1]) (by decide +kernel) rfl ?_
  refine jx_if_eq (off := 24) (b := 274) (by decide) (by decide +kernel) (by decide) (fun e => absurd e (by decide)) (fun _ => ?_)
  refine jx_blk (by decide) [(.aload_n 2, 1)] (pc' := 254) (Lv' := [some (.ref 1000000), some (.ref zz), some (.ref B), some (.int 1), some (.int i), some (.long (hsh ρ)), none, r7, r8, r9, r10]) (st' := [.ref B]) (by decide +kernel) rfl ?_
  refine lx_m (z := 193) (na := 1) (mL := 19) (v := .int 1) (r := []) [.ref B] (by decide +kernel) hx2 (lm_seats sp) rfl rfl (Nat.le_of_ble_eq_true rfl) rfl (fun h3 hx4 => ?_)
  refine jx_if_eq (off := 17) (b := 274) (by decide) (by decide +kernel) (by decide) (fun e => absurd e (by decide)) (fun _ => ?_)
  refine jx_blk (by decide) [(.aload_n 2, 1)] (pc' := 261) (Lv' := [some (.ref 1000000), some (.ref zz), some (.ref B), some (.int 1), some (.int i), some (.long (hsh ρ)), none, r7, r8, r9, r10]) (st' := [.ref B]) (by decide +kernel) rfl ?_
  refine lx_m (z := 192) (na := 1) (mL := 5) (v := .long (hsh ρ)) (r := []) [.ref B] (by decide +kernel) hx4 (lm_state) rfl rfl (Nat.le_of_ble_eq_true rfl) rfl (fun h5 hx6 => ?_)
  refine jx_blk (by decide) [(.lload 5, 2), (.lcmp, 1)] (pc' := 267) (Lv' := [some (.ref 1000000), some (.ref zz), some (.ref B), some (.int 1), some (.int i), some (.long (hsh ρ)), none, r7, r8, r9, r10]) (st' := [.int (lg_cmp (hsh ρ) (hsh ρ))]) (by decide +kernel) rfl ?_
  refine jx_if_ne (off := 7) (b := 274) (by decide) (by decide +kernel) (by decide) (fun e => absurd T.1 e) (fun _ => ?_)
  have t8 := T.2
  refine jx_blk (by decide) [(.iconst 1, 1)] (pc' := 271) (Lv' := [some (.ref 1000000), some (.ref zz), some (.ref B), some (.int 1), some (.int i), some (.long (hsh ρ)), none, r7, r8, r9, r10]) (st' := [.int 1]) (by decide +kernel) rfl ?_
  refine jx_goto (off := 4) (b := 275) (by decide) (by decide +kernel) (by decide) ?_
  refine jx_blk (by decide) [(.istore_n 3, 1), (.iload_n 3, 1)] (pc' := 277) (Lv' := [some (.ref 1000000), some (.ref zz), some (.ref B), some (.int 1), some (.int i), some (.long (hsh ρ)), none, r7, r8, r9, r10]) (st' := [.int 1]) (by decide +kernel) rfl ?_
  refine jx_if_eq (off := 11) (b := 288) (by decide) (by decide +kernel) (by decide) (fun e => absurd e (by decide)) (fun _ => ?_)
  refine jx_blk (by decide) [(.aload_n 2, 1), (.iconst 3, 1)] (pc' := 282) (Lv' := [some (.ref 1000000), some (.ref zz), some (.ref B), some (.int 1), some (.int i), some (.long (hsh ρ)), none, r7, r8, r9, r10]) (st' := [.int 3, .ref B]) (by decide +kernel) rfl ?_
  refine lx_call (z := 123) (na := 2) (mL := 2) (v := .int (ρ 324 3)) (ρ' := ρ) (r := []) [3] (by decide +kernel) hx6 xr_v3 hx6.1.1 rfl rfl (fun _ => rfl) (Nat.le_of_ble_eq_true rfl) (fun h9 hx10 => ?_)
  refine jx_goto (off := 4) (b := 289) (by decide) (by decide +kernel) (by decide) ?_
  refine jx_blk (by decide) [(.istore 7, 2), (.aload_n 1, 1), (.iload 4, 2)] (pc' := 294) (Lv' := [some (.ref 1000000), some (.ref zz), some (.ref B), some (.int 1), some (.int i), some (.long (hsh ρ)), none, some (.int (ρ 324 3)), r8, r9, r10]) (st' := [.int i, .ref zz]) (by decide +kernel) rfl ?_
  obtain ⟨et11, t11⟩ := t8
  refine lx_ldz (j := i.toNatClampNeg) (by decide) (by decide +kernel) hx10 hz ⟨rfl, et11.1⟩ et11.2 ?_
  refine jx_blk (by decide) [(.sipush 255, 3), (.iand, 1), (.iconst 3, 1), (.irem, 1), (.istore 8, 2)] (pc' := 303) (Lv' := [some (.ref 1000000), some (.ref zz), some (.ref B), some (.int 1), some (.int i), some (.long (hsh ρ)), none, some (.int (ρ 324 3)), some (.int (((f i.toNatClampNeg) &&& 255) - ((f i.toNatClampNeg) &&& 255) / 3 * 3)), r9, r10]) (st' := []) (by decide +kernel) rfl ?_
  exact t11 _ hx10

theorem lw_303 {B n c s : Nat} {ρ : gS} {h0 h : jv_H} {K : jK} {zz : Nat} {f : Nat → Int32} (hz : jZ B h0 zz f) {i m : Int32} {r9 r10 : Option Value} {o : Int64} {t : Nat} (sp : SP ρ) (ht : t < nM (ρ 324)) (hx : LX B n ρ [] (c + 200) (s + 1400) h0 h) (T : ((¬ (iN t) < m → (∀ h1, LX B n ρ [] c s h0 h1 → jE 271 353 [some (.ref 1000000), some (.ref zz), some (.ref B), some (.int 1), some (.int i), some (.long o), none, some (.int m), some (.int (iN t)), r9, r10] [] h1 K)) ∧ ((iN t) < m → ((0 ≤ (i + 1) ∧ (i + 1).toNatClampNeg < 6) ∧ (∀ τ7, Sm ρ τ7 → (∀ τ12, Sm τ7 τ12 → (∀ h1, LX B n τ12 [] c s h0 h1 → jE 271 303 [some (.ref 1000000), some (.ref zz), some (.ref B), some (.int 1), some (.int i), some (.long o), none, some (.int m), some (.int ((iN t) + 3)), r9, r10] [] h1 K))))))) : jE 271 303 [some (.ref 1000000), some (.ref zz), some (.ref B), some (.int 1), some (.int i), some (.long o), none, some (.int m), some (.int (iN t)), r9, r10] [] h K := by
  refine jx_blk (by decide) [(.iload 8, 2), (.iload 7, 2)] (pc' := 307) (Lv' := [some (.ref 1000000), some (.ref zz), some (.ref B), some (.int 1), some (.int i), some (.long o), none, some (.int m), some (.int (iN t)), r9, r10]) (st' := [.int m, .int (iN t)]) (by decide +kernel) rfl ?_
  refine jx_ic_ge (off := 46) (b := 353) (by decide) (by decide +kernel) (by decide) (fun e1 => ?_) (fun e1 => ?_)
  · have t2 := T.1 e1
    exact t2 _ (hx.le (by omega) (by omega))
  · have t3 := T.2 e1
    refine jx_blk (by decide) [(.iload_n 3, 1)] (pc' := 311) (Lv' := [some (.ref 1000000), some (.ref zz), some (.ref B), some (.int 1), some (.int i), some (.long o), none, some (.int m), some (.int (iN t)), r9, r10]) (st' := [.int 1]) (by decide +kernel) rfl ?_
    refine jx_if_eq (off := 42) (b := 353) (by decide) (by decide +kernel) (by decide) (fun e => absurd e (by decide)) (fun _ => ?_)
    refine jx_blk (by decide) [(.aload_n 2, 1), (.iload 8, 2), (.aload_n 1, 1), (.iload 4, 2), (.iconst 1, 1), (.iadd, 1)] (pc' := 322) (Lv' := [some (.ref 1000000), some (.ref zz), some (.ref B), some (.int 1), some (.int i), some (.long o), none, some (.int m), some (.int (iN t)), r9, r10]) (st' := [.int (i + 1), .ref zz, .int (iN t), .ref B]) (by decide +kernel) rfl ?_
    obtain ⟨et4, t4⟩ := t3
    refine lx_ldz (j := ((i + 1).toNatClampNeg)) (by decide) (by decide +kernel) hx hz ⟨rfl, et4.1⟩ et4.2 ?_
    refine jx_blk (by decide) [(.iload 8, 2), (.ishr, 1)] (pc' := 326) (Lv' := [some (.ref 1000000), some (.ref zz), some (.ref B), some (.int 1), some (.int i), some (.long o), none, some (.int m), some (.int (iN t)), r9, r10]) (st' := [.int ((f (i + 1).toNatClampNeg) >>> ((iN t) &&& 31)), .int (iN t), .ref B]) (by decide +kernel) rfl ?_
    refine lx_mx (z := 194) (na := 3) (mL := 16) (v := .int 1) (r := []) [.int ((f (i + 1).toNatClampNeg) >>> ((iN t) &&& 31)), .int (iN t), .ref B] (by decide +kernel) hx (lm_swaps sp ht) rfl rfl (Nat.le_of_ble_eq_true rfl) rfl (fun h5 τ7 sm8 hx6 => ?_)
    have t9 := t4 τ7 sm8
    refine jx_if_eq (off := 16) (b := 345) (by decide) (by decide +kernel) (by decide) (fun e => absurd e (by decide)) (fun _ => ?_)
    refine jx_blk (by decide) [(.aload_n 2, 1), (.iload 8, 2)] (pc' := 335) (Lv' := [some (.ref 1000000), some (.ref zz), some (.ref B), some (.int 1), some (.int i), some (.long o), none, some (.int m), some (.int (iN t)), r9, r10]) (st' := [.int (iN t), .ref B]) (by decide +kernel) rfl ?_
    refine lx_mx (z := 195) (na := 2) (mL := 11) (v := .int 1) (r := []) [.int (iN t), .ref B] (by decide +kernel) hx6 (lm_moves (sm8.sp sp) (show t < nM (τ7 324) by rw [show τ7 324 = ρ 324 from (sm8.1.trans rfl)]; exact ht)) rfl rfl (Nat.le_of_ble_eq_true rfl) rfl (fun h10 τ12 sm13 hx11 => ?_)
    have t14 := t9 τ12 sm13
    refine jx_if_eq (off := 7) (b := 345) (by decide) (by decide +kernel) (by decide) (fun e => absurd e (by decide)) (fun _ => ?_)
    refine jx_blk (by decide) [(.iconst 1, 1)] (pc' := 342) (Lv' := [some (.ref 1000000), some (.ref zz), some (.ref B), some (.int 1), some (.int i), some (.long o), none, some (.int m), some (.int (iN t)), r9, r10]) (st' := [.int 1]) (by decide +kernel) rfl ?_
    refine jx_goto (off := 4) (b := 346) (by decide) (by decide +kernel) (by decide) ?_
    refine jx_blk (by decide) [(.istore_n 3, 1), (.iinc 8 3, 3)] (pc' := 350) (Lv' := [some (.ref 1000000), some (.ref zz), some (.ref B), some (.int 1), some (.int i), some (.long o), none, some (.int m), some (.int ((iN t) + 3)), r9, r10]) (st' := []) (by decide +kernel) rfl ?_
    refine jx_goto (off := (-47)) (b := 303) (by decide) (by decide +kernel) (by decide) ?_
    exact t14 _ hx11

theorem lw_303e {B n c s : Nat} {ρ : gS} {h0 h : jv_H} {K : jK} {zz : Nat} {i m k : Int32} {o : Int64} {r9 r10 : Option Value} (hx : LX B n ρ [] c s h0 h) (hk : ¬ k < m) (T : jE 271 353 [some (.ref 1000000), some (.ref zz), some (.ref B), some (.int 1), some (.int i), some (.long o), none, some (.int m), some (.int k), r9, r10] [] h K) : jE 271 303 [some (.ref 1000000), some (.ref zz), some (.ref B), some (.int 1), some (.int i), some (.long o), none, some (.int m), some (.int k), r9, r10] [] h K := by
  refine jx_blk (by decide) [(.iload 8, 2), (.iload 7, 2)] (pc' := 307) (Lv' := [some (.ref 1000000), some (.ref zz), some (.ref B), some (.int 1), some (.int i), some (.long o), none, some (.int m), some (.int k), r9, r10]) (st' := [.int m, .int k]) (by decide +kernel) rfl ?_
  refine jx_ic_ge (off := 46) (b := 353) (by decide) (by decide +kernel) (by decide) (fun _ => ?_) (fun e => absurd e hk)
  exact T
theorem lw_353 {B n c s : Nat} {ρ : gS} {h0 h : jv_H} {K : jK} {zz : Nat} {f : Nat → Int32} (hz : jZ B h0 zz f) {i m : Int32} {r8 r9 r10 : Option Value} {o : Int64} {b : Nat} (sp : SP ρ) (ti : TI b (ρ 324)) (hb : b ≤ 900) (hx : LX B n ρ [] (c + 16000) (s + 48000) h0 h) (T : ((lg_cmp (hsh ρ) o) = 0 ∧ ((9 < m → ((lg_cmp (hsh ρ) o) = 0 ∧ (∀ τ14, Sm ρ τ14 → ((0 ≤ (i + 1) ∧ (i + 1).toNatClampNeg < 6) ∧ (∀ τ20, Sm τ14 τ20 → (∀ h1, LX B n τ20 [] c s h0 h1 → jE 271 417 [some (.ref 1000000), some (.ref zz), some (.ref B), some (.int 1), some (.int i), some (.long o), none, some (.int m), r8, r9, r10] [] h1 K)))))) ∧ (¬ 9 < m → (∀ τ25, Sm ρ τ25 → ((lg_cmp (hsh τ25) o) = 0 ∧ (∀ τ34, Sm τ25 τ34 → ((0 ≤ (i + 1) ∧ (i + 1).toNatClampNeg < 6) ∧ (∀ τ40, Sm τ34 τ40 → (∀ h1, LX B n τ40 [] c s h0 h1 → jE 271 417 [some (.ref 1000000), some (.ref zz), some (.ref B), some (.int 1), some (.int i), some (.long o), none, some (.int m), r8, r9, r10] [] h1 K)))))))))) : jE 271 353 [some (.ref 1000000), some (.ref zz), some (.ref B), some (.int 1), some (.int i), some (.long o), none, some (.int m), r8, r9, r10] [] h K := by
  refine jx_blk (by decide) [(.iload_n 3, 1)] (pc' := 354) (Lv' := [some (.ref 1000000), some (.ref zz), some (.ref B), some (.int 1), some (.int i), some (.long o), none, some (.int m), r8, r9, r10]) (st' := [.int 1]) (by decide +kernel) rfl ?_
  refine jx_if_eq (off := 61) (b := 415) (by decide) (by decide +kernel) (by decide) (fun e => absurd e (by decide)) (fun _ => ?_)
  refine jx_blk (by decide) [(.aload_n 2, 1)] (pc' := 358) (Lv' := [some (.ref 1000000), some (.ref zz), some (.ref B), some (.int 1), some (.int i), some (.long o), none, some (.int m), r8, r9, r10]) (st' := [.ref B]) (by decide +kernel) rfl ?_
  refine lx_m (z := 192) (na := 1) (mL := 5) (v := .long (hsh ρ)) (r := []) [.ref B] (by decide +kernel) hx (lm_state) rfl rfl (Nat.le_of_ble_eq_true rfl) rfl (fun h1 hx2 => ?_)
  refine jx_blk (by decide) [(.lload 5, 2), (.lcmp, 1)] (pc' := 364) (Lv' := [some (.ref 1000000), some (.ref zz), some (.ref B), some (.int 1), some (.int i), some (.long o), none, some (.int m), r8, r9, r10]) (st' := [.int (lg_cmp (hsh ρ) o)]) (by decide +kernel) rfl ?_
  refine jx_if_ne (off := 51) (b := 415) (by decide) (by decide +kernel) (by decide) (fun e => absurd T.1 e) (fun _ => ?_)
  have t4 := T.2
  refine jx_blk (by decide) [(.iload 7, 2), (.bipush 9, 2)] (pc' := 371) (Lv' := [some (.ref 1000000), some (.ref zz), some (.ref B), some (.int 1), some (.int i), some (.long o), none, some (.int m), r8, r9, r10]) (st' := [.int 9, .int m]) (by decide +kernel) rfl ?_
  refine jx_ic_gt (off := 10) (b := 381) (by decide) (by decide +kernel) (by decide) (fun e5 => ?_) (fun e5 => ?_)
  · have t6 := t4.1 e5
    refine jx_blk (by decide) [(.aload_n 2, 1)] (pc' := 382) (Lv' := [some (.ref 1000000), some (.ref zz), some (.ref B), some (.int 1), some (.int i), some (.long o), none, some (.int m), r8, r9, r10]) (st' := [.ref B]) (by decide +kernel) rfl ?_
    refine lx_m (z := 192) (na := 1) (mL := 5) (v := .long (hsh ρ)) (r := []) [.ref B] (by decide +kernel) hx2 (lm_state) rfl rfl (Nat.le_of_ble_eq_true rfl) rfl (fun h8 hx9 => ?_)
    refine jx_blk (by decide) [(.lload 5, 2), (.lcmp, 1)] (pc' := 388) (Lv' := [some (.ref 1000000), some (.ref zz), some (.ref B), some (.int 1), some (.int i), some (.long o), none, some (.int m), r8, r9, r10]) (st' := [.int (lg_cmp (hsh ρ) o)]) (by decide +kernel) rfl ?_
    refine jx_if_ne (off := 27) (b := 415) (by decide) (by decide +kernel) (by decide) (fun e => absurd t6.1 e) (fun _ => ?_)
    have t11 := t6.2
    refine jx_blk (by decide) [(.aload_n 2, 1)] (pc' := 392) (Lv' := [some (.ref 1000000), some (.ref zz), some (.ref B), some (.int 1), some (.int i), some (.long o), none, some (.int m), r8, r9, r10]) (st' := [.ref B]) (by decide +kernel) rfl ?_
    refine lx_mx (z := 197) (na := 1) (mL := 12) (v := .int 1) (r := []) [.ref B] (by decide +kernel) hx9 (lm_settles sp) rfl rfl (Nat.le_of_ble_eq_true rfl) rfl (fun h12 τ14 sm15 hx13 => ?_)
    have t16 := t11 τ14 sm15
    refine jx_if_eq (off := 20) (b := 415) (by decide) (by decide +kernel) (by decide) (fun e => absurd e (by decide)) (fun _ => ?_)
    refine jx_blk (by decide) [(.aload_n 2, 1), (.aload_n 1, 1), (.iload 4, 2), (.iconst 1, 1), (.iadd, 1)] (pc' := 404) (Lv' := [some (.ref 1000000), some (.ref zz), some (.ref B), some (.int 1), some (.int i), some (.long o), none, some (.int m), r8, r9, r10]) (st' := [.int (i + 1), .ref zz, .ref B]) (by decide +kernel) rfl ?_
    obtain ⟨et17, t17⟩ := t16
    refine lx_ldz (j := ((i + 1).toNatClampNeg)) (by decide) (by decide +kernel) hx13 hz ⟨rfl, et17.1⟩ et17.2 ?_
    refine lx_mx (z := 198) (na := 2) (mL := 14) (v := .int 1) (r := []) [.int (f (i + 1).toNatClampNeg), .ref B] (by decide +kernel) hx13 (lm_stations (sm15.sp sp) (show TI b (τ14 324) by rw [show τ14 324 = ρ 324 from (sm15.1.trans rfl)]; exact ti) hb) rfl rfl (Nat.le_of_ble_eq_true rfl) rfl (fun h18 τ20 sm21 hx19 => ?_)
    have t22 := t17 τ20 sm21
    refine jx_if_eq (off := 7) (b := 415) (by decide) (by decide +kernel) (by decide) (fun e => absurd e (by decide)) (fun _ => ?_)
    refine jx_blk (by decide) [(.iconst 1, 1)] (pc' := 412) (Lv' := [some (.ref 1000000), some (.ref zz), some (.ref B), some (.int 1), some (.int i), some (.long o), none, some (.int m), r8, r9, r10]) (st' := [.int 1]) (by decide +kernel) rfl ?_
    refine jx_goto (off := 4) (b := 416) (by decide) (by decide +kernel) (by decide) ?_
    refine jx_blk (by decide) [(.istore_n 3, 1)] (pc' := 417) (Lv' := [some (.ref 1000000), some (.ref zz), some (.ref B), some (.int 1), some (.int i), some (.long o), none, some (.int m), r8, r9, r10]) (st' := []) (by decide +kernel) rfl ?_
    exact t22 _ (hx19.le (by omega) (by omega))
  · have t7 := t4.2 e5
    refine jx_blk (by decide) [(.aload_n 2, 1)] (pc' := 375) (Lv' := [some (.ref 1000000), some (.ref zz), some (.ref B), some (.int 1), some (.int i), some (.long o), none, some (.int m), r8, r9, r10]) (st' := [.ref B]) (by decide +kernel) rfl ?_
    refine lx_mx (z := 196) (na := 1) (mL := 10) (v := .int 1) (r := []) [.ref B] (by decide +kernel) hx2 (lm_rings sp) rfl rfl (Nat.le_of_ble_eq_true rfl) rfl (fun h23 τ25 sm26 hx24 => ?_)
    have t27 := t7 τ25 sm26
    refine jx_if_eq (off := 37) (b := 415) (by decide) (by decide +kernel) (by decide) (fun e => absurd e (by decide)) (fun _ => ?_)
    refine jx_blk (by decide) [(.aload_n 2, 1)] (pc' := 382) (Lv' := [some (.ref 1000000), some (.ref zz), some (.ref B), some (.int 1), some (.int i), some (.long o), none, some (.int m), r8, r9, r10]) (st' := [.ref B]) (by decide +kernel) rfl ?_
    refine lx_m (z := 192) (na := 1) (mL := 5) (v := .long (hsh τ25)) (r := []) [.ref B] (by decide +kernel) hx24 (lm_state) rfl rfl (Nat.le_of_ble_eq_true rfl) rfl (fun h28 hx29 => ?_)
    refine jx_blk (by decide) [(.lload 5, 2), (.lcmp, 1)] (pc' := 388) (Lv' := [some (.ref 1000000), some (.ref zz), some (.ref B), some (.int 1), some (.int i), some (.long o), none, some (.int m), r8, r9, r10]) (st' := [.int (lg_cmp (hsh τ25) o)]) (by decide +kernel) rfl ?_
    refine jx_if_ne (off := 27) (b := 415) (by decide) (by decide +kernel) (by decide) (fun e => absurd t27.1 e) (fun _ => ?_)
    have t31 := t27.2
    refine jx_blk (by decide) [(.aload_n 2, 1)] (pc' := 392) (Lv' := [some (.ref 1000000), some (.ref zz), some (.ref B), some (.int 1), some (.int i), some (.long o), none, some (.int m), r8, r9, r10]) (st' := [.ref B]) (by decide +kernel) rfl ?_
    refine lx_mx (z := 197) (na := 1) (mL := 12) (v := .int 1) (r := []) [.ref B] (by decide +kernel) hx29 (lm_settles (sm26.sp sp)) rfl rfl (Nat.le_of_ble_eq_true rfl) rfl (fun h32 τ34 sm35 hx33 => ?_)
    have t36 := t31 τ34 sm35
    refine jx_if_eq (off := 20) (b := 415) (by decide) (by decide +kernel) (by decide) (fun e => absurd e (by decide)) (fun _ => ?_)
    refine jx_blk (by decide) [(.aload_n 2, 1), (.aload_n 1, 1), (.iload 4, 2), (.iconst 1, 1), (.iadd, 1)] (pc' := 404) (Lv' := [some (.ref 1000000), some (.ref zz), some (.ref B), some (.int 1), some (.int i), some (.long o), none, some (.int m), r8, r9, r10]) (st' := [.int (i + 1), .ref zz, .ref B]) (by decide +kernel) rfl ?_
    obtain ⟨et37, t37⟩ := t36
    refine lx_ldz (j := ((i + 1).toNatClampNeg)) (by decide) (by decide +kernel) hx33 hz ⟨rfl, et37.1⟩ et37.2 ?_
    refine lx_mx (z := 198) (na := 2) (mL := 14) (v := .int 1) (r := []) [.int (f (i + 1).toNatClampNeg), .ref B] (by decide +kernel) hx33 (lm_stations (sm35.sp (sm26.sp sp)) (show TI b (τ34 324) by rw [show τ34 324 = ρ 324 from (sm35.1.trans (sm26.1.trans rfl))]; exact ti) hb) rfl rfl (Nat.le_of_ble_eq_true rfl) rfl (fun h38 τ40 sm41 hx39 => ?_)
    have t42 := t37 τ40 sm41
    refine jx_if_eq (off := 7) (b := 415) (by decide) (by decide +kernel) (by decide) (fun e => absurd e (by decide)) (fun _ => ?_)
    refine jx_blk (by decide) [(.iconst 1, 1)] (pc' := 412) (Lv' := [some (.ref 1000000), some (.ref zz), some (.ref B), some (.int 1), some (.int i), some (.long o), none, some (.int m), r8, r9, r10]) (st' := [.int 1]) (by decide +kernel) rfl ?_
    refine jx_goto (off := 4) (b := 416) (by decide) (by decide +kernel) (by decide) ?_
    refine jx_blk (by decide) [(.istore_n 3, 1)] (pc' := 417) (Lv' := [some (.ref 1000000), some (.ref zz), some (.ref B), some (.int 1), some (.int i), some (.long o), none, some (.int m), r8, r9, r10]) (st' := []) (by decide +kernel) rfl ?_
    exact t42 _ hx39

theorem lw_417 {B n c s : Nat} {ρ : gS} {h0 h : jv_H} {K : jK} {zz : Nat} {f : Nat → Int32} (hz : jZ B h0 zz f) {i m : Int32} {r8 r9 r10 : Option Value} {o : Int64} (hx : LX B n ρ [] c s h0 h) (T : ((i < 4 → (∀ h1, LX B n ρ [] c s h0 h1 → jE 271 591 [some (.ref 1000000), some (.ref zz), some (.ref B), some (.int 1), some (.int i), some (.long o), none, some (.int m), r8, r9, r10] [] h1 K)) ∧ (¬ i < 4 → (∀ h1, LX B n ρ [] c s h0 h1 → jE 271 430 [some (.ref 1000000), some (.ref zz), some (.ref B), some (.int 1), some (.int i), some (.long o), none, some (.int m), r8, r9, r10] [] h1 K)))) : jE 271 417 [some (.ref 1000000), some (.ref zz), some (.ref B), some (.int 1), some (.int i), some (.long o), none, some (.int m), r8, r9, r10] [] h K := by
  refine jx_blk (by decide) [(.iload 4, 2), (.iconst 4, 1)] (pc' := 420) (Lv' := [some (.ref 1000000), some (.ref zz), some (.ref B), some (.int 1), some (.int i), some (.long o), none, some (.int m), r8, r9, r10]) (st' := [.int 4, .int i]) (by decide +kernel) rfl ?_
  refine jx_ic_lt (off := 171) (b := 591) (by decide) (by decide +kernel) (by decide) (fun e1 => ?_) (fun e1 => ?_)
  · have t2 := T.1 e1
    exact t2 _ hx
  · have t3 := T.2 e1
    refine jx_blk (by decide) [(.iload_n 3, 1)] (pc' := 424) (Lv' := [some (.ref 1000000), some (.ref zz), some (.ref B), some (.int 1), some (.int i), some (.long o), none, some (.int m), r8, r9, r10]) (st' := [.int 1]) (by decide +kernel) rfl ?_
    refine jx_if_ne (off := 6) (b := 430) (by decide) (by decide +kernel) (by decide) (fun _ => ?_) (fun e => absurd e (by decide))
    exact t3 _ hx

theorem lw_591 {B n c s : Nat} {ρ : gS} {h0 h : jv_H} {K : jK} {zz : Nat} {f : Nat → Int32} (hz : jZ B h0 zz f) {i : Int32} {r5 r6 r7 r8 r9 r10 : Option Value} (hx : LX B n ρ [] c s h0 h) (T : (∀ h1, LX B n ρ [] c s h0 h1 → jE 271 121 [some (.ref 1000000), some (.ref zz), some (.ref B), some (.int 1), some (.int (i + 2)), r5, r6, r7, r8, r9, r10] [] h1 K)) : jE 271 591 [some (.ref 1000000), some (.ref zz), some (.ref B), some (.int 1), some (.int i), r5, r6, r7, r8, r9, r10] [] h K := by
  refine jx_blk (by decide) [(.iinc 4 2, 3)] (pc' := 594) (Lv' := [some (.ref 1000000), some (.ref zz), some (.ref B), some (.int 1), some (.int (i + 2)), r5, r6, r7, r8, r9, r10]) (st' := []) (by decide +kernel) rfl ?_
  refine jx_goto (off := (-473)) (b := 121) (by decide) (by decide +kernel) (by decide) ?_
  exact T _ hx

theorem lw_140 {B n c s p : Nat} {ρ : gS} {h0 h : jv_H} {K : jK} {zz : Nat} {f : Nat → Int32} (hz : jZ B h0 zz f) {i : Int32} {r5 r6 r7 r8 r9 r10 : Option Value} (ei : i.toNatClampNeg = p) (h0i : 0 ≤ i) (ei1 : (i + 1).toNatClampNeg = p + 1) (h0i1 : 0 ≤ i + 1) (hp : p + 1 < 6) (h8 : ρ 323 8 = 0) (hx : LX B n ρ [] ((c + 51) + 8020) ((s + 255) + 20100) h0 h) (T : ∀ (τ : gS) (h1 : jv_H), SQ (RWp 0) τ → τ 323 8 = 0 → LX B n τ [] c s h0 h1 → jE 271 190 [some (.ref 1000000), some (.ref zz), some (.ref B), some (.int 1), some (.int i), r5, r6, r7, r8, r9, r10] [] h1 K) : jE 271 140 [some (.ref 1000000), some (.ref zz), some (.ref B), some (.int 1), some (.int i), r5, r6, r7, r8, r9, r10] [] h K := by
  obtain ⟨R, F, l, hR, ok, ew, hl, hl13⟩ := rec_T (f p) (f (p + 1))
  refine jx_blk (by decide) [(.aload_n 2, 1), (.aload_n 1, 1), (.iload 4, 2)] (pc' := 144) (Lv' := [some (.ref 1000000), some (.ref zz), some (.ref B), some (.int 1), some (.int i), r5, r6, r7, r8, r9, r10]) (st' := [.int i, .ref zz, .ref B]) (by decide +kernel) rfl ?_
  refine lx_ldz (j := p) (by decide) (by decide +kernel) hx hz ⟨ei, h0i⟩ (by omega) ?_
  show jE 271 145 [some (.ref 1000000), some (.ref zz), some (.ref B), some (.int 1), some (.int i), r5, r6, r7, r8, r9, r10] [.int (f p), .ref B] _ K
  refine jx_blk (by decide) [(.aload_n 1, 1), (.iload 4, 2), (.iconst 1, 1), (.iadd, 1)] (pc' := 150) (Lv' := [some (.ref 1000000), some (.ref zz), some (.ref B), some (.int 1), some (.int i), r5, r6, r7, r8, r9, r10]) (st' := [.int (i + 1), .ref zz, .int (f p), .ref B]) (by decide +kernel) rfl ?_
  refine lx_ldz (j := (p + 1)) (by decide) (by decide +kernel) hx hz ⟨ei1, h0i1⟩ (by omega) ?_
  show jE 271 151 [some (.ref 1000000), some (.ref zz), some (.ref B), some (.int 1), some (.int i), r5, r6, r7, r8, r9, r10] [.int (f (p + 1)), .int (f p), .ref B] _ K
  refine lx_train (by decide +kernel) hx (Nat.le_of_ble_eq_true rfl) (fun a h1 t1 t2 hx1 => ?_)
  refine lx_feeds (l := fun j => ((recW (f p) (f (p + 1))).getD j 0).toNatClampNeg) (by decide +kernel) hx1 hl t2 t1.2.2.2.2.2.nat h8 (Nat.le_of_ble_eq_true rfl) (fun h2 τ fd hx2 => ?_)
  refine jx_if_eq (off := 31) (b := 188) (by decide) (by decide +kernel) (by decide) (fun e => absurd e (by decide)) (fun _ => ?_)
  refine jx_blk (by decide) [(.aload_n 2, 1)] (pc' := 161) (Lv' := [some (.ref 1000000), some (.ref zz), some (.ref B), some (.int 1), some (.int i), r5, r6, r7, r8, r9, r10]) (st' := [.ref B]) (by decide +kernel) rfl ?_
  have ont := fd.on hl
  rw [ew] at ont
  refine lx_callE (z := 110) (na := 1) (mL := 3) (by decide +kernel) hx2 (xe_load ok ont) hx2.1.1 rfl rfl (fun _ => rfl) (Nat.le_of_ble_eq_true rfl) (fun h3 κ ld hx3 => ?_)
  refine jx_if_lt (off := 24) (b := 188) (by decide) (by decide +kernel) (by decide) (fun e => absurd e (Int32.not_lt.mpr ((iN_le (k := 0) (by decide) (by have := ok.1.2.2; omega)).mpr (Nat.zero_le _)))) (fun _ => ?_)
  refine jx_blk (by decide) [(.aload_n 2, 1)] (pc' := 168) (Lv' := [some (.ref 1000000), some (.ref zz), some (.ref B), some (.int 1), some (.int i), r5, r6, r7, r8, r9, r10]) (st' := [.ref B]) (by decide +kernel) rfl ?_
  refine lx_call (z := 111) (na := 1) (mL := 1) (v := .int (κ 323 9)) (ρ' := κ) (r := []) [] (by decide +kernel) hx3 xr_errorPosition hx3.1.1 rfl rfl (fun _ => rfl) (Nat.le_of_ble_eq_true rfl) (fun h4 hx4 => ?_)
  refine jx_blk (by decide) [(.bipush (-2), 2)] (pc' := 173) (Lv' := [some (.ref 1000000), some (.ref zz), some (.ref B), some (.int 1), some (.int i), r5, r6, r7, r8, r9, r10]) (st' := [.int (-2), .int (κ 323 9)]) (by decide +kernel) rfl ?_
  refine jx_ic_ne (off := 15) (b := 188) (by decide) (by decide +kernel) (by decide) (fun e => absurd ld.1.2.1 e) (fun _ => ?_)
  refine jx_blk (by decide) [(.aload_n 2, 1)] (pc' := 177) (Lv' := [some (.ref 1000000), some (.ref zz), some (.ref B), some (.int 1), some (.int i), r5, r6, r7, r8, r9, r10]) (st' := [.ref B]) (by decide +kernel) rfl ?_
  refine lx_call (z := 122) (na := 1) (mL := 1) (v := .int (if κ 323 6 = 0 then -1 else κ 323 6 - 1)) (ρ' := hUn κ) (r := []) [] (by decide +kernel) hx4 xr_undo hx4.1.1 rfl rfl (fun _ => rfl) (Nat.le_of_ble_eq_true rfl) (fun h5 hx5 => ?_)
  refine jx_blk (by decide) [(.iconst (-1), 1)] (pc' := 181) (Lv' := [some (.ref 1000000), some (.ref zz), some (.ref B), some (.int 1), some (.int i), r5, r6, r7, r8, r9, r10]) (st' := [.int (-1), .int (if κ 323 6 = 0 then -1 else κ 323 6 - 1)]) (by decide +kernel) rfl ?_
  refine jx_ic_ne (off := 7) (b := 188) (by decide) (by decide +kernel) (by decide) (fun e => absurd (if_pos ld.1.1.2) e) (fun _ => ?_)
  refine jx_blk (by decide) [(.iconst 1, 1)] (pc' := 185) (Lv' := [some (.ref 1000000), some (.ref zz), some (.ref B), some (.int 1), some (.int i), r5, r6, r7, r8, r9, r10]) (st' := [.int 1]) (by decide +kernel) rfl ?_
  refine jx_goto (off := 4) (b := 189) (by decide) (by decide +kernel) (by decide) ?_
  refine jx_blk (by decide) [(.istore_n 3, 1)] (pc' := 190) (Lv' := [some (.ref 1000000), some (.ref zz), some (.ref B), some (.int 1), some (.int i), r5, r6, r7, r8, r9, r10]) (st' := []) (by decide +kernel) rfl ?_
  rw [hUn_0 ld.1.1.2] at hx5
  exact T κ _ (ld.sq ok) ld.1.1.1 hx5
