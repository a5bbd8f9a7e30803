/-! rings(x) -/
theorem rg_0 {B n c s : Nat} {ρ : gS} {h0 h : jv_H} {K : jK} (hx : LX B n ρ [] c s h0 h) (T : (∀ h1, LX B n ρ [] c s h0 h1 → jE 196 13 [some (.ref B), some (.int (ρ 324 3)), some (.int 0), some (.int 1), some (.int 0), none, none, none, none, none] [] h1 K)) : jE 196 0 [some (.ref B), none, none, none, none, none, none, none, none, none] [] h K := by
  refine jx_blk (by decide) [(.aload_n 0, 1), (.iconst 3, 1)] (pc' := 2) (Lv' := [some (.ref B), none, none, none, none, none, none, none, none, none]) (st' := [.int 3, .ref B]) (by decide +kernel) rfl ?_
  refine lx_call (z := 123) (na := 2) (mL := 2) (v := .int (ρ 324 3)) (ρ' := ρ) (r := []) [3] (by decide +kernel) hx xr_v3 hx.1.1 rfl rfl (fun _ => rfl) (Nat.le_of_ble_eq_true rfl) (fun h1 hx2 => ?_)
  refine jx_blk (by decide) [(.istore_n 1, 1), (.iconst 0, 1), (.istore_n 2, 1), (.iconst 1, 1), (.istore_n 3, 1), (.iconst 0, 1), (.istore 4, 2)] (pc' := 13) (Lv' := [some (.ref B), some (.int (ρ 324 3)), some (.int 0), some (.int 1), some (.int 0), none, none, none, none, none]) (st' := []) (by decide +kernel) rfl ?_
  exact T _ hx2

theorem rg_13 {B n c s : Nat} {ρ : gS} {h0 h : jv_H} {K : jK} {m y a : Int32} {r5 r6 r7 r8 r9 : Option Value} (hx : LX B n ρ [] c s h0 h) (T : ((¬ a < m → ((fRi (ρ 324)) = y ∧ (∀ h1, LX B n ρ [] c s h0 h1 → K (some (.int 1)) h1))) ∧ (a < m → (∀ h1, LX B n ρ [] c s h0 h1 → jE 196 29 [some (.ref B), some (.int m), some (.int y), some (.int 1), some (.int a), some (.int (a + 1)), r6, r7, r8, r9] [] h1 K)))) : jE 196 13 [some (.ref B), some (.int m), some (.int y), some (.int 1), some (.int a), r5, r6, r7, r8, r9] [] h K := by
  refine jx_blk (by decide) [(.iload 4, 2), (.iload_n 1, 1)] (pc' := 16) (Lv' := [some (.ref B), some (.int m), some (.int y), some (.int 1), some (.int a), r5, r6, r7, r8, r9]) (st' := [.int m, .int a]) (by decide +kernel) rfl ?_
  refine jx_ic_ge (off := 334) (b := 350) (by decide) (by decide +kernel) (by decide) (fun e1 => ?_) (fun e1 => ?_)
  · have t2 := T.1 e1
    refine jx_blk (by decide) [(.iload_n 3, 1)] (pc' := 351) (Lv' := [some (.ref B), some (.int m), some (.int y), some (.int 1), some (.int a), r5, r6, r7, r8, r9]) (st' := [.int 1]) (by decide +kernel) rfl ?_
    refine jx_if_eq (off := 15) (b := 366) (by decide) (by decide +kernel) (by decide) (fun e => absurd e (by decide)) (fun _ => ?_)
    refine jx_blk (by decide) [(.aload_n 0, 1)] (pc' := 355) (Lv' := [some (.ref B), some (.int m), some (.int y), some (.int 1), some (.int a), r5, r6, r7, r8, r9]) (st' := [.ref B]) (by decide +kernel) rfl ?_
    refine lx_call (z := 137) (na := 1) (mL := 1) (v := .int (fRi (ρ 324))) (ρ' := ρ) (r := []) [] (by decide +kernel) hx xr_rings hx.1.1 rfl rfl (fun _ => rfl) (Nat.le_of_ble_eq_true rfl) (fun h4 hx5 => ?_)
    refine jx_blk (by decide) [(.iload_n 2, 1)] (pc' := 359) (Lv' := [some (.ref B), some (.int m), some (.int y), some (.int 1), some (.int a), r5, r6, r7, r8, r9]) (st' := [.int y, .int (fRi (ρ 324))]) (by decide +kernel) rfl ?_
    refine jx_ic_ne (off := 7) (b := 366) (by decide) (by decide +kernel) (by decide) (fun e => absurd t2.1 e) (fun _ => ?_)
    have t7 := t2.2
    refine jx_blk (by decide) [(.iconst 1, 1)] (pc' := 363) (Lv' := [some (.ref B), some (.int m), some (.int y), some (.int 1), some (.int a), r5, r6, r7, r8, r9]) (st' := [.int 1]) (by decide +kernel) rfl ?_
    refine jx_goto (off := 4) (b := 367) (by decide) (by decide +kernel) (by decide) ?_
    exact jx_zret (by decide) (by decide +kernel) (by decide +kernel) (Or.inr rfl) (t7 _ hx5)
  · have t3 := T.2 e1
    refine jx_blk (by decide) [(.iload_n 3, 1)] (pc' := 20) (Lv' := [some (.ref B), some (.int m), some (.int y), some (.int 1), some (.int a), r5, r6, r7, r8, r9]) (st' := [.int 1]) (by decide +kernel) rfl ?_
    refine jx_if_eq (off := 330) (b := 350) (by decide) (by decide +kernel) (by decide) (fun e => absurd e (by decide)) (fun _ => ?_)
    refine jx_blk (by decide) [(.iload 4, 2), (.iconst 1, 1), (.iadd, 1), (.istore 5, 2)] (pc' := 29) (Lv' := [some (.ref B), some (.int m), some (.int y), some (.int 1), some (.int a), some (.int (a + 1)), r6, r7, r8, r9]) (st' := []) (by decide +kernel) rfl ?_
    exact t3 _ hx

theorem rg_29 {B n c s : Nat} {ρ : gS} {h0 h : jv_H} {K : jK} {m y a b : Int32} {r6 r7 r8 r9 : Option Value} (hx : LX B n ρ [] c s h0 h) (T : ((¬ b < m → (∀ h1, LX B n ρ [] c s h0 h1 → jE 196 13 [some (.ref B), some (.int m), some (.int y), some (.int 1), some (.int (a + 1)), some (.int b), r6, r7, r8, r9] [] h1 K)) ∧ (b < m → (∀ h1, LX B n ρ [] c s h0 h1 → jE 196 45 [some (.ref B), some (.int m), some (.int y), some (.int 1), some (.int a), some (.int b), some (.int (a + 1)), r7, r8, r9] [] h1 K)))) : jE 196 29 [some (.ref B), some (.int m), some (.int y), some (.int 1), some (.int a), some (.int b), r6, r7, r8, r9] [] h K := by
  refine jx_blk (by decide) [(.iload 5, 2), (.iload_n 1, 1)] (pc' := 32) (Lv' := [some (.ref B), some (.int m), some (.int y), some (.int 1), some (.int a), some (.int b), r6, r7, r8, r9]) (st' := [.int m, .int b]) (by decide +kernel) rfl ?_
  refine jx_ic_ge (off := 312) (b := 344) (by decide) (by decide +kernel) (by decide) (fun e1 => ?_) (fun e1 => ?_)
  · have t2 := T.1 e1
    refine jx_blk (by decide) [(.iinc 4 1, 3)] (pc' := 347) (Lv' := [some (.ref B), some (.int m), some (.int y), some (.int 1), some (.int (a + 1)), some (.int b), r6, r7, r8, r9]) (st' := []) (by decide +kernel) rfl ?_
    refine jx_goto (off := (-334)) (b := 13) (by decide) (by decide +kernel) (by decide) ?_
    exact t2 _ hx
  · have t3 := T.2 e1
    refine jx_blk (by decide) [(.iload_n 3, 1)] (pc' := 36) (Lv' := [some (.ref B), some (.int m), some (.int y), some (.int 1), some (.int a), some (.int b), r6, r7, r8, r9]) (st' := [.int 1]) (by decide +kernel) rfl ?_
    refine jx_if_eq (off := 308) (b := 344) (by decide) (by decide +kernel) (by decide) (fun e => absurd e (by decide)) (fun _ => ?_)
    refine jx_blk (by decide) [(.iload 4, 2), (.iconst 1, 1), (.iadd, 1), (.istore 6, 2)] (pc' := 45) (Lv' := [some (.ref B), some (.int m), some (.int y), some (.int 1), some (.int a), some (.int b), some (.int (a + 1)), r7, r8, r9]) (st' := []) (by decide +kernel) rfl ?_
    exact t3 _ hx

theorem rg_45 {B n c s : Nat} {ρ : gS} {h0 h : jv_H} {K : jK} {m y a b d : Int32} {r7 r8 r9 : Option Value} (hx : LX B n ρ [] c s h0 h) (T : ((¬ d < m → (∀ h1, LX B n ρ [] c s h0 h1 → jE 196 29 [some (.ref B), some (.int m), some (.int y), some (.int 1), some (.int a), some (.int (b + 1)), some (.int d), r7, r8, r9] [] h1 K)) ∧ (d < m → ((¬ b = d → (∀ h1, LX B n ρ [] c s h0 h1 → jE 196 65 [some (.ref B), some (.int m), some (.int y), some (.int 1), some (.int a), some (.int b), some (.int d), r7, r8, r9] [] h1 K)) ∧ (b = d → (∀ h1, LX B n ρ [] c s h0 h1 → jE 196 45 [some (.ref B), some (.int m), some (.int y), some (.int 1), some (.int a), some (.int b), some (.int (d + 1)), r7, r8, r9] [] h1 K)))))) : jE 196 45 [some (.ref B), some (.int m), some (.int y), some (.int 1), some (.int a), some (.int b), some (.int d), r7, r8, r9] [] h K := by
  refine jx_blk (by decide) [(.iload 6, 2), (.iload_n 1, 1)] (pc' := 48) (Lv' := [some (.ref B), some (.int m), some (.int y), some (.int 1), some (.int a), some (.int b), some (.int d), r7, r8, r9]) (st' := [.int m, .int d]) (by decide +kernel) rfl ?_
  refine jx_ic_ge (off := 290) (b := 338) (by decide) (by decide +kernel) (by decide) (fun e1 => ?_) (fun e1 => ?_)
  · have t2 := T.1 e1
    refine jx_blk (by decide) [(.iinc 5 1, 3)] (pc' := 341) (Lv' := [some (.ref B), some (.int m), some (.int y), some (.int 1), some (.int a), some (.int (b + 1)), some (.int d), r7, r8, r9]) (st' := []) (by decide +kernel) rfl ?_
    refine jx_goto (off := (-312)) (b := 29) (by decide) (by decide +kernel) (by decide) ?_
    exact t2 _ hx
  · have t3 := T.2 e1
    refine jx_blk (by decide) [(.iload_n 3, 1)] (pc' := 52) (Lv' := [some (.ref B), some (.int m), some (.int y), some (.int 1), some (.int a), some (.int b), some (.int d), r7, r8, r9]) (st' := [.int 1]) (by decide +kernel) rfl ?_
    refine jx_if_eq (off := 286) (b := 338) (by decide) (by decide +kernel) (by decide) (fun e => absurd e (by decide)) (fun _ => ?_)
    refine jx_blk (by decide) [(.iload 5, 2), (.iload 6, 2)] (pc' := 59) (Lv' := [some (.ref B), some (.int m), some (.int y), some (.int 1), some (.int a), some (.int b), some (.int d), r7, r8, r9]) (st' := [.int d, .int b]) (by decide +kernel) rfl ?_
    refine jx_ic_ne (off := 6) (b := 65) (by decide) (by decide +kernel) (by decide) (fun e4 => ?_) (fun e4 => ?_)
    · have t5 := t3.1 e4
      exact t5 _ hx
    · have t6 := t3.2 e4
      refine jx_goto (off := 270) (b := 332) (by decide) (by decide +kernel) (by decide) ?_
      refine jx_blk (by decide) [(.iinc 6 1, 3)] (pc' := 335) (Lv' := [some (.ref B), some (.int m), some (.int y), some (.int 1), some (.int a), some (.int b), some (.int (d + 1)), r7, r8, r9]) (st' := []) (by decide +kernel) rfl ?_
      refine jx_goto (off := (-290)) (b := 45) (by decide) (by decide +kernel) (by decide) ?_
      exact t6 _ hx

theorem rg_65 {B n c s : Nat} {ρ : gS} {h0 h : jv_H} {K : jK} {m y a b d : Int32} {r7 r8 r9 : Option Value} (hx : LX B n ρ [] (c + 2) (s + 6) h0 h) (T : (∀ q1 : Nat, (∀ q17 : Nat, (∀ h1, LX B n (hOp ρ (gRin (ρ 324) a b d) (nRin (ρ 324) a b d)) [(q17, 3, (upd (upd (upd (fun _ => 0) 0 (vO9 (ρ 324) a)) 1 (vO9 (ρ 324) b)) 2 (vO9 (ρ 324) d))), (q1, 3, (upd (upd (upd (fun _ => 0) 0 (vO (ρ 324) a 0)) 1 (vO (ρ 324) b 0)) 2 (vO (ρ 324) d 0)))] c s h0 h1 → jE 196 148 [some (.ref B), some (.int m), some (.int y), some (.int 1), some (.int a), some (.int b), some (.int d), some (.ref q1), some (.ref q17), r9] [.int (aRin (ρ 324) a b d)] h1 K)))) : jE 196 65 [some (.ref B), some (.int m), some (.int y), some (.int 1), some (.int a), some (.int b), some (.int d), r7, r8, r9] [] h K := by
  refine jx_blk (by decide) [(.iconst 3, 1)] (pc' := 66) (Lv' := [some (.ref B), some (.int m), some (.int y), some (.int 1), some (.int a), some (.int b), some (.int d), r7, r8, r9]) (st' := [.int 3]) (by decide +kernel) rfl ?_
  refine lx_newi (k := 3) (by decide) (by decide +kernel) (by decide) hx (fun q1 h2 hx3 => ?_)
  have t4 := T q1
  refine jx_blk (by decide) [(.dup, 1), (.iconst 0, 1), (.aload_n 0, 1), (.iload 4, 2), (.iconst 0, 1)] (pc' := 74) (Lv' := [some (.ref B), some (.int m), some (.int y), some (.int 1), some (.int a), some (.int b), some (.int d), r7, r8, r9]) (st' := [.int 0, .int a, .ref B, .int 0, .ref q1, .ref q1]) (by decide +kernel) rfl ?_
  refine lx_call (z := 124) (na := 3) (mL := 4) (v := .int (vO (ρ 324) a 0)) (ρ' := ρ) (r := [.int 0, .ref q1, .ref q1]) [0, a] (by decide +kernel) hx3 xr_o0 hx3.1.1 rfl rfl (fun _ => rfl) (Nat.le_of_ble_eq_true rfl) (fun h5 hx6 => ?_)
  refine lx_st (j := 0) (by decide) (by decide +kernel) hx6 (i := 0) rfl (by decide) (by decide) (A' := [(q1, 3, (upd (fun _ => 0) 0 (vO (ρ 324) a 0)))]) rfl (fun h7 hx8 => ?_)
  refine jx_blk (by decide) [(.dup, 1), (.iconst 1, 1), (.aload_n 0, 1), (.iload 5, 2), (.iconst 0, 1)] (pc' := 84) (Lv' := [some (.ref B), some (.int m), some (.int y), some (.int 1), some (.int a), some (.int b), some (.int d), r7, r8, r9]) (st' := [.int 0, .int b, .ref B, .int 1, .ref q1, .ref q1]) (by decide +kernel) rfl ?_
  refine lx_call (z := 124) (na := 3) (mL := 4) (v := .int (vO (ρ 324) b 0)) (ρ' := ρ) (r := [.int 1, .ref q1, .ref q1]) [0, b] (by decide +kernel) hx8 xr_o0 hx8.1.1 rfl rfl (fun _ => rfl) (Nat.le_of_ble_eq_true rfl) (fun h9 hx10 => ?_)
  refine lx_st (j := 1) (by decide) (by decide +kernel) hx10 (i := 0) rfl (by decide) (by decide) (A' := [(q1, 3, (upd (upd (fun _ => 0) 0 (vO (ρ 324) a 0)) 1 (vO (ρ 324) b 0)))]) rfl (fun h11 hx12 => ?_)
  refine jx_blk (by decide) [(.dup, 1), (.iconst 2, 1), (.aload_n 0, 1), (.iload 6, 2), (.iconst 0, 1)] (pc' := 94) (Lv' := [some (.ref B), some (.int m), some (.int y), some (.int 1), some (.int a), some (.int b), some (.int d), r7, r8, r9]) (st' := [.int 0, .int d, .ref B, .int 2, .ref q1, .ref q1]) (by decide +kernel) rfl ?_
  refine lx_call (z := 124) (na := 3) (mL := 4) (v := .int (vO (ρ 324) d 0)) (ρ' := ρ) (r := [.int 2, .ref q1, .ref q1]) [0, d] (by decide +kernel) hx12 xr_o0 hx12.1.1 rfl rfl (fun _ => rfl) (Nat.le_of_ble_eq_true rfl) (fun h13 hx14 => ?_)
  refine lx_st (j := 2) (by decide) (by decide +kernel) hx14 (i := 0) rfl (by decide) (by decide) (A' := [(q1, 3, (upd (upd (upd (fun _ => 0) 0 (vO (ρ 324) a 0)) 1 (vO (ρ 324) b 0)) 2 (vO (ρ 324) d 0)))]) rfl (fun h15 hx16 => ?_)
  refine jx_blk (by decide) [(.astore 7, 2), (.iconst 3, 1)] (pc' := 101) (Lv' := [some (.ref B), some (.int m), some (.int y), some (.int 1), some (.int a), some (.int b), some (.int d), some (.ref q1), r8, r9]) (st' := [.int 3]) (by decide +kernel) rfl ?_
  refine lx_newi (k := 3) (by decide) (by decide +kernel) (by decide) hx16 (fun q17 h18 hx19 => ?_)
  have t20 := t4 q17
  refine jx_blk (by decide) [(.dup, 1), (.iconst 0, 1), (.aload_n 0, 1), (.iload 4, 2), (.bipush 9, 2)] (pc' := 110) (Lv' := [some (.ref B), some (.int m), some (.int y), some (.int 1), some (.int a), some (.int b), some (.int d), some (.ref q1), r8, r9]) (st' := [.int 9, .int a, .ref B, .int 0, .ref q17, .ref q17]) (by decide +kernel) rfl ?_
  refine lx_call (z := 124) (na := 3) (mL := 4) (v := .int (vO9 (ρ 324) a)) (ρ' := ρ) (r := [.int 0, .ref q17, .ref q17]) [9, a] (by decide +kernel) hx19 xr_o9 hx19.1.1 rfl rfl (fun _ => rfl) (Nat.le_of_ble_eq_true rfl) (fun h21 hx22 => ?_)
  refine lx_st (j := 0) (by decide) (by decide +kernel) hx22 (i := 0) rfl (by decide) (by decide) (A' := [(q17, 3, (upd (fun _ => 0) 0 (vO9 (ρ 324) a))), (q1, 3, (upd (upd (upd (fun _ => 0) 0 (vO (ρ 324) a 0)) 1 (vO (ρ 324) b 0)) 2 (vO (ρ 324) d 0)))]) rfl (fun h23 hx24 => ?_)
  refine jx_blk (by decide) [(.dup, 1), (.iconst 1, 1), (.aload_n 0, 1), (.iload 5, 2), (.bipush 9, 2)] (pc' := 121) (Lv' := [some (.ref B), some (.int m), some (.int y), some (.int 1), some (.int a), some (.int b), some (.int d), some (.ref q1), r8, r9]) (st' := [.int 9, .int b, .ref B, .int 1, .ref q17, .ref q17]) (by decide +kernel) rfl ?_
  refine lx_call (z := 124) (na := 3) (mL := 4) (v := .int (vO9 (ρ 324) b)) (ρ' := ρ) (r := [.int 1, .ref q17, .ref q17]) [9, b] (by decide +kernel) hx24 xr_o9 hx24.1.1 rfl rfl (fun _ => rfl) (Nat.le_of_ble_eq_true rfl) (fun h25 hx26 => ?_)
  refine lx_st (j := 1) (by decide) (by decide +kernel) hx26 (i := 0) rfl (by decide) (by decide) (A' := [(q17, 3, (upd (upd (fun _ => 0) 0 (vO9 (ρ 324) a)) 1 (vO9 (ρ 324) b))), (q1, 3, (upd (upd (upd (fun _ => 0) 0 (vO (ρ 324) a 0)) 1 (vO (ρ 324) b 0)) 2 (vO (ρ 324) d 0)))]) rfl (fun h27 hx28 => ?_)
  refine jx_blk (by decide) [(.dup, 1), (.iconst 2, 1), (.aload_n 0, 1), (.iload 6, 2), (.bipush 9, 2)] (pc' := 132) (Lv' := [some (.ref B), some (.int m), some (.int y), some (.int 1), some (.int a), some (.int b), some (.int d), some (.ref q1), r8, r9]) (st' := [.int 9, .int d, .ref B, .int 2, .ref q17, .ref q17]) (by decide +kernel) rfl ?_
  refine lx_call (z := 124) (na := 3) (mL := 4) (v := .int (vO9 (ρ 324) d)) (ρ' := ρ) (r := [.int 2, .ref q17, .ref q17]) [9, d] (by decide +kernel) hx28 xr_o9 hx28.1.1 rfl rfl (fun _ => rfl) (Nat.le_of_ble_eq_true rfl) (fun h29 hx30 => ?_)
  refine lx_st (j := 2) (by decide) (by decide +kernel) hx30 (i := 0) rfl (by decide) (by decide) (A' := [(q17, 3, (upd (upd (upd (fun _ => 0) 0 (vO9 (ρ 324) a)) 1 (vO9 (ρ 324) b)) 2 (vO9 (ρ 324) d))), (q1, 3, (upd (upd (upd (fun _ => 0) 0 (vO (ρ 324) a 0)) 1 (vO (ρ 324) b 0)) 2 (vO (ρ 324) d 0)))]) rfl (fun h31 hx32 => ?_)
  refine jx_blk (by decide) [(.astore 8, 2), (.aload_n 0, 1), (.iload 4, 2), (.iload 5, 2), (.iload 6, 2)] (pc' := 145) (Lv' := [some (.ref B), some (.int m), some (.int y), some (.int 1), some (.int a), some (.int b), some (.int d), some (.ref q1), some (.ref q17), r9]) (st' := [.int d, .int b, .int a, .ref B]) (by decide +kernel) rfl ?_
  refine lx_call (z := 117) (na := 4) (mL := 6) (v := .int (aRin (ρ 324) a b d)) (ρ' := (hOp ρ (gRin (ρ 324) a b d) (nRin (ρ 324) a b d))) (r := []) [d, b, a] (by decide +kernel) hx32 xr_ring hx32.1.1 rfl rfl (fun _ => rfl) (Nat.le_of_ble_eq_true rfl) (fun h33 hx34 => ?_)
  exact t20 _ hx34

theorem rg_148 {B n c s : Nat} {ρ : gS} {h0 h : jv_H} {K : jK} {m y a b d got : Int32} {q1 q2 : Nat} {f1 f2 : Nat → Int32} {r9 : Option Value} (hx : LX B n ρ [(q2, 3, f2), (q1, 3, f1)] c s h0 h) (T : ((¬ got < 0 → ((¬ 0 < got → (∀ h1, LX B n ρ [(q2, 3, f2), (q1, 3, f1)] c s h0 h1 → jE 196 186 [some (.ref B), some (.int m), some (.int y), some (.int 1), some (.int a), some (.int b), some (.int d), some (.ref q1), some (.ref q2), some (.int got)] [] h1 K)) ∧ (0 < got → (∀ h1, LX B n ρ [(q2, 3, f2), (q1, 3, f1)] c s h0 h1 → jE 196 186 [some (.ref B), some (.int m), some (.int (y + 1)), some (.int 1), some (.int a), some (.int b), some (.int d), some (.ref q1), some (.ref q2), some (.int got)] [] h1 K)))) ∧ (got < 0 → ((got = (-11) → (∀ h1, LX B n ρ [] c s h0 h1 → jE 196 45 [some (.ref B), some (.int m), some (.int y), some (.int 1), some (.int a), some (.int b), some (.int (d + 1)), some (.ref q1), some (.ref q2), some (.int got)] [] h1 K)) ∧ (¬ got = (-11) → (got = (-16) ∧ (∀ h1, LX B n ρ [] c s h0 h1 → jE 196 45 [some (.ref B), some (.int m), some (.int y), some (.int 1), some (.int a), some (.int b), some (.int (d + 1)), some (.ref q1), some (.ref q2), some (.int got)] [] h1 K))))))) : jE 196 148 [some (.ref B), some (.int m), some (.int y), some (.int 1), some (.int a), some (.int b), some (.int d), some (.ref q1), some (.ref q2), r9] [.int got] h K := by
  refine jx_blk (by decide) [(.istore 9, 2), (.iload 9, 2)] (pc' := 152) (Lv' := [some (.ref B), some (.int m), some (.int y), some (.int 1), some (.int a), some (.int b), some (.int d), some (.ref q1), some (.ref q2), some (.int got)]) (st' := [.int got]) (by decide +kernel) rfl ?_
  refine jx_if_ge (off := 26) (b := 178) (by decide) (by decide +kernel) (by decide) (fun e1 => ?_) (fun e1 => ?_)
  · have t2 := T.1 e1
    refine jx_blk (by decide) [(.iload 9, 2)] (pc' := 180) (Lv' := [some (.ref B), some (.int m), some (.int y), some (.int 1), some (.int a), some (.int b), some (.int d), some (.ref q1), some (.ref q2), some (.int got)]) (st' := [.int got]) (by decide +kernel) rfl ?_
    refine jx_if_le (off := 6) (b := 186) (by decide) (by decide +kernel) (by decide) (fun e4 => ?_) (fun e4 => ?_)
    · have t5 := t2.1 e4
      exact t5 _ hx
    · have t6 := t2.2 e4
      refine jx_blk (by decide) [(.iinc 2 1, 3)] (pc' := 186) (Lv' := [some (.ref B), some (.int m), some (.int (y + 1)), some (.int 1), some (.int a), some (.int b), some (.int d), some (.ref q1), some (.ref q2), some (.int got)]) (st' := []) (by decide +kernel) rfl ?_
      exact t6 _ hx
  · have t3 := T.2 e1
    refine jx_blk (by decide) [(.iload 9, 2), (.bipush (-11), 2)] (pc' := 159) (Lv' := [some (.ref B), some (.int m), some (.int y), some (.int 1), some (.int a), some (.int b), some (.int d), some (.ref q1), some (.ref q2), some (.int got)]) (st' := [.int (-11), .int got]) (by decide +kernel) rfl ?_
    refine jx_ic_eq (off := 10) (b := 169) (by decide) (by decide +kernel) (by decide) (fun e7 => ?_) (fun e7 => ?_)
    · have t8 := t3.1 e7
      refine jx_blk (by decide) [(.iconst 1, 1)] (pc' := 170) (Lv' := [some (.ref B), some (.int m), some (.int y), some (.int 1), some (.int a), some (.int b), some (.int d), some (.ref q1), some (.ref q2), some (.int got)]) (st' := [.int 1]) (by decide +kernel) rfl ?_
      refine jx_goto (off := 4) (b := 174) (by decide) (by decide +kernel) (by decide) ?_
      refine jx_blk (by decide) [(.istore_n 3, 1)] (pc' := 175) (Lv' := [some (.ref B), some (.int m), some (.int y), some (.int 1), some (.int a), some (.int b), some (.int d), some (.ref q1), some (.ref q2), some (.int got)]) (st' := []) (by decide +kernel) rfl ?_
      refine jx_goto (off := 157) (b := 332) (by decide) (by decide +kernel) (by decide) ?_
      refine jx_blk (by decide) [(.iinc 6 1, 3)] (pc' := 335) (Lv' := [some (.ref B), some (.int m), some (.int y), some (.int 1), some (.int a), some (.int b), some (.int (d + 1)), some (.ref q1), some (.ref q2), some (.int got)]) (st' := []) (by decide +kernel) rfl ?_
      refine jx_goto (off := (-290)) (b := 45) (by decide) (by decide +kernel) (by decide) ?_
      exact t8 _ (hx.nil)
    · have t9 := t3.2 e7
      refine jx_blk (by decide) [(.iload 9, 2), (.bipush (-16), 2)] (pc' := 166) (Lv' := [some (.ref B), some (.int m), some (.int y), some (.int 1), some (.int a), some (.int b), some (.int d), some (.ref q1), some (.ref q2), some (.int got)]) (st' := [.int (-16), .int got]) (by decide +kernel) rfl ?_
      refine jx_ic_ne (off := 7) (b := 173) (by decide) (by decide +kernel) (by decide) (fun e => absurd t9.1 e) (fun _ => ?_)
      have t11 := t9.2
      refine jx_blk (by decide) [(.iconst 1, 1)] (pc' := 170) (Lv' := [some (.ref B), some (.int m), some (.int y), some (.int 1), some (.int a), some (.int b), some (.int d), some (.ref q1), some (.ref q2), some (.int got)]) (st' := [.int 1]) (by decide +kernel) rfl ?_
      refine jx_goto (off := 4) (b := 174) (by decide) (by decide +kernel) (by decide) ?_
      refine jx_blk (by decide) [(.istore_n 3, 1)] (pc' := 175) (Lv' := [some (.ref B), some (.int m), some (.int y), some (.int 1), some (.int a), some (.int b), some (.int d), some (.ref q1), some (.ref q2), some (.int got)]) (st' := []) (by decide +kernel) rfl ?_
      refine jx_goto (off := 157) (b := 332) (by decide) (by decide +kernel) (by decide) ?_
      refine jx_blk (by decide) [(.iinc 6 1, 3)] (pc' := 335) (Lv' := [some (.ref B), some (.int m), some (.int y), some (.int 1), some (.int a), some (.int b), some (.int (d + 1)), some (.ref q1), some (.ref q2), some (.int got)]) (st' := []) (by decide +kernel) rfl ?_
      refine jx_goto (off := (-290)) (b := 45) (by decide) (by decide +kernel) (by decide) ?_
      exact t11 _ (hx.nil)

theorem rg_186 {B n c s : Nat} {ρ : gS} {h0 h : jv_H} {K : jK} {m y a b d got : Int32} {q1 q2 : Nat} {f1 f2 : Nat → Int32} (hx : LX B n ρ [(q2, 3, f2), (q1, 3, f1)] c s h0 h) (T : ((vO (ρ 324) a 0) = (f1 1) ∧ ((vO (ρ 324) b 0) = (f1 2) ∧ ((vO (ρ 324) d 0) = (f1 0) ∧ (¬ (vO9 (ρ 324) a) < (f2 0) ∧ (¬ (vO9 (ρ 324) b) < (f2 1) ∧ (¬ (vO9 (ρ 324) d) < (f2 2) ∧ (got = ((((((vO9 (ρ 324) a) + (vO9 (ρ 324) b)) + (vO9 (ρ 324) d)) - (f2 0)) - (f2 1)) - (f2 2)) ∧ (¬ (if ρ 323 6 = 0 then -1 else ρ 323 6 - 1) < 0 ∧ (∀ h1, LX B n (hUn ρ) [] c s h0 h1 → jE 196 45 [some (.ref B), some (.int m), some (.int y), some (.int 1), some (.int a), some (.int b), some (.int (d + 1)), some (.ref q1), some (.ref q2), some (.int got)] [] h1 K)))))))))) : jE 196 186 [some (.ref B), some (.int m), some (.int y), some (.int 1), some (.int a), some (.int b), some (.int d), some (.ref q1), some (.ref q2), some (.int got)] [] h K := by
  refine jx_blk (by decide) [(.aload_n 0, 1), (.iload 4, 2), (.iconst 0, 1)] (pc' := 190) (Lv' := [some (.ref B), some (.int m), some (.int y), some (.int 1), some (.int a), some (.int b), some (.int d), some (.ref q1), some (.ref q2), some (.int got)]) (st' := [.int 0, .int a, .ref B]) (by decide +kernel) rfl ?_
  refine lx_call (z := 124) (na := 3) (mL := 4) (v := .int (vO (ρ 324) a 0)) (ρ' := ρ) (r := []) [0, a] (by decide +kernel) hx xr_o0 hx.1.1 rfl rfl (fun _ => rfl) (Nat.le_of_ble_eq_true rfl) (fun h1 hx2 => ?_)
  refine jx_blk (by decide) [(.aload 7, 2), (.iconst 1, 1)] (pc' := 196) (Lv' := [some (.ref B), some (.int m), some (.int y), some (.int 1), some (.int a), some (.int b), some (.int d), some (.ref q1), some (.ref q2), some (.int got)]) (st' := [.int 1, .ref q1, .int (vO (ρ 324) a 0)]) (by decide +kernel) rfl ?_
  refine lx_ld (j := 1) (by decide) (by decide +kernel) hx2 (i := 1) rfl (by decide) (by decide) ?_
  show jE 196 197 [some (.ref B), some (.int m), some (.int y), some (.int 1), some (.int a), some (.int b), some (.int d), some (.ref q1), some (.ref q2), some (.int got)] [.int (f1 1), .int (vO (ρ 324) a 0)] _ K
  refine jx_ic_ne (off := 133) (b := 330) (by decide) (by decide +kernel) (by decide) (fun e => absurd T.1 e) (fun _ => ?_)
  have t4 := T.2
  refine jx_blk (by decide) [(.aload_n 0, 1), (.iload 5, 2), (.iconst 0, 1)] (pc' := 204) (Lv' := [some (.ref B), some (.int m), some (.int y), some (.int 1), some (.int a), some (.int b), some (.int d), some (.ref q1), some (.ref q2), some (.int got)]) (st' := [.int 0, .int b, .ref B]) (by decide +kernel) rfl ?_
  refine lx_call (z := 124) (na := 3) (mL := 4) (v := .int (vO (ρ 324) b 0)) (ρ' := ρ) (r := []) [0, b] (by decide +kernel) hx2 xr_o0 hx2.1.1 rfl rfl (fun _ => rfl) (Nat.le_of_ble_eq_true rfl) (fun h5 hx6 => ?_)
  refine jx_blk (by decide) [(.aload 7, 2), (.iconst 2, 1)] (pc' := 210) (Lv' := [some (.ref B), some (.int m), some (.int y), some (.int 1), some (.int a), some (.int b), some (.int d), some (.ref q1), some (.ref q2), some (.int got)]) (st' := [.int 2, .ref q1, .int (vO (ρ 324) b 0)]) (by decide +kernel) rfl ?_
  refine lx_ld (j := 2) (by decide) (by decide +kernel) hx6 (i := 1) rfl (by decide) (by decide) ?_
  show jE 196 211 [some (.ref B), some (.int m), some (.int y), some (.int 1), some (.int a), some (.int b), some (.int d), some (.ref q1), some (.ref q2), some (.int got)] [.int (f1 2), .int (vO (ρ 324) b 0)] _ K
  refine jx_ic_ne (off := 119) (b := 330) (by decide) (by decide +kernel) (by decide) (fun e => absurd t4.1 e) (fun _ => ?_)
  have t8 := t4.2
  refine jx_blk (by decide) [(.aload_n 0, 1), (.iload 6, 2), (.iconst 0, 1)] (pc' := 218) (Lv' := [some (.ref B), some (.int m), some (.int y), some (.int 1), some (.int a), some (.int b), some (.int d), some (.ref q1), some (.ref q2), some (.int got)]) (st' := [.int 0, .int d, .ref B]) (by decide +kernel) rfl ?_
  refine lx_call (z := 124) (na := 3) (mL := 4) (v := .int (vO (ρ 324) d 0)) (ρ' := ρ) (r := []) [0, d] (by decide +kernel) hx6 xr_o0 hx6.1.1 rfl rfl (fun _ => rfl) (Nat.le_of_ble_eq_true rfl) (fun h9 hx10 => ?_)
  refine jx_blk (by decide) [(.aload 7, 2), (.iconst 0, 1)] (pc' := 224) (Lv' := [some (.ref B), some (.int m), some (.int y), some (.int 1), some (.int a), some (.int b), some (.int d), some (.ref q1), some (.ref q2), some (.int got)]) (st' := [.int 0, .ref q1, .int (vO (ρ 324) d 0)]) (by decide +kernel) rfl ?_
  refine lx_ld (j := 0) (by decide) (by decide +kernel) hx10 (i := 1) rfl (by decide) (by decide) ?_
  show jE 196 225 [some (.ref B), some (.int m), some (.int y), some (.int 1), some (.int a), some (.int b), some (.int d), some (.ref q1), some (.ref q2), some (.int got)] [.int (f1 0), .int (vO (ρ 324) d 0)] _ K
  refine jx_ic_ne (off := 105) (b := 330) (by decide) (by decide +kernel) (by decide) (fun e => absurd t8.1 e) (fun _ => ?_)
  have t12 := t8.2
  refine jx_blk (by decide) [(.aload_n 0, 1), (.iload 4, 2), (.bipush 9, 2)] (pc' := 233) (Lv' := [some (.ref B), some (.int m), some (.int y), some (.int 1), some (.int a), some (.int b), some (.int d), some (.ref q1), some (.ref q2), some (.int got)]) (st' := [.int 9, .int a, .ref B]) (by decide +kernel) rfl ?_
  refine lx_call (z := 124) (na := 3) (mL := 4) (v := .int (vO9 (ρ 324) a)) (ρ' := ρ) (r := []) [9, a] (by decide +kernel) hx10 xr_o9 hx10.1.1 rfl rfl (fun _ => rfl) (Nat.le_of_ble_eq_true rfl) (fun h13 hx14 => ?_)
  refine jx_blk (by decide) [(.aload 8, 2), (.iconst 0, 1)] (pc' := 239) (Lv' := [some (.ref B), some (.int m), some (.int y), some (.int 1), some (.int a), some (.int b), some (.int d), some (.ref q1), some (.ref q2), some (.int got)]) (st' := [.int 0, .ref q2, .int (vO9 (ρ 324) a)]) (by decide +kernel) rfl ?_
  refine lx_ld (j := 0) (by decide) (by decide +kernel) hx14 (i := 0) rfl (by decide) (by decide) ?_
  show jE 196 240 [some (.ref B), some (.int m), some (.int y), some (.int 1), some (.int a), some (.int b), some (.int d), some (.ref q1), some (.ref q2), some (.int got)] [.int (f2 0), .int (vO9 (ρ 324) a)] _ K
  refine jx_ic_lt (off := 90) (b := 330) (by decide) (by decide +kernel) (by decide) (fun e => absurd e t12.1) (fun _ => ?_)
  have t16 := t12.2
  refine jx_blk (by decide) [(.aload_n 0, 1), (.iload 5, 2), (.bipush 9, 2)] (pc' := 248) (Lv' := [some (.ref B), some (.int m), some (.int y), some (.int 1), some (.int a), some (.int b), some (.int d), some (.ref q1), some (.ref q2), some (.int got)]) (st' := [.int 9, .int b, .ref B]) (by decide +kernel) rfl ?_
  refine lx_call (z := 124) (na := 3) (mL := 4) (v := .int (vO9 (ρ 324) b)) (ρ' := ρ) (r := []) [9, b] (by decide +kernel) hx14 xr_o9 hx14.1.1 rfl rfl (fun _ => rfl) (Nat.le_of_ble_eq_true rfl) (fun h17 hx18 => ?_)
  refine jx_blk (by decide) [(.aload 8, 2), (.iconst 1, 1)] (pc' := 254) (Lv' := [some (.ref B), some (.int m), some (.int y), some (.int 1), some (.int a), some (.int b), some (.int d), some (.ref q1), some (.ref q2), some (.int got)]) (st' := [.int 1, .ref q2, .int (vO9 (ρ 324) b)]) (by decide +kernel) rfl ?_
  refine lx_ld (j := 1) (by decide) (by decide +kernel) hx18 (i := 0) rfl (by decide) (by decide) ?_
  show jE 196 255 [some (.ref B), some (.int m), some (.int y), some (.int 1), some (.int a), some (.int b), some (.int d), some (.ref q1), some (.ref q2), some (.int got)] [.int (f2 1), .int (vO9 (ρ 324) b)] _ K
  refine jx_ic_lt (off := 75) (b := 330) (by decide) (by decide +kernel) (by decide) (fun e => absurd e t16.1) (fun _ => ?_)
  have t20 := t16.2
  refine jx_blk (by decide) [(.aload_n 0, 1), (.iload 6, 2), (.bipush 9, 2)] (pc' := 263) (Lv' := [some (.ref B), some (.int m), some (.int y), some (.int 1), some (.int a), some (.int b), some (.int d), some (.ref q1), some (.ref q2), some (.int got)]) (st' := [.int 9, .int d, .ref B]) (by decide +kernel) rfl ?_
  refine lx_call (z := 124) (na := 3) (mL := 4) (v := .int (vO9 (ρ 324) d)) (ρ' := ρ) (r := []) [9, d] (by decide +kernel) hx18 xr_o9 hx18.1.1 rfl rfl (fun _ => rfl) (Nat.le_of_ble_eq_true rfl) (fun h21 hx22 => ?_)
  refine jx_blk (by decide) [(.aload 8, 2), (.iconst 2, 1)] (pc' := 269) (Lv' := [some (.ref B), some (.int m), some (.int y), some (.int 1), some (.int a), some (.int b), some (.int d), some (.ref q1), some (.ref q2), some (.int got)]) (st' := [.int 2, .ref q2, .int (vO9 (ρ 324) d)]) (by decide +kernel) rfl ?_
  refine lx_ld (j := 2) (by decide) (by decide +kernel) hx22 (i := 0) rfl (by decide) (by decide) ?_
  show jE 196 270 [some (.ref B), some (.int m), some (.int y), some (.int 1), some (.int a), some (.int b), some (.int d), some (.ref q1), some (.ref q2), some (.int got)] [.int (f2 2), .int (vO9 (ρ 324) d)] _ K
  refine jx_ic_lt (off := 60) (b := 330) (by decide) (by decide +kernel) (by decide) (fun e => absurd e t20.1) (fun _ => ?_)
  have t24 := t20.2
  refine jx_blk (by decide) [(.iload 9, 2), (.aload_n 0, 1), (.iload 4, 2), (.bipush 9, 2)] (pc' := 280) (Lv' := [some (.ref B), some (.int m), some (.int y), some (.int 1), some (.int a), some (.int b), some (.int d), some (.ref q1), some (.ref q2), some (.int got)]) (st' := [.int 9, .int a, .ref B, .int got]) (by decide +kernel) rfl ?_
  refine lx_call (z := 124) (na := 3) (mL := 4) (v := .int (vO9 (ρ 324) a)) (ρ' := ρ) (r := [.int got]) [9, a] (by decide +kernel) hx22 xr_o9 hx22.1.1 rfl rfl (fun _ => rfl) (Nat.le_of_ble_eq_true rfl) (fun h25 hx26 => ?_)
  refine jx_blk (by decide) [(.aload_n 0, 1), (.iload 5, 2), (.bipush 9, 2)] (pc' := 288) (Lv' := [some (.ref B), some (.int m), some (.int y), some (.int 1), some (.int a), some (.int b), some (.int d), some (.ref q1), some (.ref q2), some (.int got)]) (st' := [.int 9, .int b, .ref B, .int (vO9 (ρ 324) a), .int got]) (by decide +kernel) rfl ?_
  refine lx_call (z := 124) (na := 3) (mL := 4) (v := .int (vO9 (ρ 324) b)) (ρ' := ρ) (r := [.int (vO9 (ρ 324) a), .int got]) [9, b] (by decide +kernel) hx26 xr_o9 hx26.1.1 rfl rfl (fun _ => rfl) (Nat.le_of_ble_eq_true rfl) (fun h27 hx28 => ?_)
  refine jx_blk (by decide) [(.iadd, 1), (.aload_n 0, 1), (.iload 6, 2), (.bipush 9, 2)] (pc' := 297) (Lv' := [some (.ref B), some (.int m), some (.int y), some (.int 1), some (.int a), some (.int b), some (.int d), some (.ref q1), some (.ref q2), some (.int got)]) (st' := [.int 9, .int d, .ref B, .int ((vO9 (ρ 324) a) + (vO9 (ρ 324) b)), .int got]) (by decide +kernel) rfl ?_
  refine lx_call (z := 124) (na := 3) (mL := 4) (v := .int (vO9 (ρ 324) d)) (ρ' := ρ) (r := [.int ((vO9 (ρ 324) a) + (vO9 (ρ 324) b)), .int got]) [9, d] (by decide +kernel) hx28 xr_o9 hx28.1.1 rfl rfl (fun _ => rfl) (Nat.le_of_ble_eq_true rfl) (fun h29 hx30 => ?_)
  refine jx_blk (by decide) [(.iadd, 1), (.aload 8, 2), (.iconst 0, 1)] (pc' := 304) (Lv' := [some (.ref B), some (.int m), some (.int y), some (.int 1), some (.int a), some (.int b), some (.int d), some (.ref q1), some (.ref q2), some (.int got)]) (st' := [.int 0, .ref q2, .int (((vO9 (ρ 324) a) + (vO9 (ρ 324) b)) + (vO9 (ρ 324) d)), .int got]) (by decide +kernel) rfl ?_
  refine lx_ld (j := 0) (by decide) (by decide +kernel) hx30 (i := 0) rfl (by decide) (by decide) ?_
  show jE 196 305 [some (.ref B), some (.int m), some (.int y), some (.int 1), some (.int a), some (.int b), some (.int d), some (.ref q1), some (.ref q2), some (.int got)] [.int (f2 0), .int (((vO9 (ρ 324) a) + (vO9 (ρ 324) b)) + (vO9 (ρ 324) d)), .int got] _ K
  refine jx_blk (by decide) [(.isub, 1), (.aload 8, 2), (.iconst 1, 1)] (pc' := 309) (Lv' := [some (.ref B), some (.int m), some (.int y), some (.int 1), some (.int a), some (.int b), some (.int d), some (.ref q1), some (.ref q2), some (.int got)]) (st' := [.int 1, .ref q2, .int ((((vO9 (ρ 324) a) + (vO9 (ρ 324) b)) + (vO9 (ρ 324) d)) - (f2 0)), .int got]) (by decide +kernel) rfl ?_
  refine lx_ld (j := 1) (by decide) (by decide +kernel) hx30 (i := 0) rfl (by decide) (by decide) ?_
  show jE 196 310 [some (.ref B), some (.int m), some (.int y), some (.int 1), some (.int a), some (.int b), some (.int d), some (.ref q1), some (.ref q2), some (.int got)] [.int (f2 1), .int ((((vO9 (ρ 324) a) + (vO9 (ρ 324) b)) + (vO9 (ρ 324) d)) - (f2 0)), .int got] _ K
  refine jx_blk (by decide) [(.isub, 1), (.aload 8, 2), (.iconst 2, 1)] (pc' := 314) (Lv' := [some (.ref B), some (.int m), some (.int y), some (.int 1), some (.int a), some (.int b), some (.int d), some (.ref q1), some (.ref q2), some (.int got)]) (st' := [.int 2, .ref q2, .int (((((vO9 (ρ 324) a) + (vO9 (ρ 324) b)) + (vO9 (ρ 324) d)) - (f2 0)) - (f2 1)), .int got]) (by decide +kernel) rfl ?_
  refine lx_ld (j := 2) (by decide) (by decide +kernel) hx30 (i := 0) rfl (by decide) (by decide) ?_
  show jE 196 315 [some (.ref B), some (.int m), some (.int y), some (.int 1), some (.int a), some (.int b), some (.int d), some (.ref q1), some (.ref q2), some (.int got)] [.int (f2 2), .int (((((vO9 (ρ 324) a) + (vO9 (ρ 324) b)) + (vO9 (ρ 324) d)) - (f2 0)) - (f2 1)), .int got] _ K
  refine jx_blk (by decide) [(.isub, 1)] (pc' := 316) (Lv' := [some (.ref B), some (.int m), some (.int y), some (.int 1), some (.int a), some (.int b), some (.int d), some (.ref q1), some (.ref q2), some (.int got)]) (st' := [.int ((((((vO9 (ρ 324) a) + (vO9 (ρ 324) b)) + (vO9 (ρ 324) d)) - (f2 0)) - (f2 1)) - (f2 2)), .int got]) (by decide +kernel) rfl ?_
  refine jx_ic_ne (off := 14) (b := 330) (by decide) (by decide +kernel) (by decide) (fun e => absurd t24.1 e) (fun _ => ?_)
  have t32 := t24.2
  refine jx_blk (by decide) [(.aload_n 0, 1)] (pc' := 320) (Lv' := [some (.ref B), some (.int m), some (.int y), some (.int 1), some (.int a), some (.int b), some (.int d), some (.ref q1), some (.ref q2), some (.int got)]) (st' := [.ref B]) (by decide +kernel) rfl ?_
  refine lx_call (z := 122) (na := 1) (mL := 1) (v := .int (if ρ 323 6 = 0 then -1 else ρ 323 6 - 1)) (ρ' := (hUn ρ)) (r := []) [] (by decide +kernel) hx30 xr_undo hx30.1.1 rfl rfl (fun _ => rfl) (Nat.le_of_ble_eq_true rfl) (fun h33 hx34 => ?_)
  refine jx_if_lt (off := 7) (b := 330) (by decide) (by decide +kernel) (by decide) (fun e => absurd e t32.1) (fun _ => ?_)
  have t36 := t32.2
  refine jx_blk (by decide) [(.iconst 1, 1)] (pc' := 327) (Lv' := [some (.ref B), some (.int m), some (.int y), some (.int 1), some (.int a), some (.int b), some (.int d), some (.ref q1), some (.ref q2), some (.int got)]) (st' := [.int 1]) (by decide +kernel) rfl ?_
  refine jx_goto (off := 4) (b := 331) (by decide) (by decide +kernel) (by decide) ?_
  refine jx_blk (by decide) [(.istore_n 3, 1), (.iinc 6 1, 3)] (pc' := 335) (Lv' := [some (.ref B), some (.int m), some (.int y), some (.int 1), some (.int a), some (.int b), some (.int (d + 1)), some (.ref q1), some (.ref q2), some (.int got)]) (st' := []) (by decide +kernel) rfl ?_
  refine jx_goto (off := (-290)) (b := 45) (by decide) (by decide +kernel) (by decide) ?_
  exact t36 _ (hx34.nil)
section RG
variable {B n : Nat} {ρ : gS} {h0 : jv_H} {K : jK}
def RQ (ρ : gS) : Prop := RI ρ ∧ SP ρ
theorem RQ.sm {τ : gS} (h : RQ ρ) (q : Sm ρ τ) (hi : RI τ) : RQ τ := ⟨hi, q.sp h.2⟩
theorem whyR_c (R : gW) (a b d : Nat) : (fWhyR R a b d = 0 ∧ ¬ fRR R a b d a < 0 ∧ ¬ fRR R a b d b < 0 ∧ ¬ fRR R a b d d < 0) ∨ fWhyR R a b d = 1 ∨ fWhyR R a b d = 6 := by
  unfold fWhyR
  split
  · exact Or.inr (Or.inl rfl)
  · split
    · exact Or.inr (Or.inr rfl)
    · split
      · exact Or.inr (Or.inr rfl)
      · split
        · exact Or.inr (Or.inr rfl)
        · rename_i h1 h2 h3
          exact Or.inl ⟨rfl, h1, h2, h3⟩
theorem rg_ge {x y : Int32} (hx : -100 ≤ x ∧ x ≤ 100) (hy : -100 ≤ y ∧ y ≤ 100) (h : ¬ x - y < 0) : ¬ x + 100 < y + 100 := by
  obtain ⟨x1, x2⟩ := hx
  obtain ⟨y1, y2⟩ := hy
  grind
theorem rg_sum {x y x2 y2 x3 y3 : Int32} (hx : -100 ≤ x ∧ x ≤ 100) (hy : -100 ≤ y ∧ y ≤ 100) (h : ¬ x - y < 0) (hx2 : -100 ≤ x2 ∧ x2 ≤ 100) (hy2 : -100 ≤ y2 ∧ y2 ≤ 100) (h2 : ¬ x2 - y2 < 0) (hx3 : -100 ≤ x3 ∧ x3 ≤ 100) (hy3 : -100 ≤ y3 ∧ y3 ≤ 100) (h3 : ¬ x3 - y3 < 0) : ¬ (x - y) + (x2 - y2) + (x3 - y3) < 0 := by
  have r : ∀ {x y : Int32}, -100 ≤ x ∧ x ≤ 100 → -100 ≤ y ∧ y ≤ 100 → ¬ x - y < 0 → 0 ≤ x - y ∧ x - y ≤ 200 := by
    intro x y hx hy h
    obtain ⟨x1, x2⟩ := hx
    obtain ⟨y1, y2⟩ := hy
    constructor <;> grind
  obtain ⟨a1, a2⟩ := r hx hy h
  obtain ⟨b1, b2⟩ := r hx2 hy2 h2
  obtain ⟨c1, c2⟩ := r hx3 hy3 h3
  generalize x - y = u at *
  generalize x2 - y2 = v at *
  generalize x3 - y3 = w at *
  grind
/-- a ring tried: where it goes on -/
def rgG (B n cx sx : Nat) (h0 : jv_H) (K : jK) (m : Int32) (a b d : Nat) (ρ : gS) (y : Int32) : Prop := ∀ (h : jv_H) (τ : gS) (r7 r8 r9 : Option Value), Sm ρ τ → LX B n τ [] cx sx h0 h → jE 196 45 [some (.ref B), some (.int m), some (.int y), some (.int 1), some (.int (iN a)), some (.int (iN b)), some (.int (iN (d + 1))), r7, r8, r9] [] h K
theorem rg_d {cx sx : Nat} {h : jv_H} {a b d k : Nat} {m : Int32} (hQ : RQ ρ) (ha : a < nM (ρ 324)) (hb : b < nM (ρ 324)) (hd : d < nM (ρ 324)) (hne : a ≠ b ∧ b ≠ d ∧ a ≠ d) (hx : LX B n ρ [] (cx + 2) (sx + 6) h0 h)
    (hG : rgG B n cx sx h0 K m a b d ρ (if fWhyR (ρ 324) a b d = 0 ∧ 0 < fROR (ρ 324) a b d then iN (k + 1) else iN k)) {r7 r8 r9 : Option Value} : jE 196 65 [some (.ref B), some (.int m), some (.int (iN k)), some (.int 1), some (.int (iN a)), some (.int (iN b)), some (.int (iN d)), r7, r8, r9] [] h K := by
  obtain ⟨hi, sp⟩ := hQ
  have h3 := hi.1.1.1
  obtain ⟨e3, l20⟩ := nM_of h3
  have hR : isR3 (ρ 324) (iN a) (iN b) (iN d) := ⟨⟨isP_i h3 ha hb hne.1, isP_i h3 hb hd hne.2.1⟩, iN_eq (by omega) (by omega) hne.2.2⟩
  have na := iN_nat (k := a) (by omega)
  have nb := iN_nat (k := b) (by omega)
  have nd := iN_nat (k := d) (by omega)
  have ed : iN d + 1 = iN (d + 1) := iN_add d 1
  refine rg_65 hx (fun q1 q2 h1 hx1 => ?_)
  have eg : gRin (ρ 324) (iN a) (iN b) (iN d) ↔ ¬ 0 < fWhyR (ρ 324) a b d := by
    unfold gRin
    rw [na, nb, nd]
    exact ⟨fun z => z.2, fun z => ⟨hR, z⟩⟩
  have ea : aRin (ρ 324) (iN a) (iN b) (iN d) = if 0 < fWhyR (ρ 324) a b d then -10 - fWhyR (ρ 324) a b d else fROR (ρ 324) a b d := by
    unfold aRin
    rw [if_pos hR, na, nb, nd]
  rw [ea]
  rcases whyR_c (ρ 324) a b d with ⟨w0, wa, wb, wd⟩ | w
  · have g : gRin (ρ 324) (iN a) (iN b) (iN d) := eg.mpr (by rw [w0]; decide)
    rw [w0] at hG ⊢
    rw [if_neg (by decide : ¬ (0 : Int32) < 0)]
    obtain ⟨us, u0, u1⟩ := un_op (N := nRin (ρ 324) (iN a) (iN b) (iN d)) hi.1 hi.2.2.1 g
    have eN : hOp ρ (gRin (ρ 324) (iN a) (iN b) (iN d)) (nRin (ρ 324) (iN a) (iN b) (iN d)) 324 = nRin (ρ 324) (iN a) (iN b) (iN d) := hOp_324 g
    have hi1 := hx1.inf
    have af := agf_rin hi.1.1.2 l20 ha hb hd hne
    have en : nM (nRin (ρ 324) (iN a) (iN b) (iN d)) = nM (ρ 324) := (agf_n af).trans (nM_rtu hne)
    obtain ⟨N, hN⟩ : ∃ N, nRin (ρ 324) (iN a) (iN b) (iN d) = N := ⟨_, rfl⟩
    rw [hN] at eN af en
    have h3N := hi1.1.1.1
    have hTN := hi1.2.2.2.2.2.1
    have hFN := hi1.2.2.2.2.1
    rw [hN, eN] at h3N hTN hFN
    have jN : ∀ o, o < nM (ρ 324) → fJo N o = fJo (rtu (ρ 324) a b d) o := fun o ho => agf_Jo af (by rw [en]; exact ho)
    have bN : ∀ o, o < nM (ρ 324) → -100 ≤ fJo (rtu (ρ 324) a b d) o ∧ fJo (rtu (ρ 324) a b d) o ≤ 100 := fun o ho => by
      rw [← jN o ho]
      exact fJo_b h3N hTN hFN (by rw [en]; exact ho)
    have bR : ∀ o, o < nM (ρ 324) → -100 ≤ fJo (ρ 324) o ∧ fJo (ρ 324) o ≤ 100 := fun o ho => fJo_b h3 hi.2.2.2.2.2.1 hi.2.2.2.2.1 ho
    have s0 : ∀ o, o < nM (ρ 324) → fld N o 0 = if o = d then fld (ρ 324) a 0 else if o = b then fld (ρ 324) d 0 else if o = a then fld (ρ 324) b 0 else fld (ρ 324) o 0 := fun o ho => by
      rw [af.2 o (by rw [en]; exact ho) 0 (by decide), fld_rtu hne o 0 (by decide), if_pos rfl]
    have hn : ¬ fROR (ρ 324) a b d < 0 := rg_sum (bN a ha) (bR a ha) wa (bN b hb) (bR b hb) wb (bN d hd) (bR d hd) wd
    have fin : ∀ (y : Int32) (h2 : jv_H), rgG B n cx sx h0 K m a b d ρ y → LX B n (hOp ρ (gRin (ρ 324) (iN a) (iN b) (iN d)) (nRin (ρ 324) (iN a) (iN b) (iN d))) [(q2, 3, (upd (upd (upd (fun _ => 0) 0 (vO9 (ρ 324) (iN a))) 1 (vO9 (ρ 324) (iN b))) 2 (vO9 (ρ 324) (iN d)))), (q1, 3, (upd (upd (upd (fun _ => 0) 0 (vO (ρ 324) (iN a) 0)) 1 (vO (ρ 324) (iN b) 0)) 2 (vO (ρ 324) (iN d) 0)))] cx sx h0 h2 → jE 196 186 [some (.ref B), some (.int m), some (.int y), some (.int 1), some (.int (iN a)), some (.int (iN b)), some (.int (iN d)), some (.ref q1), some (.ref q2), some (.int (fROR (ρ 324) a b d))] [] h2 K := by
      intro y h2 hGy hx2
      have oN : ∀ o, o < nM (ρ 324) → vO N (iN o) 0 = fld N o 0 := fun o ho => vO_i h3N (by rw [en]; exact ho) (by decide)
      have oR : ∀ o, o < nM (ρ 324) → vO (ρ 324) (iN o) 0 = fld (ρ 324) o 0 := fun o ho => vO_i h3 ho (by decide)
      have o9N : ∀ o, o < nM (ρ 324) → vO9 N (iN o) = fJo (rtu (ρ 324) a b d) o + 100 := fun o ho => by rw [vO9_i h3N (by rw [en]; exact ho), jN o ho]
      have o9R : ∀ o, o < nM (ρ 324) → vO9 (ρ 324) (iN o) = fJo (ρ 324) o + 100 := fun o ho => vO9_i h3 ho
      refine rg_186 hx2 ⟨?_, ?_, ?_, ?_, ?_, ?_, ?_, ?_, fun h3 hx3 => ?_⟩
      · rw [hN, eN, oN a ha, s0 a ha, if_neg hne.2.2, if_neg hne.1, if_pos rfl, ← oR b hb]
        rfl
      · rw [hN, eN, oN b hb, s0 b hb, if_neg hne.2.1, if_pos rfl, ← oR d hd]
        rfl
      · rw [hN, eN, oN d hd, s0 d hd, if_pos rfl, ← oR a ha]
        rfl
      · rw [hN, eN, o9N a ha]
        show ¬ _ < vO9 (ρ 324) (iN a)
        rw [o9R a ha]
        exact rg_ge (bN a ha) (bR a ha) wa
      · rw [hN, eN, o9N b hb]
        show ¬ _ < vO9 (ρ 324) (iN b)
        rw [o9R b hb]
        exact rg_ge (bN b hb) (bR b hb) wb
      · rw [hN, eN, o9N d hd]
        show ¬ _ < vO9 (ρ 324) (iN d)
        rw [o9R d hd]
        exact rg_ge (bN d hd) (bR d hd) wd
      · rw [hN, eN, o9N a ha, o9N b hb, o9N d hd]
        show fROR (ρ 324) a b d = _ - vO9 (ρ 324) (iN a) - vO9 (ρ 324) (iN b) - vO9 (ρ 324) (iN d)
        rw [o9R a ha, o9R b hb, o9R d hd]
        unfold fROR fRR
        grind
      · rw [if_neg u0]
        exact Int32.not_lt.mpr u1
      · rw [ed]
        exact hGy h3 _ _ _ _ us hx3
    refine rg_148 hx1 ⟨fun _ => ⟨fun z h2 hx2 => ?_, fun z h2 hx2 => ?_⟩, fun z => absurd z hn⟩
    · rw [if_neg (fun w => z w.2)] at hG
      exact fin _ h2 hG hx2
    · rw [if_pos ⟨rfl, z⟩] at hG
      rw [show iN k + 1 = iN (k + 1) from iN_add k 1]
      exact fin _ h2 hG hx2
  · have g : ¬ gRin (ρ 324) (iN a) (iN b) (iN d) := fun z => eg.mp z (by rcases w with w | w <;> rw [w] <;> decide)
    rw [hOp_f g] at hx1
    have w0 : ¬ fWhyR (ρ 324) a b d = 0 := by rcases w with w | w <;> rw [w] <;> decide
    rw [if_neg (fun z => w0 z.1)] at hG
    rcases w with w | w
    · rw [w, if_pos (by decide)]
      refine rg_148 hx1 ⟨fun z => absurd (by decide) z, fun _ => ⟨fun _ h2 hx2 => ?_, fun z => absurd (by decide) z⟩⟩
      rw [ed]
      exact hG h2 _ _ _ _ Sm.rf hx2
    · rw [w, if_pos (by decide)]
      refine rg_148 hx1 ⟨fun z => absurd (by decide) z, fun _ => ⟨fun z => absurd z (by decide), fun _ => ⟨by decide, fun h2 hx2 => ?_⟩⟩⟩
      rw [ed]
      exact hG h2 _ _ _ _ Sm.rf hx2
/-- third ones, from the j-th on -/
theorem rg_c {cx sx a b y0 N : Nat} (hN : nM (ρ 324) = N) (ha : a < N) (hb : a < b ∧ b < N) (hG : ∀ (h : jv_H) (τ : gS) (w6 w7 w8 w9 : Option Value), Sm ρ τ → RQ τ → LX B n τ [] cx sx h0 h → jE 196 29 [some (.ref B), some (.int (iN N)), some (.int (iN (nfold (rgC (ρ 324) a b) (N - (a + 1)) y0))), some (.int 1), some (.int (iN a)), some (.int (iN (b + 1))), w6, w7, w8, w9] [] h K) :
    ∀ (e j : Nat), j + e = N - (a + 1) → ∀ {h : jv_H} {τ : gS} {w7 w8 w9 : Option Value}, Sm ρ τ → RQ τ → LX B n τ [] (cx + 2 * e) (sx + 6 * e) h0 h → jE 196 45 [some (.ref B), some (.int (iN N)), some (.int (iN (nfold (rgC (ρ 324) a b) j y0))), some (.int 1), some (.int (iN a)), some (.int (iN b)), some (.int (iN (a + 1 + j))), w7, w8, w9] [] h K := by
  intro e
  induction e with
  | zero =>
    intro j hj h τ w7 w8 w9 hs hQ hx
    have hj : j = N - (a + 1) := by omega
    have l20 := hQ.1.n.2
    rw [hs.1, hN] at l20
    refine rg_45 hx ⟨fun _ h1 hx1 => ?_, fun z => ?_⟩
    · rw [show iN b + 1 = iN (b + 1) from iN_add b 1, hj]
      exact hG h1 τ _ _ _ _ hs hQ hx1
    · exact absurd ((iN_lt (by omega) (by omega)).mp z) (by omega)
  | succ e ih =>
    intro j hj h τ w7 w8 w9 hs hQ hx
    have l20 := hQ.1.n.2
    rw [hs.1, hN] at l20
    have hR := hs.1
    have es : nfold (rgC (ρ 324) a b) (j + 1) y0 = rgC (ρ 324) a b j (nfold (rgC (ρ 324) a b) j y0) := rfl
    refine rg_45 hx ⟨fun z => absurd ((iN_lt (by omega) (by omega)).mpr (by omega)) z, fun _ => ⟨fun z h1 hx1 => ?_, fun z h1 hx1 => ?_⟩⟩
    · have hne : b ≠ a + 1 + j := fun w => z (by rw [w])
      refine rg_d (ρ := τ) (cx := cx + 2 * e) (sx := sx + 6 * e) hQ (by rw [hR, hN]; omega) (by rw [hR, hN]; omega) (by rw [hR, hN]; omega) ⟨by omega, hne, by omega⟩ (hx1.le (by omega) (by omega)) ?_
      intro h2 κ r7 r8 r9 hs2 hx2
      have q := ih (j + 1) (by omega) (w7 := r7) (w8 := r8) (w9 := r9) (hs.trans hs2) (hQ.sm hs2 hx2.inf) hx2
      rw [es] at q
      unfold rgC at q
      rw [hR]
      rw [show a + 1 + (j + 1) = a + 1 + j + 1 by omega] at q
      by_cases w : fWhyR (ρ 324) a b (a + 1 + j) = 0 ∧ 0 < fROR (ρ 324) a b (a + 1 + j)
      · rw [if_pos w]
        rw [if_pos ⟨hne, w⟩] at q
        exact q
      · rw [if_neg w]
        rw [if_neg (fun v => w v.2)] at q
        exact q
    · have hbe : b = a + 1 + j := (iN_inj (by omega) (by omega)).mp z
      have q := ih (j + 1) (by omega) (w7 := w7) (w8 := w8) (w9 := w9) hs hQ (hx1.le (by omega) (by omega))
      rw [es] at q
      unfold rgC at q
      rw [if_neg (fun v => v.1 hbe)] at q
      rw [show iN (a + 1 + j) + 1 = iN (a + 1 + (j + 1)) from iN_add (a + 1 + j) 1]
      exact q
/-- second ones -/
theorem rg_b {cx sx a y0 N : Nat} (hN : nM (ρ 324) = N) (ha : a < N) (hG : ∀ (h : jv_H) (τ : gS) (w5 w6 w7 w8 w9 : Option Value), Sm ρ τ → RQ τ → LX B n τ [] cx sx h0 h → jE 196 13 [some (.ref B), some (.int (iN N)), some (.int (iN (nfold (rgB (ρ 324) a) (N - (a + 1)) y0))), some (.int 1), some (.int (iN (a + 1))), w5, w6, w7, w8, w9] [] h K) :
    ∀ (e i : Nat), i + e = N - (a + 1) → ∀ {h : jv_H} {τ : gS} {w6 w7 w8 w9 : Option Value}, Sm ρ τ → RQ τ → LX B n τ [] (cx + 40 * e) (sx + 120 * e) h0 h → jE 196 29 [some (.ref B), some (.int (iN N)), some (.int (iN (nfold (rgB (ρ 324) a) i y0))), some (.int 1), some (.int (iN a)), some (.int (iN (a + 1 + i))), w6, w7, w8, w9] [] h K := by
  intro e
  induction e with
  | zero =>
    intro i hi h τ w6 w7 w8 w9 hs hQ hx
    have hi2 : i = N - (a + 1) := by omega
    have l20 := hQ.1.n.2
    rw [hs.1, hN] at l20
    refine rg_29 hx ⟨fun _ h1 hx1 => ?_, fun z => ?_⟩
    · rw [show iN a + 1 = iN (a + 1) from iN_add a 1, hi2]
      exact hG h1 τ _ _ _ _ _ hs hQ hx1
    · exact absurd ((iN_lt (by omega) (by omega)).mp z) (by omega)
  | succ e ih =>
    intro i hi h τ w6 w7 w8 w9 hs hQ hx
    have l20 := hQ.1.n.2
    rw [hs.1, hN] at l20
    refine rg_29 hx ⟨fun z => absurd ((iN_lt (by omega) (by omega)).mpr (by omega)) z, fun _ h1 hx1 => ?_⟩
    rw [show iN a + 1 = iN (a + 1 + 0) from iN_add a 1]
    refine rg_c (ρ := ρ) (cx := cx + 40 * e) (sx := sx + 120 * e) (y0 := nfold (rgB (ρ 324) a) i y0) hN ha ⟨by omega, by omega⟩ (fun h2 κ v6 v7 v8 v9 hs2 hQ2 hx2 => ?_) (N - (a + 1)) 0 (by omega) hs hQ (hx1.le (by omega) (by omega))
    have q := ih (i + 1) (by omega) (w6 := v6) (w7 := v7) (w8 := v8) (w9 := v9) hs2 hQ2 hx2
    have es : nfold (rgB (ρ 324) a) (i + 1) y0 = nfold (rgC (ρ 324) a (a + 1 + i)) (N - (a + 1)) (nfold (rgB (ρ 324) a) i y0) := by
      show rgB (ρ 324) a i (nfold (rgB (ρ 324) a) i y0) = _
      unfold rgB
      rw [hN]
    rw [es, show a + 1 + (i + 1) = a + 1 + i + 1 by omega] at q
    exact q
/-- first ones -/
theorem rg_a {cx sx N : Nat} (hN : nM (ρ 324) = N) (hK : ∀ (τ : gS) (h : jv_H), Sm ρ τ → LX B n τ [] cx sx h0 h → K (some (.int 1)) h) :
    ∀ (e a : Nat), a + e = N → ∀ {h : jv_H} {τ : gS} {w5 w6 w7 w8 w9 : Option Value}, Sm ρ τ → RQ τ → LX B n τ [] (cx + 800 * e) (sx + 2400 * e) h0 h → jE 196 13 [some (.ref B), some (.int (iN N)), some (.int (iN (nfold (rgA (ρ 324)) a 0))), some (.int 1), some (.int (iN a)), w5, w6, w7, w8, w9] [] h K := by
  intro e
  induction e with
  | zero =>
    intro a ha h τ w5 w6 w7 w8 w9 hs hQ hx
    have ha : a = N := by omega
    have l20 := hQ.1.n.2
    rw [hs.1, hN] at l20
    refine rg_13 hx ⟨fun _ => ⟨?_, fun h1 hx1 => hK τ h1 hs hx1⟩, fun z => ?_⟩
    · rw [hs.1]
      unfold fRi
      rw [hN, ha]
    · exact absurd ((iN_lt (by omega) (by omega)).mp z) (by omega)
  | succ e ih =>
    intro a ha h τ w5 w6 w7 w8 w9 hs hQ hx
    have l20 := hQ.1.n.2
    rw [hs.1, hN] at l20
    refine rg_13 hx ⟨fun z => absurd ((iN_lt (by omega) (by omega)).mpr (by omega)) z, fun _ h1 hx1 => ?_⟩
    rw [show iN a + 1 = iN (a + 1 + 0) from iN_add a 1]
    refine rg_b (ρ := ρ) (cx := cx + 800 * e) (sx := sx + 2400 * e) (y0 := nfold (rgA (ρ 324)) a 0) hN (by omega) (fun h2 κ v5 v6 v7 v8 v9 hs2 hQ2 hx2 => ?_) (N - (a + 1)) 0 (by omega) hs hQ (hx1.le (by omega) (by omega))
    have q := ih (a + 1) (by omega) (w5 := v5) (w6 := v6) (w7 := v7) (w8 := v8) (w9 := v9) hs2 hQ2 hx2
    have es : nfold (rgA (ρ 324)) (a + 1) 0 = nfold (rgB (ρ 324) a) (N - (a + 1)) (nfold (rgA (ρ 324)) a 0) := by
      show rgA (ρ 324) a (nfold (rgA (ρ 324)) a 0) = _
      unfold rgA
      rw [hN]
    rw [es] at q
    exact q
theorem lm_rings {c s : Nat} (sp : SP ρ) : LMx 196 [some (.ref B), none, none, none, none, none, none, none, none, none] B n ρ (c + 16000) (s + 48000) (.int 1) c s := fun h hx => by
  have hi := hx.inf
  obtain ⟨e3, l20⟩ := hi.n
  refine rg_0 hx (fun h1 hx1 => ?_)
  rw [e3]
  exact rg_a (cx := c) (sx := s) rfl (fun τ h2 hs hx2 => ⟨rfl, τ, hs, hx2⟩) (nM (ρ 324)) 0 (by omega) Sm.rf ⟨hi, sp⟩ (hx1.le (by omega) (by omega))
end RG
