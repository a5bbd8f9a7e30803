/-! swaps(x, a, w) -/
theorem sw_0 {B n c s : Nat} {ρ : gS} {h0 h : jv_H} {K : jK} {a w : Int32} (hx : LX B n ρ [] c s h0 h) (T : ((aWy (ρ 324) a a 0) = (-1) ∧ ((aIs (ρ 324) a a 0) = (-1) ∧ (∀ h1, LX B n ρ [] c s h0 h1 → jE 194 38 [some (.ref B), some (.int a), some (.int w), some (.int (ρ 324 3)), some (.int 1), some (.int 0), none, none, none, none, none, none, none, none, none, none] [] h1 K)))) : jE 194 0 [some (.ref B), some (.int a), some (.int w), none, none, none, none, none, none, none, none, none, none, none, none, none] [] h K := by
  refine jx_blk (by decide) [(.aload_n 0, 1), (.iconst 3, 1)] (pc' := 2) (Lv' := [some (.ref B), some (.int a), some (.int w), none, none, none, none, none, none, none, none, none, none, none, none, none]) (st' := [.int 3, .ref B]) (by decide +kernel) rfl ?_
  refine lx_call (z := 123) (na := 2) (mL := 2) (v := .int (ρ 324 3)) (ρ' := ρ) (r := []) [3] (by decide +kernel) hx xr_v3 hx.1.1 rfl rfl (fun _ => rfl) (Nat.le_of_ble_eq_true rfl) (fun h1 hx2 => ?_)
  refine jx_blk (by decide) [(.istore_n 3, 1), (.aload_n 0, 1), (.iload_n 1, 1), (.iload_n 1, 1), (.iconst 0, 1)] (pc' := 10) (Lv' := [some (.ref B), some (.int a), some (.int w), some (.int (ρ 324 3)), none, none, none, none, none, none, none, none, none, none, none, none]) (st' := [.int 0, .int a, .int a, .ref B]) (by decide +kernel) rfl ?_
  refine lx_call (z := 130) (na := 4) (mL := 4) (v := .int (aWy (ρ 324) a a 0)) (ρ' := ρ) (r := []) [0, a, a] (by decide +kernel) hx2 xr_why hx2.1.1 rfl rfl (fun _ => rfl) (Nat.le_of_ble_eq_true rfl) (fun h3 hx4 => ?_)
  refine jx_blk (by decide) [(.iconst (-1), 1)] (pc' := 14) (Lv' := [some (.ref B), some (.int a), some (.int w), some (.int (ρ 324 3)), none, none, none, none, none, none, none, none, none, none, none, none]) (st' := [.int (-1), .int (aWy (ρ 324) a a 0)]) (by decide +kernel) rfl ?_
  refine jx_ic_ne (off := 18) (b := 32) (by decide) (by decide +kernel) (by decide) (fun e => absurd T.1 e) (fun _ => ?_)
  have t6 := T.2
  refine jx_blk (by decide) [(.aload_n 0, 1), (.iload_n 1, 1), (.iload_n 1, 1), (.iconst 0, 1)] (pc' := 21) (Lv' := [some (.ref B), some (.int a), some (.int w), some (.int (ρ 324 3)), none, none, none, none, none, none, none, none, none, none, none, none]) (st' := [.int 0, .int a, .int a, .ref B]) (by decide +kernel) rfl ?_
  refine lx_call (z := 133) (na := 4) (mL := 4) (v := .int (aIs (ρ 324) a a 0)) (ρ' := ρ) (r := []) [0, a, a] (by decide +kernel) hx4 xr_ifSwapped hx4.1.1 rfl rfl (fun _ => rfl) (Nat.le_of_ble_eq_true rfl) (fun h7 hx8 => ?_)
  refine jx_blk (by decide) [(.iconst (-1), 1)] (pc' := 25) (Lv' := [some (.ref B), some (.int a), some (.int w), some (.int (ρ 324 3)), none, none, none, none, none, none, none, none, none, none, none, none]) (st' := [.int (-1), .int (aIs (ρ 324) a a 0)]) (by decide +kernel) rfl ?_
  refine jx_ic_ne (off := 7) (b := 32) (by decide) (by decide +kernel) (by decide) (fun e => absurd t6.1 e) (fun _ => ?_)
  have t10 := t6.2
  refine jx_blk (by decide) [(.iconst 1, 1)] (pc' := 29) (Lv' := [some (.ref B), some (.int a), some (.int w), some (.int (ρ 324 3)), none, none, none, none, none, none, none, none, none, none, none, none]) (st' := [.int 1]) (by decide +kernel) rfl ?_
  refine jx_goto (off := 4) (b := 33) (by decide) (by decide +kernel) (by decide) ?_
  refine jx_blk (by decide) [(.istore 4, 2), (.iconst 0, 1), (.istore 5, 2)] (pc' := 38) (Lv' := [some (.ref B), some (.int a), some (.int w), some (.int (ρ 324 3)), some (.int 1), some (.int 0), none, none, none, none, none, none, none, none, none, none]) (st' := []) (by decide +kernel) rfl ?_
  exact t10 _ hx8

theorem sw_38 {B n c s : Nat} {ρ : gS} {h0 h : jv_H} {K : jK} {a w m b : Int32} {r6 r7 r8 r9 r10 r11 r12 r13 r14 r15 : Option Value} (hx : LX B n ρ [] c s h0 h) (T : ((¬ b < m → (∀ h1, LX B n ρ [] c s h0 h1 → jE 194 605 [some (.ref B), some (.int a), some (.int w), some (.int m), some (.int 1), some (.int b), r6, r7, r8, r9, r10, r11, r12, r13, r14, r15] [] h1 K)) ∧ (b < m → ((¬ a = b → (∀ h1, LX B n ρ [] c s h0 h1 → jE 194 106 [some (.ref B), some (.int a), some (.int w), some (.int m), some (.int 1), some (.int b), some (.int (aLe (ρ 324) a b)), some (.int ((aIs (ρ 324) a b 0) - 100)), some (.int ((aIs (ρ 324) a b 1) - 100)), some (.int (aIs (ρ 324) a b 2)), some (.int 0), r11, r12, r13, r14, r15] [] h1 K)) ∧ (a = b → (∀ h1, LX B n ρ [] c s h0 h1 → jE 194 38 [some (.ref B), some (.int a), some (.int w), some (.int m), some (.int 1), some (.int (b + 1)), r6, r7, r8, r9, r10, r11, r12, r13, r14, r15] [] h1 K)))))) : jE 194 38 [some (.ref B), some (.int a), some (.int w), some (.int m), some (.int 1), some (.int b), r6, r7, r8, r9, r10, r11, r12, r13, r14, r15] [] h K := by
  refine jx_blk (by decide) [(.iload 5, 2), (.iload_n 3, 1)] (pc' := 41) (Lv' := [some (.ref B), some (.int a), some (.int w), some (.int m), some (.int 1), some (.int b), r6, r7, r8, r9, r10, r11, r12, r13, r14, r15]) (st' := [.int m, .int b]) (by decide +kernel) rfl ?_
  refine jx_ic_ge (off := 564) (b := 605) (by decide) (by decide +kernel) (by decide) (fun e1 => ?_) (fun e1 => ?_)
  · have t2 := T.1 e1
    exact t2 _ hx
  · have t3 := T.2 e1
    refine jx_blk (by decide) [(.iload 4, 2)] (pc' := 46) (Lv' := [some (.ref B), some (.int a), some (.int w), some (.int m), some (.int 1), some (.int b), r6, r7, r8, r9, r10, r11, r12, r13, r14, r15]) (st' := [.int 1]) (by decide +kernel) rfl ?_
    refine jx_if_eq (off := 559) (b := 605) (by decide) (by decide +kernel) (by decide) (fun e => absurd e (by decide)) (fun _ => ?_)
    refine jx_blk (by decide) [(.iload_n 1, 1), (.iload 5, 2)] (pc' := 52) (Lv' := [some (.ref B), some (.int a), some (.int w), some (.int m), some (.int 1), some (.int b), r6, r7, r8, r9, r10, r11, r12, r13, r14, r15]) (st' := [.int b, .int a]) (by decide +kernel) rfl ?_
    refine jx_ic_ne (off := 6) (b := 58) (by decide) (by decide +kernel) (by decide) (fun e4 => ?_) (fun e4 => ?_)
    · have t5 := t3.1 e4
      refine jx_blk (by decide) [(.aload_n 0, 1), (.iload_n 1, 1), (.iload 5, 2)] (pc' := 62) (Lv' := [some (.ref B), some (.int a), some (.int w), some (.int m), some (.int 1), some (.int b), r6, r7, r8, r9, r10, r11, r12, r13, r14, r15]) (st' := [.int b, .int a, .ref B]) (by decide +kernel) rfl ?_
      refine lx_call (z := 134) (na := 3) (mL := 4) (v := .int (aLe (ρ 324) a b)) (ρ' := ρ) (r := []) [b, a] (by decide +kernel) hx xr_leastPrice hx.1.1 rfl rfl (fun _ => rfl) (Nat.le_of_ble_eq_true rfl) (fun h7 hx8 => ?_)
      refine jx_blk (by decide) [(.istore 6, 2), (.aload_n 0, 1), (.iload_n 1, 1), (.iload 5, 2), (.iconst 0, 1)] (pc' := 72) (Lv' := [some (.ref B), some (.int a), some (.int w), some (.int m), some (.int 1), some (.int b), some (.int (aLe (ρ 324) a b)), r7, r8, r9, r10, r11, r12, r13, r14, r15]) (st' := [.int 0, .int b, .int a, .ref B]) (by decide +kernel) rfl ?_
      refine lx_call (z := 133) (na := 4) (mL := 4) (v := .int (aIs (ρ 324) a b 0)) (ρ' := ρ) (r := []) [0, b, a] (by decide +kernel) hx8 xr_ifSwapped hx8.1.1 rfl rfl (fun _ => rfl) (Nat.le_of_ble_eq_true rfl) (fun h9 hx10 => ?_)
      refine jx_blk (by decide) [(.bipush 100, 2), (.isub, 1), (.istore 7, 2), (.aload_n 0, 1), (.iload_n 1, 1), (.iload 5, 2), (.iconst 1, 1)] (pc' := 85) (Lv' := [some (.ref B), some (.int a), some (.int w), some (.int m), some (.int 1), some (.int b), some (.int (aLe (ρ 324) a b)), some (.int ((aIs (ρ 324) a b 0) - 100)), r8, r9, r10, r11, r12, r13, r14, r15]) (st' := [.int 1, .int b, .int a, .ref B]) (by decide +kernel) rfl ?_
      refine lx_call (z := 133) (na := 4) (mL := 4) (v := .int (aIs (ρ 324) a b 1)) (ρ' := ρ) (r := []) [1, b, a] (by decide +kernel) hx10 xr_ifSwapped hx10.1.1 rfl rfl (fun _ => rfl) (Nat.le_of_ble_eq_true rfl) (fun h11 hx12 => ?_)
      refine jx_blk (by decide) [(.bipush 100, 2), (.isub, 1), (.istore 8, 2), (.aload_n 0, 1), (.iload_n 1, 1), (.iload 5, 2), (.iconst 2, 1)] (pc' := 98) (Lv' := [some (.ref B), some (.int a), some (.int w), some (.int m), some (.int 1), some (.int b), some (.int (aLe (ρ 324) a b)), some (.int ((aIs (ρ 324) a b 0) - 100)), some (.int ((aIs (ρ 324) a b 1) - 100)), r9, r10, r11, r12, r13, r14, r15]) (st' := [.int 2, .int b, .int a, .ref B]) (by decide +kernel) rfl ?_
      refine lx_call (z := 133) (na := 4) (mL := 4) (v := .int (aIs (ρ 324) a b 2)) (ρ' := ρ) (r := []) [2, b, a] (by decide +kernel) hx12 xr_ifSwapped hx12.1.1 rfl rfl (fun _ => rfl) (Nat.le_of_ble_eq_true rfl) (fun h13 hx14 => ?_)
      refine jx_blk (by decide) [(.istore 9, 2), (.iconst 0, 1), (.istore 10, 2)] (pc' := 106) (Lv' := [some (.ref B), some (.int a), some (.int w), some (.int m), some (.int 1), some (.int b), some (.int (aLe (ρ 324) a b)), some (.int ((aIs (ρ 324) a b 0) - 100)), some (.int ((aIs (ρ 324) a b 1) - 100)), some (.int (aIs (ρ 324) a b 2)), some (.int 0), r11, r12, r13, r14, r15]) (st' := []) (by decide +kernel) rfl ?_
      exact t5 _ hx14
    · have t6 := t3.2 e4
      refine jx_goto (off := 544) (b := 599) (by decide) (by decide +kernel) (by decide) ?_
      refine jx_blk (by decide) [(.iinc 5 1, 3)] (pc' := 602) (Lv' := [some (.ref B), some (.int a), some (.int w), some (.int m), some (.int 1), some (.int (b + 1)), r6, r7, r8, r9, r10, r11, r12, r13, r14, r15]) (st' := []) (by decide +kernel) rfl ?_
      refine jx_goto (off := (-564)) (b := 38) (by decide) (by decide +kernel) (by decide) ?_
      exact t6 _ hx

theorem sw_106 {B n c s : Nat} {ρ : gS} {h0 h : jv_H} {K : jK} {a w m b le up ot al x : Int32} {r11 r12 r13 r14 r15 : Option Value} (hx : LX B n ρ [] c s h0 h) (T : ((¬ x < 10 → (∀ h1, LX B n ρ [] c s h0 h1 → jE 194 551 [some (.ref B), some (.int a), some (.int w), some (.int m), some (.int 1), some (.int b), some (.int le), some (.int up), some (.int ot), some (.int al), some (.int x), r11, r12, r13, r14, r15] [] h1 K)) ∧ (x < 10 → ((¬ (vO (ρ 324) a 1) = 0 → ((¬ (vO (ρ 324) b 1) = 0 → (∀ h1, LX B n ρ [] c s h0 h1 → jE 194 186 [some (.ref B), some (.int a), some (.int w), some (.int m), some (.int 1), some (.int b), some (.int le), some (.int up), some (.int ot), some (.int al), some (.int x), some (.int (aWy (ρ 324) a b x)), r12, r13, r14, r15] [.int 0] h1 K)) ∧ ((vO (ρ 324) b 1) = 0 → ((¬ ((vO (ρ 324) a 0) / 4) < (ρ 324 1) → (∀ h1, LX B n ρ [] c s h0 h1 → jE 194 186 [some (.ref B), some (.int a), some (.int w), some (.int m), some (.int 1), some (.int b), some (.int le), some (.int up), some (.int ot), some (.int al), some (.int x), some (.int (aWy (ρ 324) a b x)), r12, r13, r14, r15] [.int 0] h1 K)) ∧ (((vO (ρ 324) a 0) / 4) < (ρ 324 1) → (∀ h1, LX B n ρ [] c s h0 h1 → jE 194 186 [some (.ref B), some (.int a), some (.int w), some (.int m), some (.int 1), some (.int b), some (.int le), some (.int up), some (.int ot), some (.int al), some (.int x), some (.int (aWy (ρ 324) a b x)), r12, r13, r14, r15] [.int 1] h1 K)))))) ∧ ((vO (ρ 324) a 1) = 0 → ((((vO (ρ 324) b 0) / 4) < (ρ 324 1) → (∀ h1, LX B n ρ [] c s h0 h1 → jE 194 186 [some (.ref B), some (.int a), some (.int w), some (.int m), some (.int 1), some (.int b), some (.int le), some (.int up), some (.int ot), some (.int al), some (.int x), some (.int (aWy (ρ 324) a b x)), r12, r13, r14, r15] [.int 1] h1 K)) ∧ (¬ ((vO (ρ 324) b 0) / 4) < (ρ 324 1) → ((¬ (vO (ρ 324) b 1) = 0 → (∀ h1, LX B n ρ [] c s h0 h1 → jE 194 186 [some (.ref B), some (.int a), some (.int w), some (.int m), some (.int 1), some (.int b), some (.int le), some (.int up), some (.int ot), some (.int al), some (.int x), some (.int (aWy (ρ 324) a b x)), r12, r13, r14, r15] [.int 0] h1 K)) ∧ ((vO (ρ 324) b 1) = 0 → ((¬ ((vO (ρ 324) a 0) / 4) < (ρ 324 1) → (∀ h1, LX B n ρ [] c s h0 h1 → jE 194 186 [some (.ref B), some (.int a), some (.int w), some (.int m), some (.int 1), some (.int b), some (.int le), some (.int up), some (.int ot), some (.int al), some (.int x), some (.int (aWy (ρ 324) a b x)), r12, r13, r14, r15] [.int 0] h1 K)) ∧ (((vO (ρ 324) a 0) / 4) < (ρ 324 1) → (∀ h1, LX B n ρ [] c s h0 h1 → jE 194 186 [some (.ref B), some (.int a), some (.int w), some (.int m), some (.int 1), some (.int b), some (.int le), some (.int up), some (.int ot), some (.int al), some (.int x), some (.int (aWy (ρ 324) a b x)), r12, r13, r14, r15] [.int 1] h1 K)))))))))))) : jE 194 106 [some (.ref B), some (.int a), some (.int w), some (.int m), some (.int 1), some (.int b), some (.int le), some (.int up), some (.int ot), some (.int al), some (.int x), r11, r12, r13, r14, r15] [] h K := by
  refine jx_blk (by decide) [(.iload 10, 2), (.bipush 10, 2)] (pc' := 110) (Lv' := [some (.ref B), some (.int a), some (.int w), some (.int m), some (.int 1), some (.int b), some (.int le), some (.int up), some (.int ot), some (.int al), some (.int x), r11, r12, r13, r14, r15]) (st' := [.int 10, .int x]) (by decide +kernel) rfl ?_
  refine jx_ic_ge (off := 441) (b := 551) (by decide) (by decide +kernel) (by decide) (fun e1 => ?_) (fun e1 => ?_)
  · have t2 := T.1 e1
    exact t2 _ hx
  · have t3 := T.2 e1
    refine jx_blk (by decide) [(.iload 4, 2)] (pc' := 115) (Lv' := [some (.ref B), some (.int a), some (.int w), some (.int m), some (.int 1), some (.int b), some (.int le), some (.int up), some (.int ot), some (.int al), some (.int x), r11, r12, r13, r14, r15]) (st' := [.int 1]) (by decide +kernel) rfl ?_
    refine jx_if_eq (off := 436) (b := 551) (by decide) (by decide +kernel) (by decide) (fun e => absurd e (by decide)) (fun _ => ?_)
    refine jx_blk (by decide) [(.aload_n 0, 1), (.iload_n 1, 1), (.iload 5, 2), (.iload 10, 2)] (pc' := 124) (Lv' := [some (.ref B), some (.int a), some (.int w), some (.int m), some (.int 1), some (.int b), some (.int le), some (.int up), some (.int ot), some (.int al), some (.int x), r11, r12, r13, r14, r15]) (st' := [.int x, .int b, .int a, .ref B]) (by decide +kernel) rfl ?_
    refine lx_call (z := 130) (na := 4) (mL := 4) (v := .int (aWy (ρ 324) a b x)) (ρ' := ρ) (r := []) [x, b, a] (by decide +kernel) hx xr_why hx.1.1 rfl rfl (fun _ => rfl) (Nat.le_of_ble_eq_true rfl) (fun h4 hx5 => ?_)
    refine jx_blk (by decide) [(.istore 11, 2), (.aload_n 0, 1), (.iload_n 1, 1), (.iconst 1, 1)] (pc' := 132) (Lv' := [some (.ref B), some (.int a), some (.int w), some (.int m), some (.int 1), some (.int b), some (.int le), some (.int up), some (.int ot), some (.int al), some (.int x), some (.int (aWy (ρ 324) a b x)), r12, r13, r14, r15]) (st' := [.int 1, .int a, .ref B]) (by decide +kernel) rfl ?_
    refine lx_call (z := 124) (na := 3) (mL := 4) (v := .int (vO (ρ 324) a 1)) (ρ' := ρ) (r := []) [1, a] (by decide +kernel) hx5 xr_o1 hx5.1.1 rfl rfl (fun _ => rfl) (Nat.le_of_ble_eq_true rfl) (fun h6 hx7 => ?_)
    refine jx_if_ne (off := 20) (b := 155) (by decide) (by decide +kernel) (by decide) (fun e8 => ?_) (fun e8 => ?_)
    · have t9 := t3.1 e8
      refine jx_blk (by decide) [(.aload_n 0, 1), (.iload 5, 2), (.iconst 1, 1)] (pc' := 159) (Lv' := [some (.ref B), some (.int a), some (.int w), some (.int m), some (.int 1), some (.int b), some (.int le), some (.int up), some (.int ot), some (.int al), some (.int x), some (.int (aWy (ρ 324) a b x)), r12, r13, r14, r15]) (st' := [.int 1, .int b, .ref B]) (by decide +kernel) rfl ?_
      refine lx_call (z := 124) (na := 3) (mL := 4) (v := .int (vO (ρ 324) b 1)) (ρ' := ρ) (r := []) [1, b] (by decide +kernel) hx7 xr_o1 hx7.1.1 rfl rfl (fun _ => rfl) (Nat.le_of_ble_eq_true rfl) (fun h11 hx12 => ?_)
      refine jx_if_ne (off := 23) (b := 185) (by decide) (by decide +kernel) (by decide) (fun e13 => ?_) (fun e13 => ?_)
      · have t14 := t9.1 e13
        refine jx_blk (by decide) [(.iconst 0, 1)] (pc' := 186) (Lv' := [some (.ref B), some (.int a), some (.int w), some (.int m), some (.int 1), some (.int b), some (.int le), some (.int up), some (.int ot), some (.int al), some (.int x), some (.int (aWy (ρ 324) a b x)), r12, r13, r14, r15]) (st' := [.int 0]) (by decide +kernel) rfl ?_
        exact t14 _ hx12
      · have t15 := t9.2 e13
        refine jx_blk (by decide) [(.aload_n 0, 1), (.iload_n 1, 1), (.iconst 0, 1)] (pc' := 168) (Lv' := [some (.ref B), some (.int a), some (.int w), some (.int m), some (.int 1), some (.int b), some (.int le), some (.int up), some (.int ot), some (.int al), some (.int x), some (.int (aWy (ρ 324) a b x)), r12, r13, r14, r15]) (st' := [.int 0, .int a, .ref B]) (by decide +kernel) rfl ?_
        refine lx_call (z := 124) (na := 3) (mL := 4) (v := .int (vO (ρ 324) a 0)) (ρ' := ρ) (r := []) [0, a] (by decide +kernel) hx12 xr_o0 hx12.1.1 rfl rfl (fun _ => rfl) (Nat.le_of_ble_eq_true rfl) (fun h16 hx17 => ?_)
        refine jx_blk (by decide) [(.iconst 4, 1), (.idiv, 1), (.aload_n 0, 1), (.iconst 1, 1)] (pc' := 175) (Lv' := [some (.ref B), some (.int a), some (.int w), some (.int m), some (.int 1), some (.int b), some (.int le), some (.int up), some (.int ot), some (.int al), some (.int x), some (.int (aWy (ρ 324) a b x)), r12, r13, r14, r15]) (st' := [.int 1, .ref B, .int ((vO (ρ 324) a 0) / 4)]) (by decide +kernel) rfl ?_
        refine lx_call (z := 123) (na := 2) (mL := 2) (v := .int (ρ 324 1)) (ρ' := ρ) (r := [.int ((vO (ρ 324) a 0) / 4)]) [1] (by decide +kernel) hx17 xr_v1 hx17.1.1 rfl rfl (fun _ => rfl) (Nat.le_of_ble_eq_true rfl) (fun h18 hx19 => ?_)
        refine jx_ic_ge (off := 7) (b := 185) (by decide) (by decide +kernel) (by decide) (fun e20 => ?_) (fun e20 => ?_)
        · have t21 := t15.1 e20
          refine jx_blk (by decide) [(.iconst 0, 1)] (pc' := 186) (Lv' := [some (.ref B), some (.int a), some (.int w), some (.int m), some (.int 1), some (.int b), some (.int le), some (.int up), some (.int ot), some (.int al), some (.int x), some (.int (aWy (ρ 324) a b x)), r12, r13, r14, r15]) (st' := [.int 0]) (by decide +kernel) rfl ?_
          exact t21 _ hx19
        · have t22 := t15.2 e20
          refine jx_blk (by decide) [(.iconst 1, 1)] (pc' := 182) (Lv' := [some (.ref B), some (.int a), some (.int w), some (.int m), some (.int 1), some (.int b), some (.int le), some (.int up), some (.int ot), some (.int al), some (.int x), some (.int (aWy (ρ 324) a b x)), r12, r13, r14, r15]) (st' := [.int 1]) (by decide +kernel) rfl ?_
          refine jx_goto (off := 4) (b := 186) (by decide) (by decide +kernel) (by decide) ?_
          exact t22 _ hx19
    · have t10 := t3.2 e8
      refine jx_blk (by decide) [(.aload_n 0, 1), (.iload 5, 2), (.iconst 0, 1)] (pc' := 142) (Lv' := [some (.ref B), some (.int a), some (.int w), some (.int m), some (.int 1), some (.int b), some (.int le), some (.int up), some (.int ot), some (.int al), some (.int x), some (.int (aWy (ρ 324) a b x)), r12, r13, r14, r15]) (st' := [.int 0, .int b, .ref B]) (by decide +kernel) rfl ?_
      refine lx_call (z := 124) (na := 3) (mL := 4) (v := .int (vO (ρ 324) b 0)) (ρ' := ρ) (r := []) [0, b] (by decide +kernel) hx7 xr_o0 hx7.1.1 rfl rfl (fun _ => rfl) (Nat.le_of_ble_eq_true rfl) (fun h23 hx24 => ?_)
      refine jx_blk (by decide) [(.iconst 4, 1), (.idiv, 1), (.aload_n 0, 1), (.iconst 1, 1)] (pc' := 149) (Lv' := [some (.ref B), some (.int a), some (.int w), some (.int m), some (.int 1), some (.int b), some (.int le), some (.int up), some (.int ot), some (.int al), some (.int x), some (.int (aWy (ρ 324) a b x)), r12, r13, r14, r15]) (st' := [.int 1, .ref B, .int ((vO (ρ 324) b 0) / 4)]) (by decide +kernel) rfl ?_
      refine lx_call (z := 123) (na := 2) (mL := 2) (v := .int (ρ 324 1)) (ρ' := ρ) (r := [.int ((vO (ρ 324) b 0) / 4)]) [1] (by decide +kernel) hx24 xr_v1 hx24.1.1 rfl rfl (fun _ => rfl) (Nat.le_of_ble_eq_true rfl) (fun h25 hx26 => ?_)
      refine jx_ic_lt (off := 29) (b := 181) (by decide) (by decide +kernel) (by decide) (fun e27 => ?_) (fun e27 => ?_)
      · have t28 := t10.1 e27
        refine jx_blk (by decide) [(.iconst 1, 1)] (pc' := 182) (Lv' := [some (.ref B), some (.int a), some (.int w), some (.int m), some (.int 1), some (.int b), some (.int le), some (.int up), some (.int ot), some (.int al), some (.int x), some (.int (aWy (ρ 324) a b x)), r12, r13, r14, r15]) (st' := [.int 1]) (by decide +kernel) rfl ?_
        refine jx_goto (off := 4) (b := 186) (by decide) (by decide +kernel) (by decide) ?_
        exact t28 _ hx26
      · have t29 := t10.2 e27
        refine jx_blk (by decide) [(.aload_n 0, 1), (.iload 5, 2), (.iconst 1, 1)] (pc' := 159) (Lv' := [some (.ref B), some (.int a), some (.int w), some (.int m), some (.int 1), some (.int b), some (.int le), some (.int up), some (.int ot), some (.int al), some (.int x), some (.int (aWy (ρ 324) a b x)), r12, r13, r14, r15]) (st' := [.int 1, .int b, .ref B]) (by decide +kernel) rfl ?_
        refine lx_call (z := 124) (na := 3) (mL := 4) (v := .int (vO (ρ 324) b 1)) (ρ' := ρ) (r := []) [1, b] (by decide +kernel) hx26 xr_o1 hx26.1.1 rfl rfl (fun _ => rfl) (Nat.le_of_ble_eq_true rfl) (fun h30 hx31 => ?_)
        refine jx_if_ne (off := 23) (b := 185) (by decide) (by decide +kernel) (by decide) (fun e32 => ?_) (fun e32 => ?_)
        · have t33 := t29.1 e32
          refine jx_blk (by decide) [(.iconst 0, 1)] (pc' := 186) (Lv' := [some (.ref B), some (.int a), some (.int w), some (.int m), some (.int 1), some (.int b), some (.int le), some (.int up), some (.int ot), some (.int al), some (.int x), some (.int (aWy (ρ 324) a b x)), r12, r13, r14, r15]) (st' := [.int 0]) (by decide +kernel) rfl ?_
          exact t33 _ hx31
        · have t34 := t29.2 e32
          refine jx_blk (by decide) [(.aload_n 0, 1), (.iload_n 1, 1), (.iconst 0, 1)] (pc' := 168) (Lv' := [some (.ref B), some (.int a), some (.int w), some (.int m), some (.int 1), some (.int b), some (.int le), some (.int up), some (.int ot), some (.int al), some (.int x), some (.int (aWy (ρ 324) a b x)), r12, r13, r14, r15]) (st' := [.int 0, .int a, .ref B]) (by decide +kernel) rfl ?_
          refine lx_call (z := 124) (na := 3) (mL := 4) (v := .int (vO (ρ 324) a 0)) (ρ' := ρ) (r := []) [0, a] (by decide +kernel) hx31 xr_o0 hx31.1.1 rfl rfl (fun _ => rfl) (Nat.le_of_ble_eq_true rfl) (fun h35 hx36 => ?_)
          refine jx_blk (by decide) [(.iconst 4, 1), (.idiv, 1), (.aload_n 0, 1), (.iconst 1, 1)] (pc' := 175) (Lv' := [some (.ref B), some (.int a), some (.int w), some (.int m), some (.int 1), some (.int b), some (.int le), some (.int up), some (.int ot), some (.int al), some (.int x), some (.int (aWy (ρ 324) a b x)), r12, r13, r14, r15]) (st' := [.int 1, .ref B, .int ((vO (ρ 324) a 0) / 4)]) (by decide +kernel) rfl ?_
          refine lx_call (z := 123) (na := 2) (mL := 2) (v := .int (ρ 324 1)) (ρ' := ρ) (r := [.int ((vO (ρ 324) a 0) / 4)]) [1] (by decide +kernel) hx36 xr_v1 hx36.1.1 rfl rfl (fun _ => rfl) (Nat.le_of_ble_eq_true rfl) (fun h37 hx38 => ?_)
          refine jx_ic_ge (off := 7) (b := 185) (by decide) (by decide +kernel) (by decide) (fun e39 => ?_) (fun e39 => ?_)
          · have t40 := t34.1 e39
            refine jx_blk (by decide) [(.iconst 0, 1)] (pc' := 186) (Lv' := [some (.ref B), some (.int a), some (.int w), some (.int m), some (.int 1), some (.int b), some (.int le), some (.int up), some (.int ot), some (.int al), some (.int x), some (.int (aWy (ρ 324) a b x)), r12, r13, r14, r15]) (st' := [.int 0]) (by decide +kernel) rfl ?_
            exact t40 _ hx38
          · have t41 := t34.2 e39
            refine jx_blk (by decide) [(.iconst 1, 1)] (pc' := 182) (Lv' := [some (.ref B), some (.int a), some (.int w), some (.int m), some (.int 1), some (.int b), some (.int le), some (.int up), some (.int ot), some (.int al), some (.int x), some (.int (aWy (ρ 324) a b x)), r12, r13, r14, r15]) (st' := [.int 1]) (by decide +kernel) rfl ?_
            refine jx_goto (off := 4) (b := 186) (by decide) (by decide +kernel) (by decide) ?_
            exact t41 _ hx38

theorem sw_186 {B n c s : Nat} {ρ : gS} {h0 h : jv_H} {K : jK} {a w m b le up ot al x wy br : Int32} {r12 r13 r14 r15 : Option Value} (hx : LX B n ρ [] c s h0 h) (T : ((br = 0 → ((¬ (vO (ρ 324) a 7) < x → ((¬ up < x → ((¬ x < (-ot) → (∀ h1, LX B n ρ [] c s h0 h1 → jE 194 237 [some (.ref B), some (.int a), some (.int w), some (.int m), some (.int 1), some (.int b), some (.int le), some (.int up), some (.int ot), some (.int al), some (.int x), some (.int wy), some (.int br), r13, r14, r15] [.int 0] h1 K)) ∧ (x < (-ot) → (∀ h1, LX B n ρ [] c s h0 h1 → jE 194 237 [some (.ref B), some (.int a), some (.int w), some (.int m), some (.int 1), some (.int b), some (.int le), some (.int up), some (.int ot), some (.int al), some (.int x), some (.int wy), some (.int br), r13, r14, r15] [.int 4] h1 K)))) ∧ (up < x → (∀ h1, LX B n ρ [] c s h0 h1 → jE 194 237 [some (.ref B), some (.int a), some (.int w), some (.int m), some (.int 1), some (.int b), some (.int le), some (.int up), some (.int ot), some (.int al), some (.int x), some (.int wy), some (.int br), r13, r14, r15] [.int 3] h1 K)))) ∧ ((vO (ρ 324) a 7) < x → (∀ h1, LX B n ρ [] c s h0 h1 → jE 194 237 [some (.ref B), some (.int a), some (.int w), some (.int m), some (.int 1), some (.int b), some (.int le), some (.int up), some (.int ot), some (.int al), some (.int x), some (.int wy), some (.int br), r13, r14, r15] [.int 2] h1 K)))) ∧ (¬ br = 0 → (∀ h1, LX B n ρ [] c s h0 h1 → jE 194 237 [some (.ref B), some (.int a), some (.int w), some (.int m), some (.int 1), some (.int b), some (.int le), some (.int up), some (.int ot), some (.int al), some (.int x), some (.int wy), some (.int br), r13, r14, r15] [.int 1] h1 K)))) : jE 194 186 [some (.ref B), some (.int a), some (.int w), some (.int m), some (.int 1), some (.int b), some (.int le), some (.int up), some (.int ot), some (.int al), some (.int x), some (.int wy), r12, r13, r14, r15] [.int br] h K := by
  refine jx_blk (by decide) [(.istore 12, 2), (.iload 12, 2)] (pc' := 190) (Lv' := [some (.ref B), some (.int a), some (.int w), some (.int m), some (.int 1), some (.int b), some (.int le), some (.int up), some (.int ot), some (.int al), some (.int x), some (.int wy), some (.int br), r13, r14, r15]) (st' := [.int br]) (by decide +kernel) rfl ?_
  refine jx_if_eq (off := 7) (b := 197) (by decide) (by decide +kernel) (by decide) (fun e1 => ?_) (fun e1 => ?_)
  · have t2 := T.1 e1
    refine jx_blk (by decide) [(.aload_n 0, 1), (.iload_n 1, 1), (.bipush 7, 2)] (pc' := 201) (Lv' := [some (.ref B), some (.int a), some (.int w), some (.int m), some (.int 1), some (.int b), some (.int le), some (.int up), some (.int ot), some (.int al), some (.int x), some (.int wy), some (.int br), r13, r14, r15]) (st' := [.int 7, .int a, .ref B]) (by decide +kernel) rfl ?_
    refine lx_call (z := 124) (na := 3) (mL := 4) (v := .int (vO (ρ 324) a 7)) (ρ' := ρ) (r := []) [7, a] (by decide +kernel) hx xr_o7 hx.1.1 rfl rfl (fun _ => rfl) (Nat.le_of_ble_eq_true rfl) (fun h4 hx5 => ?_)
    refine jx_blk (by decide) [(.iload 10, 2)] (pc' := 206) (Lv' := [some (.ref B), some (.int a), some (.int w), some (.int m), some (.int 1), some (.int b), some (.int le), some (.int up), some (.int ot), some (.int al), some (.int x), some (.int wy), some (.int br), r13, r14, r15]) (st' := [.int x, .int (vO (ρ 324) a 7)]) (by decide +kernel) rfl ?_
    refine jx_ic_ge (off := 7) (b := 213) (by decide) (by decide +kernel) (by decide) (fun e6 => ?_) (fun e6 => ?_)
    · have t7 := t2.1 e6
      refine jx_blk (by decide) [(.iload 7, 2), (.iload 10, 2)] (pc' := 217) (Lv' := [some (.ref B), some (.int a), some (.int w), some (.int m), some (.int 1), some (.int b), some (.int le), some (.int up), some (.int ot), some (.int al), some (.int x), some (.int wy), some (.int br), r13, r14, r15]) (st' := [.int x, .int up]) (by decide +kernel) rfl ?_
      refine jx_ic_ge (off := 7) (b := 224) (by decide) (by decide +kernel) (by decide) (fun e9 => ?_) (fun e9 => ?_)
      · have t10 := t7.1 e9
        refine jx_blk (by decide) [(.iload 8, 2), (.ineg, 1), (.iload 10, 2)] (pc' := 229) (Lv' := [some (.ref B), some (.int a), some (.int w), some (.int m), some (.int 1), some (.int b), some (.int le), some (.int up), some (.int ot), some (.int al), some (.int x), some (.int wy), some (.int br), r13, r14, r15]) (st' := [.int x, .int (-ot)]) (by decide +kernel) rfl ?_
        refine jx_ic_le (off := 7) (b := 236) (by decide) (by decide +kernel) (by decide) (fun e12 => ?_) (fun e12 => ?_)
        · have t13 := t10.1 e12
          refine jx_blk (by decide) [(.iconst 0, 1)] (pc' := 237) (Lv' := [some (.ref B), some (.int a), some (.int w), some (.int m), some (.int 1), some (.int b), some (.int le), some (.int up), some (.int ot), some (.int al), some (.int x), some (.int wy), some (.int br), r13, r14, r15]) (st' := [.int 0]) (by decide +kernel) rfl ?_
          exact t13 _ hx5
        · have t14 := t10.2 e12
          refine jx_blk (by decide) [(.iconst 4, 1)] (pc' := 233) (Lv' := [some (.ref B), some (.int a), some (.int w), some (.int m), some (.int 1), some (.int b), some (.int le), some (.int up), some (.int ot), some (.int al), some (.int x), some (.int wy), some (.int br), r13, r14, r15]) (st' := [.int 4]) (by decide +kernel) rfl ?_
          refine jx_goto (off := 4) (b := 237) (by decide) (by decide +kernel) (by decide) ?_
          exact t14 _ hx5
      · have t11 := t7.2 e9
        refine jx_blk (by decide) [(.iconst 3, 1)] (pc' := 221) (Lv' := [some (.ref B), some (.int a), some (.int w), some (.int m), some (.int 1), some (.int b), some (.int le), some (.int up), some (.int ot), some (.int al), some (.int x), some (.int wy), some (.int br), r13, r14, r15]) (st' := [.int 3]) (by decide +kernel) rfl ?_
        refine jx_goto (off := 16) (b := 237) (by decide) (by decide +kernel) (by decide) ?_
        exact t11 _ hx5
    · have t8 := t2.2 e6
      refine jx_blk (by decide) [(.iconst 2, 1)] (pc' := 210) (Lv' := [some (.ref B), some (.int a), some (.int w), some (.int m), some (.int 1), some (.int b), some (.int le), some (.int up), some (.int ot), some (.int al), some (.int x), some (.int wy), some (.int br), r13, r14, r15]) (st' := [.int 2]) (by decide +kernel) rfl ?_
      refine jx_goto (off := 27) (b := 237) (by decide) (by decide +kernel) (by decide) ?_
      exact t8 _ hx5
  · have t3 := T.2 e1
    refine jx_blk (by decide) [(.iconst 1, 1)] (pc' := 194) (Lv' := [some (.ref B), some (.int a), some (.int w), some (.int m), some (.int 1), some (.int b), some (.int le), some (.int up), some (.int ot), some (.int al), some (.int x), some (.int wy), some (.int br), r13, r14, r15]) (st' := [.int 1]) (by decide +kernel) rfl ?_
    refine jx_goto (off := 43) (b := 237) (by decide) (by decide +kernel) (by decide) ?_
    exact t3 _ hx

theorem sw_237 {B n c s : Nat} {ρ : gS} {h0 h : jv_H} {K : jK} {a w m b le up ot al x wy br rs : Int32} {r13 r14 r15 : Option Value} (hx : LX B n ρ [] c s h0 h) (T : (wy = rs ∧ ((0 < wy → (∀ h1, LX B n ρ [] c s h0 h1 → jE 194 270 [some (.ref B), some (.int a), some (.int w), some (.int m), some (.int 1), some (.int b), some (.int le), some (.int up), some (.int ot), some (.int al), some (.int x), some (.int wy), some (.int br), some (.int rs), r14, r15] [] h1 K)) ∧ (¬ 0 < wy → (¬ le < 0 ∧ (¬ x < le ∧ (∀ h1, LX B n ρ [] c s h0 h1 → jE 194 270 [some (.ref B), some (.int a), some (.int w), some (.int m), some (.int 1), some (.int b), some (.int le), some (.int up), some (.int ot), some (.int al), some (.int x), some (.int wy), some (.int br), some (.int rs), r14, r15] [] h1 K))))))) : jE 194 237 [some (.ref B), some (.int a), some (.int w), some (.int m), some (.int 1), some (.int b), some (.int le), some (.int up), some (.int ot), some (.int al), some (.int x), some (.int wy), some (.int br), r13, r14, r15] [.int rs] h K := by
  refine jx_blk (by decide) [(.istore 13, 2), (.iload 11, 2), (.iload 13, 2)] (pc' := 243) (Lv' := [some (.ref B), some (.int a), some (.int w), some (.int m), some (.int 1), some (.int b), some (.int le), some (.int up), some (.int ot), some (.int al), some (.int x), some (.int wy), some (.int br), some (.int rs), r14, r15]) (st' := [.int rs, .int wy]) (by decide +kernel) rfl ?_
  refine jx_ic_ne (off := 24) (b := 267) (by decide) (by decide +kernel) (by decide) (fun e => absurd T.1 e) (fun _ => ?_)
  have t2 := T.2
  refine jx_blk (by decide) [(.iload 11, 2)] (pc' := 248) (Lv' := [some (.ref B), some (.int a), some (.int w), some (.int m), some (.int 1), some (.int b), some (.int le), some (.int up), some (.int ot), some (.int al), some (.int x), some (.int wy), some (.int br), some (.int rs), r14, r15]) (st' := [.int wy]) (by decide +kernel) rfl ?_
  refine jx_if_gt (off := 15) (b := 263) (by decide) (by decide +kernel) (by decide) (fun e3 => ?_) (fun e3 => ?_)
  · have t4 := t2.1 e3
    refine jx_blk (by decide) [(.iconst 1, 1)] (pc' := 264) (Lv' := [some (.ref B), some (.int a), some (.int w), some (.int m), some (.int 1), some (.int b), some (.int le), some (.int up), some (.int ot), some (.int al), some (.int x), some (.int wy), some (.int br), some (.int rs), r14, r15]) (st' := [.int 1]) (by decide +kernel) rfl ?_
    refine jx_goto (off := 4) (b := 268) (by decide) (by decide +kernel) (by decide) ?_
    refine jx_blk (by decide) [(.istore 4, 2)] (pc' := 270) (Lv' := [some (.ref B), some (.int a), some (.int w), some (.int m), some (.int 1), some (.int b), some (.int le), some (.int up), some (.int ot), some (.int al), some (.int x), some (.int wy), some (.int br), some (.int rs), r14, r15]) (st' := []) (by decide +kernel) rfl ?_
    exact t4 _ hx
  · have t5 := t2.2 e3
    refine jx_blk (by decide) [(.iload 6, 2)] (pc' := 253) (Lv' := [some (.ref B), some (.int a), some (.int w), some (.int m), some (.int 1), some (.int b), some (.int le), some (.int up), some (.int ot), some (.int al), some (.int x), some (.int wy), some (.int br), some (.int rs), r14, r15]) (st' := [.int le]) (by decide +kernel) rfl ?_
    refine jx_if_lt (off := 14) (b := 267) (by decide) (by decide +kernel) (by decide) (fun e => absurd e t5.1) (fun _ => ?_)
    have t7 := t5.2
    refine jx_blk (by decide) [(.iload 6, 2), (.iload 10, 2)] (pc' := 260) (Lv' := [some (.ref B), some (.int a), some (.int w), some (.int m), some (.int 1), some (.int b), some (.int le), some (.int up), some (.int ot), some (.int al), some (.int x), some (.int wy), some (.int br), some (.int rs), r14, r15]) (st' := [.int x, .int le]) (by decide +kernel) rfl ?_
    refine jx_ic_gt (off := 7) (b := 267) (by decide) (by decide +kernel) (by decide) (fun e => absurd e t7.1) (fun _ => ?_)
    have t9 := t7.2
    refine jx_blk (by decide) [(.iconst 1, 1)] (pc' := 264) (Lv' := [some (.ref B), some (.int a), some (.int w), some (.int m), some (.int 1), some (.int b), some (.int le), some (.int up), some (.int ot), some (.int al), some (.int x), some (.int wy), some (.int br), some (.int rs), r14, r15]) (st' := [.int 1]) (by decide +kernel) rfl ?_
    refine jx_goto (off := 4) (b := 268) (by decide) (by decide +kernel) (by decide) ?_
    refine jx_blk (by decide) [(.istore 4, 2)] (pc' := 270) (Lv' := [some (.ref B), some (.int a), some (.int w), some (.int m), some (.int 1), some (.int b), some (.int le), some (.int up), some (.int ot), some (.int al), some (.int x), some (.int wy), some (.int br), some (.int rs), r14, r15]) (st' := []) (by decide +kernel) rfl ?_
    exact t9 _ hx

theorem sw_270 {B n c s : Nat} {ρ : gS} {h0 h : jv_H} {K : jK} {a w m b le up ot al x wy br rs : Int32} {r14 r15 : Option Value} (hx : LX B n ρ [] (c + 1) (s + 7) h0 h) (T : (∀ q1 : Nat, (∀ h1, LX B n (hOp ρ (gSwa (ρ 324) a b x) (nSwa (ρ 324) a b x)) [(q1, 7, (upd (upd (upd (upd (upd (upd (upd (fun _ => 0) 0 (vO (ρ 324) a 0)) 1 (vO (ρ 324) b 0)) 2 (vO (ρ 324) a 7)) 3 (vO (ρ 324) b 7)) 4 (ρ 324 4)) 5 (ρ 324 7)) 6 (fSw (ρ 324))))] c s h0 h1 → jE 194 353 [some (.ref B), some (.int a), some (.int w), some (.int m), some (.int 1), some (.int b), some (.int le), some (.int up), some (.int ot), some (.int al), some (.int x), some (.int wy), some (.int br), some (.int rs), some (.ref q1), r15] [.int (aSwa (ρ 324) a b x)] h1 K))) : jE 194 270 [some (.ref B), some (.int a), some (.int w), some (.int m), some (.int 1), some (.int b), some (.int le), some (.int up), some (.int ot), some (.int al), some (.int x), some (.int wy), some (.int br), some (.int rs), r14, r15] [] h K := by
  refine jx_blk (by decide) [(.bipush 7, 2)] (pc' := 272) (Lv' := [some (.ref B), some (.int a), some (.int w), some (.int m), some (.int 1), some (.int b), some (.int le), some (.int up), some (.int ot), some (.int al), some (.int x), some (.int wy), some (.int br), some (.int rs), r14, r15]) (st' := [.int 7]) (by decide +kernel) rfl ?_
  refine lx_newi (k := 7) (by decide) (by decide +kernel) (by decide) hx (fun q1 h2 hx3 => ?_)
  have t4 := T q1
  refine jx_blk (by decide) [(.dup, 1), (.iconst 0, 1), (.aload_n 0, 1), (.iload_n 1, 1), (.iconst 0, 1)] (pc' := 279) (Lv' := [some (.ref B), some (.int a), some (.int w), some (.int m), some (.int 1), some (.int b), some (.int le), some (.int up), some (.int ot), some (.int al), some (.int x), some (.int wy), some (.int br), some (.int rs), r14, r15]) (st' := [.int 0, .int a, .ref B, .int 0, .ref q1, .ref q1]) (by decide +kernel) rfl ?_
  refine lx_call (z := 124) (na := 3) (mL := 4) (v := .int (vO (ρ 324) a 0)) (ρ' := ρ) (r := [.int 0, .ref q1, .ref q1]) [0, a] (by decide +kernel) hx3 xr_o0 hx3.1.1 rfl rfl (fun _ => rfl) (Nat.le_of_ble_eq_true rfl) (fun h5 hx6 => ?_)
  refine lx_st (j := 0) (by decide) (by decide +kernel) hx6 (i := 0) rfl (by decide) (by decide) (A' := [(q1, 7, (upd (fun _ => 0) 0 (vO (ρ 324) a 0)))]) rfl (fun h7 hx8 => ?_)
  refine jx_blk (by decide) [(.dup, 1), (.iconst 1, 1), (.aload_n 0, 1), (.iload 5, 2), (.iconst 0, 1)] (pc' := 289) (Lv' := [some (.ref B), some (.int a), some (.int w), some (.int m), some (.int 1), some (.int b), some (.int le), some (.int up), some (.int ot), some (.int al), some (.int x), some (.int wy), some (.int br), some (.int rs), r14, r15]) (st' := [.int 0, .int b, .ref B, .int 1, .ref q1, .ref q1]) (by decide +kernel) rfl ?_
  refine lx_call (z := 124) (na := 3) (mL := 4) (v := .int (vO (ρ 324) b 0)) (ρ' := ρ) (r := [.int 1, .ref q1, .ref q1]) [0, b] (by decide +kernel) hx8 xr_o0 hx8.1.1 rfl rfl (fun _ => rfl) (Nat.le_of_ble_eq_true rfl) (fun h9 hx10 => ?_)
  refine lx_st (j := 1) (by decide) (by decide +kernel) hx10 (i := 0) rfl (by decide) (by decide) (A' := [(q1, 7, (upd (upd (fun _ => 0) 0 (vO (ρ 324) a 0)) 1 (vO (ρ 324) b 0)))]) rfl (fun h11 hx12 => ?_)
  refine jx_blk (by decide) [(.dup, 1), (.iconst 2, 1), (.aload_n 0, 1), (.iload_n 1, 1), (.bipush 7, 2)] (pc' := 299) (Lv' := [some (.ref B), some (.int a), some (.int w), some (.int m), some (.int 1), some (.int b), some (.int le), some (.int up), some (.int ot), some (.int al), some (.int x), some (.int wy), some (.int br), some (.int rs), r14, r15]) (st' := [.int 7, .int a, .ref B, .int 2, .ref q1, .ref q1]) (by decide +kernel) rfl ?_
  refine lx_call (z := 124) (na := 3) (mL := 4) (v := .int (vO (ρ 324) a 7)) (ρ' := ρ) (r := [.int 2, .ref q1, .ref q1]) [7, a] (by decide +kernel) hx12 xr_o7 hx12.1.1 rfl rfl (fun _ => rfl) (Nat.le_of_ble_eq_true rfl) (fun h13 hx14 => ?_)
  refine lx_st (j := 2) (by decide) (by decide +kernel) hx14 (i := 0) rfl (by decide) (by decide) (A' := [(q1, 7, (upd (upd (upd (fun _ => 0) 0 (vO (ρ 324) a 0)) 1 (vO (ρ 324) b 0)) 2 (vO (ρ 324) a 7)))]) rfl (fun h15 hx16 => ?_)
  refine jx_blk (by decide) [(.dup, 1), (.iconst 3, 1), (.aload_n 0, 1), (.iload 5, 2), (.bipush 7, 2)] (pc' := 310) (Lv' := [some (.ref B), some (.int a), some (.int w), some (.int m), some (.int 1), some (.int b), some (.int le), some (.int up), some (.int ot), some (.int al), some (.int x), some (.int wy), some (.int br), some (.int rs), r14, r15]) (st' := [.int 7, .int b, .ref B, .int 3, .ref q1, .ref q1]) (by decide +kernel) rfl ?_
  refine lx_call (z := 124) (na := 3) (mL := 4) (v := .int (vO (ρ 324) b 7)) (ρ' := ρ) (r := [.int 3, .ref q1, .ref q1]) [7, b] (by decide +kernel) hx16 xr_o7 hx16.1.1 rfl rfl (fun _ => rfl) (Nat.le_of_ble_eq_true rfl) (fun h17 hx18 => ?_)
  refine lx_st (j := 3) (by decide) (by decide +kernel) hx18 (i := 0) rfl (by decide) (by decide) (A' := [(q1, 7, (upd (upd (upd (upd (fun _ => 0) 0 (vO (ρ 324) a 0)) 1 (vO (ρ 324) b 0)) 2 (vO (ρ 324) a 7)) 3 (vO (ρ 324) b 7)))]) rfl (fun h19 hx20 => ?_)
  refine jx_blk (by decide) [(.dup, 1), (.iconst 4, 1), (.aload_n 0, 1), (.bipush 8, 2)] (pc' := 319) (Lv' := [some (.ref B), some (.int a), some (.int w), some (.int m), some (.int 1), some (.int b), some (.int le), some (.int up), some (.int ot), some (.int al), some (.int x), some (.int wy), some (.int br), some (.int rs), r14, r15]) (st' := [.int 8, .ref B, .int 4, .ref q1, .ref q1]) (by decide +kernel) rfl ?_
  refine lx_call (z := 123) (na := 2) (mL := 2) (v := .int (ρ 324 4)) (ρ' := ρ) (r := [.int 4, .ref q1, .ref q1]) [8] (by decide +kernel) hx20 xr_v8 hx20.1.1 rfl rfl (fun _ => rfl) (Nat.le_of_ble_eq_true rfl) (fun h21 hx22 => ?_)
  refine lx_st (j := 4) (by decide) (by decide +kernel) hx22 (i := 0) rfl (by decide) (by decide) (A' := [(q1, 7, (upd (upd (upd (upd (upd (fun _ => 0) 0 (vO (ρ 324) a 0)) 1 (vO (ρ 324) b 0)) 2 (vO (ρ 324) a 7)) 3 (vO (ρ 324) b 7)) 4 (ρ 324 4)))]) rfl (fun h23 hx24 => ?_)
  refine jx_blk (by decide) [(.dup, 1), (.iconst 5, 1), (.aload_n 0, 1), (.bipush 11, 2)] (pc' := 328) (Lv' := [some (.ref B), some (.int a), some (.int w), some (.int m), some (.int 1), some (.int b), some (.int le), some (.int up), some (.int ot), some (.int al), some (.int x), some (.int wy), some (.int br), some (.int rs), r14, r15]) (st' := [.int 11, .ref B, .int 5, .ref q1, .ref q1]) (by decide +kernel) rfl ?_
  refine lx_call (z := 123) (na := 2) (mL := 2) (v := .int (ρ 324 7)) (ρ' := ρ) (r := [.int 5, .ref q1, .ref q1]) [11] (by decide +kernel) hx24 xr_v11 hx24.1.1 rfl rfl (fun _ => rfl) (Nat.le_of_ble_eq_true rfl) (fun h25 hx26 => ?_)
  refine lx_st (j := 5) (by decide) (by decide +kernel) hx26 (i := 0) rfl (by decide) (by decide) (A' := [(q1, 7, (upd (upd (upd (upd (upd (upd (fun _ => 0) 0 (vO (ρ 324) a 0)) 1 (vO (ρ 324) b 0)) 2 (vO (ρ 324) a 7)) 3 (vO (ρ 324) b 7)) 4 (ρ 324 4)) 5 (ρ 324 7)))]) rfl (fun h27 hx28 => ?_)
  refine jx_blk (by decide) [(.dup, 1), (.bipush 6, 2), (.aload_n 0, 1), (.bipush 7, 2)] (pc' := 338) (Lv' := [some (.ref B), some (.int a), some (.int w), some (.int m), some (.int 1), some (.int b), some (.int le), some (.int up), some (.int ot), some (.int al), some (.int x), some (.int wy), some (.int br), some (.int rs), r14, r15]) (st' := [.int 7, .ref B, .int 6, .ref q1, .ref q1]) (by decide +kernel) rfl ?_
  refine lx_call (z := 123) (na := 2) (mL := 2) (v := .int (fSw (ρ 324))) (ρ' := ρ) (r := [.int 6, .ref q1, .ref q1]) [7] (by decide +kernel) hx28 xr_v7 hx28.1.1 rfl rfl (fun _ => rfl) (Nat.le_of_ble_eq_true rfl) (fun h29 hx30 => ?_)
  refine lx_st (j := 6) (by decide) (by decide +kernel) hx30 (i := 0) rfl (by decide) (by decide) (A' := [(q1, 7, (upd (upd (upd (upd (upd (upd (upd (fun _ => 0) 0 (vO (ρ 324) a 0)) 1 (vO (ρ 324) b 0)) 2 (vO (ρ 324) a 7)) 3 (vO (ρ 324) b 7)) 4 (ρ 324 4)) 5 (ρ 324 7)) 6 (fSw (ρ 324))))]) rfl (fun h31 hx32 => ?_)
  refine jx_blk (by decide) [(.astore 14, 2), (.aload_n 0, 1), (.iload_n 1, 1), (.iload 5, 2), (.iload 10, 2)] (pc' := 350) (Lv' := [some (.ref B), some (.int a), some (.int w), some (.int m), some (.int 1), some (.int b), some (.int le), some (.int up), some (.int ot), some (.int al), some (.int x), some (.int wy), some (.int br), some (.int rs), some (.ref q1), r15]) (st' := [.int x, .int b, .int a, .ref B]) (by decide +kernel) rfl ?_
  refine lx_call (z := 115) (na := 4) (mL := 6) (v := .int (aSwa (ρ 324) a b x)) (ρ' := (hOp ρ (gSwa (ρ 324) a b x) (nSwa (ρ 324) a b x))) (r := []) [x, b, a] (by decide +kernel) hx32 xr_swap hx32.1.1 rfl rfl (fun _ => rfl) (Nat.le_of_ble_eq_true rfl) (fun h33 hx34 => ?_)
  exact t4 _ hx34

theorem sw_353 {B n c s : Nat} {ρ : gS} {h0 h : jv_H} {K : jK} {a w m b le up ot al x wy got : Int32} {q : Nat} {f : Nat → Int32} {r12 r13 r15 : Option Value} (hx : LX B n ρ [(q, 7, f)] c s h0 h) (T : ((¬ 0 < wy → (got = ((up + ot) + 100) ∧ ((vO (ρ 324) a 0) = (f 1) ∧ ((vO (ρ 324) b 0) = (f 0) ∧ ((vO (ρ 324) a 7) = ((f 2) - x) ∧ ((vO (ρ 324) b 7) = ((f 3) + x) ∧ ((ρ 324 4) = ((f 4) + 1) ∧ ((ρ 324 7) = ((f 5) + x) ∧ ((fSw (ρ 324)) = (f 6) ∧ ((fJa (ρ 324) + 10000) = (al + 9000) ∧ (¬ (if ρ 323 6 = 0 then -1 else ρ 323 6 - 1) < 0 ∧ (∀ h1, LX B n (hUn ρ) [] c s h0 h1 → jE 194 538 [some (.ref B), some (.int a), some (.int w), some (.int m), some (.int 1), some (.int b), some (.int le), some (.int up), some (.int ot), some (.int al), some (.int x), some (.int wy), r12, r13, some (.ref q), some (.int got)] [] h1 K)))))))))))) ∧ (0 < wy → (got = ((-10) - wy) ∧ (∀ h1, LX B n ρ [] c s h0 h1 → jE 194 538 [some (.ref B), some (.int a), some (.int w), some (.int m), some (.int 1), some (.int b), some (.int le), some (.int up), some (.int ot), some (.int al), some (.int x), some (.int wy), r12, r13, some (.ref q), some (.int got)] [] h1 K))))) : jE 194 353 [some (.ref B), some (.int a), some (.int w), some (.int m), some (.int 1), some (.int b), some (.int le), some (.int up), some (.int ot), some (.int al), some (.int x), some (.int wy), r12, r13, some (.ref q), r15] [.int got] h K := by
  refine jx_blk (by decide) [(.istore 15, 2), (.iload 11, 2)] (pc' := 357) (Lv' := [some (.ref B), some (.int a), some (.int w), some (.int m), some (.int 1), some (.int b), some (.int le), some (.int up), some (.int ot), some (.int al), some (.int x), some (.int wy), r12, r13, some (.ref q), some (.int got)]) (st' := [.int wy]) (by decide +kernel) rfl ?_
  refine jx_if_le (off := 28) (b := 385) (by decide) (by decide +kernel) (by decide) (fun e1 => ?_) (fun e1 => ?_)
  · have t2 := T.1 e1
    refine jx_blk (by decide) [(.iload 4, 2)] (pc' := 387) (Lv' := [some (.ref B), some (.int a), some (.int w), some (.int m), some (.int 1), some (.int b), some (.int le), some (.int up), some (.int ot), some (.int al), some (.int x), some (.int wy), r12, r13, some (.ref q), some (.int got)]) (st' := [.int 1]) (by decide +kernel) rfl ?_
    refine jx_if_eq (off := 148) (b := 535) (by decide) (by decide +kernel) (by decide) (fun e => absurd e (by decide)) (fun _ => ?_)
    refine jx_blk (by decide) [(.iload 15, 2), (.iload 7, 2), (.iload 8, 2), (.iadd, 1), (.bipush 100, 2), (.iadd, 1)] (pc' := 400) (Lv' := [some (.ref B), some (.int a), some (.int w), some (.int m), some (.int 1), some (.int b), some (.int le), some (.int up), some (.int ot), some (.int al), some (.int x), some (.int wy), r12, r13, some (.ref q), some (.int got)]) (st' := [.int ((up + ot) + 100), .int got]) (by decide +kernel) rfl ?_
    refine jx_ic_ne (off := 135) (b := 535) (by decide) (by decide +kernel) (by decide) (fun e => absurd t2.1 e) (fun _ => ?_)
    have t5 := t2.2
    refine jx_blk (by decide) [(.aload_n 0, 1), (.iload_n 1, 1), (.iconst 0, 1)] (pc' := 406) (Lv' := [some (.ref B), some (.int a), some (.int w), some (.int m), some (.int 1), some (.int b), some (.int le), some (.int up), some (.int ot), some (.int al), some (.int x), some (.int wy), r12, r13, some (.ref q), some (.int got)]) (st' := [.int 0, .int a, .ref B]) (by decide +kernel) rfl ?_
    refine lx_call (z := 124) (na := 3) (mL := 4) (v := .int (vO (ρ 324) a 0)) (ρ' := ρ) (r := []) [0, a] (by decide +kernel) hx xr_o0 hx.1.1 rfl rfl (fun _ => rfl) (Nat.le_of_ble_eq_true rfl) (fun h6 hx7 => ?_)
    refine jx_blk (by decide) [(.aload 14, 2), (.iconst 1, 1)] (pc' := 412) (Lv' := [some (.ref B), some (.int a), some (.int w), some (.int m), some (.int 1), some (.int b), some (.int le), some (.int up), some (.int ot), some (.int al), some (.int x), some (.int wy), r12, r13, some (.ref q), some (.int got)]) (st' := [.int 1, .ref q, .int (vO (ρ 324) a 0)]) (by decide +kernel) rfl ?_
    refine lx_ld (j := 1) (by decide) (by decide +kernel) hx7 (i := 0) rfl (by decide) (by decide) ?_
    show jE 194 413 [some (.ref B), some (.int a), some (.int w), some (.int m), some (.int 1), some (.int b), some (.int le), some (.int up), some (.int ot), some (.int al), some (.int x), some (.int wy), r12, r13, some (.ref q), some (.int got)] [.int (f 1), .int (vO (ρ 324) a 0)] _ K
    refine jx_ic_ne (off := 122) (b := 535) (by decide) (by decide +kernel) (by decide) (fun e => absurd t5.1 e) (fun _ => ?_)
    have t9 := t5.2
    refine jx_blk (by decide) [(.aload_n 0, 1), (.iload 5, 2), (.iconst 0, 1)] (pc' := 420) (Lv' := [some (.ref B), some (.int a), some (.int w), some (.int m), some (.int 1), some (.int b), some (.int le), some (.int up), some (.int ot), some (.int al), some (.int x), some (.int wy), r12, r13, some (.ref q), some (.int got)]) (st' := [.int 0, .int b, .ref B]) (by decide +kernel) rfl ?_
    refine lx_call (z := 124) (na := 3) (mL := 4) (v := .int (vO (ρ 324) b 0)) (ρ' := ρ) (r := []) [0, b] (by decide +kernel) hx7 xr_o0 hx7.1.1 rfl rfl (fun _ => rfl) (Nat.le_of_ble_eq_true rfl) (fun h10 hx11 => ?_)
    refine jx_blk (by decide) [(.aload 14, 2), (.iconst 0, 1)] (pc' := 426) (Lv' := [some (.ref B), some (.int a), some (.int w), some (.int m), some (.int 1), some (.int b), some (.int le), some (.int up), some (.int ot), some (.int al), some (.int x), some (.int wy), r12, r13, some (.ref q), some (.int got)]) (st' := [.int 0, .ref q, .int (vO (ρ 324) b 0)]) (by decide +kernel) rfl ?_
    refine lx_ld (j := 0) (by decide) (by decide +kernel) hx11 (i := 0) rfl (by decide) (by decide) ?_
    show jE 194 427 [some (.ref B), some (.int a), some (.int w), some (.int m), some (.int 1), some (.int b), some (.int le), some (.int up), some (.int ot), some (.int al), some (.int x), some (.int wy), r12, r13, some (.ref q), some (.int got)] [.int (f 0), .int (vO (ρ 324) b 0)] _ K
    refine jx_ic_ne (off := 108) (b := 535) (by decide) (by decide +kernel) (by decide) (fun e => absurd t9.1 e) (fun _ => ?_)
    have t13 := t9.2
    refine jx_blk (by decide) [(.aload_n 0, 1), (.iload_n 1, 1), (.bipush 7, 2)] (pc' := 434) (Lv' := [some (.ref B), some (.int a), some (.int w), some (.int m), some (.int 1), some (.int b), some (.int le), some (.int up), some (.int ot), some (.int al), some (.int x), some (.int wy), r12, r13, some (.ref q), some (.int got)]) (st' := [.int 7, .int a, .ref B]) (by decide +kernel) rfl ?_
    refine lx_call (z := 124) (na := 3) (mL := 4) (v := .int (vO (ρ 324) a 7)) (ρ' := ρ) (r := []) [7, a] (by decide +kernel) hx11 xr_o7 hx11.1.1 rfl rfl (fun _ => rfl) (Nat.le_of_ble_eq_true rfl) (fun h14 hx15 => ?_)
    refine jx_blk (by decide) [(.aload 14, 2), (.iconst 2, 1)] (pc' := 440) (Lv' := [some (.ref B), some (.int a), some (.int w), some (.int m), some (.int 1), some (.int b), some (.int le), some (.int up), some (.int ot), some (.int al), some (.int x), some (.int wy), r12, r13, some (.ref q), some (.int got)]) (st' := [.int 2, .ref q, .int (vO (ρ 324) a 7)]) (by decide +kernel) rfl ?_
    refine lx_ld (j := 2) (by decide) (by decide +kernel) hx15 (i := 0) rfl (by decide) (by decide) ?_
    show jE 194 441 [some (.ref B), some (.int a), some (.int w), some (.int m), some (.int 1), some (.int b), some (.int le), some (.int up), some (.int ot), some (.int al), some (.int x), some (.int wy), r12, r13, some (.ref q), some (.int got)] [.int (f 2), .int (vO (ρ 324) a 7)] _ K
    refine jx_blk (by decide) [(.iload 10, 2), (.isub, 1)] (pc' := 444) (Lv' := [some (.ref B), some (.int a), some (.int w), some (.int m), some (.int 1), some (.int b), some (.int le), some (.int up), some (.int ot), some (.int al), some (.int x), some (.int wy), r12, r13, some (.ref q), some (.int got)]) (st' := [.int ((f 2) - x), .int (vO (ρ 324) a 7)]) (by decide +kernel) rfl ?_
    refine jx_ic_ne (off := 91) (b := 535) (by decide) (by decide +kernel) (by decide) (fun e => absurd t13.1 e) (fun _ => ?_)
    have t17 := t13.2
    refine jx_blk (by decide) [(.aload_n 0, 1), (.iload 5, 2), (.bipush 7, 2)] (pc' := 452) (Lv' := [some (.ref B), some (.int a), some (.int w), some (.int m), some (.int 1), some (.int b), some (.int le), some (.int up), some (.int ot), some (.int al), some (.int x), some (.int wy), r12, r13, some (.ref q), some (.int got)]) (st' := [.int 7, .int b, .ref B]) (by decide +kernel) rfl ?_
    refine lx_call (z := 124) (na := 3) (mL := 4) (v := .int (vO (ρ 324) b 7)) (ρ' := ρ) (r := []) [7, b] (by decide +kernel) hx15 xr_o7 hx15.1.1 rfl rfl (fun _ => rfl) (Nat.le_of_ble_eq_true rfl) (fun h18 hx19 => ?_)
    refine jx_blk (by decide) [(.aload 14, 2), (.iconst 3, 1)] (pc' := 458) (Lv' := [some (.ref B), some (.int a), some (.int w), some (.int m), some (.int 1), some (.int b), some (.int le), some (.int up), some (.int ot), some (.int al), some (.int x), some (.int wy), r12, r13, some (.ref q), some (.int got)]) (st' := [.int 3, .ref q, .int (vO (ρ 324) b 7)]) (by decide +kernel) rfl ?_
    refine lx_ld (j := 3) (by decide) (by decide +kernel) hx19 (i := 0) rfl (by decide) (by decide) ?_
    show jE 194 459 [some (.ref B), some (.int a), some (.int w), some (.int m), some (.int 1), some (.int b), some (.int le), some (.int up), some (.int ot), some (.int al), some (.int x), some (.int wy), r12, r13, some (.ref q), some (.int got)] [.int (f 3), .int (vO (ρ 324) b 7)] _ K
    refine jx_blk (by decide) [(.iload 10, 2), (.iadd, 1)] (pc' := 462) (Lv' := [some (.ref B), some (.int a), some (.int w), some (.int m), some (.int 1), some (.int b), some (.int le), some (.int up), some (.int ot), some (.int al), some (.int x), some (.int wy), r12, r13, some (.ref q), some (.int got)]) (st' := [.int ((f 3) + x), .int (vO (ρ 324) b 7)]) (by decide +kernel) rfl ?_
    refine jx_ic_ne (off := 73) (b := 535) (by decide) (by decide +kernel) (by decide) (fun e => absurd t17.1 e) (fun _ => ?_)
    have t21 := t17.2
    refine jx_blk (by decide) [(.aload_n 0, 1), (.bipush 8, 2)] (pc' := 468) (Lv' := [some (.ref B), some (.int a), some (.int w), some (.int m), some (.int 1), some (.int b), some (.int le), some (.int up), some (.int ot), some (.int al), some (.int x), some (.int wy), r12, r13, some (.ref q), some (.int got)]) (st' := [.int 8, .ref B]) (by decide +kernel) rfl ?_
    refine lx_call (z := 123) (na := 2) (mL := 2) (v := .int (ρ 324 4)) (ρ' := ρ) (r := []) [8] (by decide +kernel) hx19 xr_v8 hx19.1.1 rfl rfl (fun _ => rfl) (Nat.le_of_ble_eq_true rfl) (fun h22 hx23 => ?_)
    refine jx_blk (by decide) [(.aload 14, 2), (.iconst 4, 1)] (pc' := 474) (Lv' := [some (.ref B), some (.int a), some (.int w), some (.int m), some (.int 1), some (.int b), some (.int le), some (.int up), some (.int ot), some (.int al), some (.int x), some (.int wy), r12, r13, some (.ref q), some (.int got)]) (st' := [.int 4, .ref q, .int (ρ 324 4)]) (by decide +kernel) rfl ?_
    refine lx_ld (j := 4) (by decide) (by decide +kernel) hx23 (i := 0) rfl (by decide) (by decide) ?_
    show jE 194 475 [some (.ref B), some (.int a), some (.int w), some (.int m), some (.int 1), some (.int b), some (.int le), some (.int up), some (.int ot), some (.int al), some (.int x), some (.int wy), r12, r13, some (.ref q), some (.int got)] [.int (f 4), .int (ρ 324 4)] _ K
    refine jx_blk (by decide) [(.iconst 1, 1), (.iadd, 1)] (pc' := 477) (Lv' := [some (.ref B), some (.int a), some (.int w), some (.int m), some (.int 1), some (.int b), some (.int le), some (.int up), some (.int ot), some (.int al), some (.int x), some (.int wy), r12, r13, some (.ref q), some (.int got)]) (st' := [.int ((f 4) + 1), .int (ρ 324 4)]) (by decide +kernel) rfl ?_
    refine jx_ic_ne (off := 58) (b := 535) (by decide) (by decide +kernel) (by decide) (fun e => absurd t21.1 e) (fun _ => ?_)
    have t25 := t21.2
    refine jx_blk (by decide) [(.aload_n 0, 1), (.bipush 11, 2)] (pc' := 483) (Lv' := [some (.ref B), some (.int a), some (.int w), some (.int m), some (.int 1), some (.int b), some (.int le), some (.int up), some (.int ot), some (.int al), some (.int x), some (.int wy), r12, r13, some (.ref q), some (.int got)]) (st' := [.int 11, .ref B]) (by decide +kernel) rfl ?_
    refine lx_call (z := 123) (na := 2) (mL := 2) (v := .int (ρ 324 7)) (ρ' := ρ) (r := []) [11] (by decide +kernel) hx23 xr_v11 hx23.1.1 rfl rfl (fun _ => rfl) (Nat.le_of_ble_eq_true rfl) (fun h26 hx27 => ?_)
    refine jx_blk (by decide) [(.aload 14, 2), (.iconst 5, 1)] (pc' := 489) (Lv' := [some (.ref B), some (.int a), some (.int w), some (.int m), some (.int 1), some (.int b), some (.int le), some (.int up), some (.int ot), some (.int al), some (.int x), some (.int wy), r12, r13, some (.ref q), some (.int got)]) (st' := [.int 5, .ref q, .int (ρ 324 7)]) (by decide +kernel) rfl ?_
    refine lx_ld (j := 5) (by decide) (by decide +kernel) hx27 (i := 0) rfl (by decide) (by decide) ?_
    show jE 194 490 [some (.ref B), some (.int a), some (.int w), some (.int m), some (.int 1), some (.int b), some (.int le), some (.int up), some (.int ot), some (.int al), some (.int x), some (.int wy), r12, r13, some (.ref q), some (.int got)] [.int (f 5), .int (ρ 324 7)] _ K
    refine jx_blk (by decide) [(.iload 10, 2), (.iadd, 1)] (pc' := 493) (Lv' := [some (.ref B), some (.int a), some (.int w), some (.int m), some (.int 1), some (.int b), some (.int le), some (.int up), some (.int ot), some (.int al), some (.int x), some (.int wy), r12, r13, some (.ref q), some (.int got)]) (st' := [.int ((f 5) + x), .int (ρ 324 7)]) (by decide +kernel) rfl ?_
    refine jx_ic_ne (off := 42) (b := 535) (by decide) (by decide +kernel) (by decide) (fun e => absurd t25.1 e) (fun _ => ?_)
    have t29 := t25.2
    refine jx_blk (by decide) [(.aload_n 0, 1), (.bipush 7, 2)] (pc' := 499) (Lv' := [some (.ref B), some (.int a), some (.int w), some (.int m), some (.int 1), some (.int b), some (.int le), some (.int up), some (.int ot), some (.int al), some (.int x), some (.int wy), r12, r13, some (.ref q), some (.int got)]) (st' := [.int 7, .ref B]) (by decide +kernel) rfl ?_
    refine lx_call (z := 123) (na := 2) (mL := 2) (v := .int (fSw (ρ 324))) (ρ' := ρ) (r := []) [7] (by decide +kernel) hx27 xr_v7 hx27.1.1 rfl rfl (fun _ => rfl) (Nat.le_of_ble_eq_true rfl) (fun h30 hx31 => ?_)
    refine jx_blk (by decide) [(.aload 14, 2), (.bipush 6, 2)] (pc' := 506) (Lv' := [some (.ref B), some (.int a), some (.int w), some (.int m), some (.int 1), some (.int b), some (.int le), some (.int up), some (.int ot), some (.int al), some (.int x), some (.int wy), r12, r13, some (.ref q), some (.int got)]) (st' := [.int 6, .ref q, .int (fSw (ρ 324))]) (by decide +kernel) rfl ?_
    refine lx_ld (j := 6) (by decide) (by decide +kernel) hx31 (i := 0) rfl (by decide) (by decide) ?_
    show jE 194 507 [some (.ref B), some (.int a), some (.int w), some (.int m), some (.int 1), some (.int b), some (.int le), some (.int up), some (.int ot), some (.int al), some (.int x), some (.int wy), r12, r13, some (.ref q), some (.int got)] [.int (f 6), .int (fSw (ρ 324))] _ K
    refine jx_ic_ne (off := 28) (b := 535) (by decide) (by decide +kernel) (by decide) (fun e => absurd t29.1 e) (fun _ => ?_)
    have t33 := t29.2
    refine jx_blk (by decide) [(.aload_n 0, 1), (.iconst 5, 1)] (pc' := 512) (Lv' := [some (.ref B), some (.int a), some (.int w), some (.int m), some (.int 1), some (.int b), some (.int le), some (.int up), some (.int ot), some (.int al), some (.int x), some (.int wy), r12, r13, some (.ref q), some (.int got)]) (st' := [.int 5, .ref B]) (by decide +kernel) rfl ?_
    refine lx_call (z := 123) (na := 2) (mL := 2) (v := .int (fJa (ρ 324) + 10000)) (ρ' := ρ) (r := []) [5] (by decide +kernel) hx31 xr_v5 hx31.1.1 rfl rfl (fun _ => rfl) (Nat.le_of_ble_eq_true rfl) (fun h34 hx35 => ?_)
    refine jx_blk (by decide) [(.iload 9, 2), (.sipush 9000, 3), (.iadd, 1)] (pc' := 521) (Lv' := [some (.ref B), some (.int a), some (.int w), some (.int m), some (.int 1), some (.int b), some (.int le), some (.int up), some (.int ot), some (.int al), some (.int x), some (.int wy), r12, r13, some (.ref q), some (.int got)]) (st' := [.int (al + 9000), .int (fJa (ρ 324) + 10000)]) (by decide +kernel) rfl ?_
    refine jx_ic_ne (off := 14) (b := 535) (by decide) (by decide +kernel) (by decide) (fun e => absurd t33.1 e) (fun _ => ?_)
    have t37 := t33.2
    refine jx_blk (by decide) [(.aload_n 0, 1)] (pc' := 525) (Lv' := [some (.ref B), some (.int a), some (.int w), some (.int m), some (.int 1), some (.int b), some (.int le), some (.int up), some (.int ot), some (.int al), some (.int x), some (.int wy), r12, r13, some (.ref q), some (.int got)]) (st' := [.ref B]) (by decide +kernel) rfl ?_
    refine lx_call (z := 122) (na := 1) (mL := 1) (v := .int (if ρ 323 6 = 0 then -1 else ρ 323 6 - 1)) (ρ' := (hUn ρ)) (r := []) [] (by decide +kernel) hx35 xr_undo hx35.1.1 rfl rfl (fun _ => rfl) (Nat.le_of_ble_eq_true rfl) (fun h38 hx39 => ?_)
    refine jx_if_lt (off := 7) (b := 535) (by decide) (by decide +kernel) (by decide) (fun e => absurd e t37.1) (fun _ => ?_)
    have t41 := t37.2
    refine jx_blk (by decide) [(.iconst 1, 1)] (pc' := 532) (Lv' := [some (.ref B), some (.int a), some (.int w), some (.int m), some (.int 1), some (.int b), some (.int le), some (.int up), some (.int ot), some (.int al), some (.int x), some (.int wy), r12, r13, some (.ref q), some (.int got)]) (st' := [.int 1]) (by decide +kernel) rfl ?_
    refine jx_goto (off := 4) (b := 536) (by decide) (by decide +kernel) (by decide) ?_
    refine jx_blk (by decide) [(.istore 4, 2)] (pc' := 538) (Lv' := [some (.ref B), some (.int a), some (.int w), some (.int m), some (.int 1), some (.int b), some (.int le), some (.int up), some (.int ot), some (.int al), some (.int x), some (.int wy), r12, r13, some (.ref q), some (.int got)]) (st' := []) (by decide +kernel) rfl ?_
    exact t41 _ (hx39.nil)
  · have t3 := T.2 e1
    refine jx_blk (by decide) [(.iload 4, 2)] (pc' := 362) (Lv' := [some (.ref B), some (.int a), some (.int w), some (.int m), some (.int 1), some (.int b), some (.int le), some (.int up), some (.int ot), some (.int al), some (.int x), some (.int wy), r12, r13, some (.ref q), some (.int got)]) (st' := [.int 1]) (by decide +kernel) rfl ?_
    refine jx_if_eq (off := 17) (b := 379) (by decide) (by decide +kernel) (by decide) (fun e => absurd e (by decide)) (fun _ => ?_)
    refine jx_blk (by decide) [(.iload 15, 2), (.bipush (-10), 2), (.iload 11, 2), (.isub, 1)] (pc' := 372) (Lv' := [some (.ref B), some (.int a), some (.int w), some (.int m), some (.int 1), some (.int b), some (.int le), some (.int up), some (.int ot), some (.int al), some (.int x), some (.int wy), r12, r13, some (.ref q), some (.int got)]) (st' := [.int ((-10) - wy), .int got]) (by decide +kernel) rfl ?_
    refine jx_ic_ne (off := 7) (b := 379) (by decide) (by decide +kernel) (by decide) (fun e => absurd t3.1 e) (fun _ => ?_)
    have t43 := t3.2
    refine jx_blk (by decide) [(.iconst 1, 1)] (pc' := 376) (Lv' := [some (.ref B), some (.int a), some (.int w), some (.int m), some (.int 1), some (.int b), some (.int le), some (.int up), some (.int ot), some (.int al), some (.int x), some (.int wy), r12, r13, some (.ref q), some (.int got)]) (st' := [.int 1]) (by decide +kernel) rfl ?_
    refine jx_goto (off := 4) (b := 380) (by decide) (by decide +kernel) (by decide) ?_
    refine jx_blk (by decide) [(.istore 4, 2)] (pc' := 382) (Lv' := [some (.ref B), some (.int a), some (.int w), some (.int m), some (.int 1), some (.int b), some (.int le), some (.int up), some (.int ot), some (.int al), some (.int x), some (.int wy), r12, r13, some (.ref q), some (.int got)]) (st' := []) (by decide +kernel) rfl ?_
    refine jx_goto (off := 156) (b := 538) (by decide) (by decide +kernel) (by decide) ?_
    exact t43 _ (hx.nil)

theorem sw_538 {B n c s : Nat} {ρ : gS} {h0 h : jv_H} {K : jK} {a w m b le up ot al x : Int32} {r11 r12 r13 r14 r15 : Option Value} (hx : LX B n ρ [] c s h0 h) (T : (∀ h1, LX B n ρ [] c s h0 h1 → jE 194 106 [some (.ref B), some (.int a), some (.int w), some (.int m), some (.int 1), some (.int b), some (.int le), some (.int up), some (.int ot), some (.int al), some (.int (x + (1 + (w &&& 3)))), r11, r12, r13, r14, r15] [] h1 K)) : jE 194 538 [some (.ref B), some (.int a), some (.int w), some (.int m), some (.int 1), some (.int b), some (.int le), some (.int up), some (.int ot), some (.int al), some (.int x), r11, r12, r13, r14, r15] [] h K := by
  refine jx_blk (by decide) [(.iload 10, 2), (.iconst 1, 1), (.iload_n 2, 1), (.iconst 3, 1), (.iand, 1), (.iadd, 1), (.iadd, 1), (.istore 10, 2)] (pc' := 548) (Lv' := [some (.ref B), some (.int a), some (.int w), some (.int m), some (.int 1), some (.int b), some (.int le), some (.int up), some (.int ot), some (.int al), some (.int (x + (1 + (w &&& 3)))), r11, r12, r13, r14, r15]) (st' := []) (by decide +kernel) rfl ?_
  refine jx_goto (off := (-442)) (b := 106) (by decide) (by decide +kernel) (by decide) ?_
  exact T _ hx

theorem sw_551 {B n c s : Nat} {ρ : gS} {h0 h : jv_H} {K : jK} {a w m b le : Int32} {r7 r8 r9 r10 r11 r12 r13 r14 r15 : Option Value} (hx : LX B n ρ [] c s h0 h) (T : ((le < 0 → (∀ h1, LX B n ρ [] c s h0 h1 → jE 194 38 [some (.ref B), some (.int a), some (.int w), some (.int m), some (.int 1), some (.int (b + 1)), some (.int le), r7, r8, r9, r10, r11, r12, r13, r14, r15] [] h1 K)) ∧ (¬ le < 0 → ((aWy (ρ 324) a b le) = 0 ∧ ((le = 0 → (∀ h1, LX B n ρ [] c s h0 h1 → jE 194 38 [some (.ref B), some (.int a), some (.int w), some (.int m), some (.int 1), some (.int (b + 1)), some (.int le), r7, r8, r9, r10, r11, r12, r13, r14, r15] [] h1 K)) ∧ (¬ le = 0 → (0 < (aWy (ρ 324) a b (le - 1)) ∧ (∀ h1, LX B n ρ [] c s h0 h1 → jE 194 38 [some (.ref B), some (.int a), some (.int w), some (.int m), some (.int 1), some (.int (b + 1)), some (.int le), r7, r8, r9, r10, r11, r12, r13, r14, r15] [] h1 K)))))))) : jE 194 551 [some (.ref B), some (.int a), some (.int w), some (.int m), some (.int 1), some (.int b), some (.int le), r7, r8, r9, r10, r11, r12, r13, r14, r15] [] h K := by
  refine jx_blk (by decide) [(.iload 6, 2)] (pc' := 553) (Lv' := [some (.ref B), some (.int a), some (.int w), some (.int m), some (.int 1), some (.int b), some (.int le), r7, r8, r9, r10, r11, r12, r13, r14, r15]) (st' := [.int le]) (by decide +kernel) rfl ?_
  refine jx_if_lt (off := 46) (b := 599) (by decide) (by decide +kernel) (by decide) (fun e1 => ?_) (fun e1 => ?_)
  · have t2 := T.1 e1
    refine jx_blk (by decide) [(.iinc 5 1, 3)] (pc' := 602) (Lv' := [some (.ref B), some (.int a), some (.int w), some (.int m), some (.int 1), some (.int (b + 1)), some (.int le), r7, r8, r9, r10, r11, r12, r13, r14, r15]) (st' := []) (by decide +kernel) rfl ?_
    refine jx_goto (off := (-564)) (b := 38) (by decide) (by decide +kernel) (by decide) ?_
    exact t2 _ hx
  · have t3 := T.2 e1
    refine jx_blk (by decide) [(.iload 4, 2)] (pc' := 558) (Lv' := [some (.ref B), some (.int a), some (.int w), some (.int m), some (.int 1), some (.int b), some (.int le), r7, r8, r9, r10, r11, r12, r13, r14, r15]) (st' := [.int 1]) (by decide +kernel) rfl ?_
    refine jx_if_eq (off := 38) (b := 596) (by decide) (by decide +kernel) (by decide) (fun e => absurd e (by decide)) (fun _ => ?_)
    refine jx_blk (by decide) [(.aload_n 0, 1), (.iload_n 1, 1), (.iload 5, 2), (.iload 6, 2)] (pc' := 567) (Lv' := [some (.ref B), some (.int a), some (.int w), some (.int m), some (.int 1), some (.int b), some (.int le), r7, r8, r9, r10, r11, r12, r13, r14, r15]) (st' := [.int le, .int b, .int a, .ref B]) (by decide +kernel) rfl ?_
    refine lx_call (z := 130) (na := 4) (mL := 4) (v := .int (aWy (ρ 324) a b le)) (ρ' := ρ) (r := []) [le, b, a] (by decide +kernel) hx xr_why hx.1.1 rfl rfl (fun _ => rfl) (Nat.le_of_ble_eq_true rfl) (fun h4 hx5 => ?_)
    refine jx_if_ne (off := 26) (b := 596) (by decide) (by decide +kernel) (by decide) (fun e => absurd t3.1 e) (fun _ => ?_)
    have t7 := t3.2
    refine jx_blk (by decide) [(.iload 6, 2)] (pc' := 575) (Lv' := [some (.ref B), some (.int a), some (.int w), some (.int m), some (.int 1), some (.int b), some (.int le), r7, r8, r9, r10, r11, r12, r13, r14, r15]) (st' := [.int le]) (by decide +kernel) rfl ?_
    refine jx_if_eq (off := 17) (b := 592) (by decide) (by decide +kernel) (by decide) (fun e8 => ?_) (fun e8 => ?_)
    · have t9 := t7.1 e8
      refine jx_blk (by decide) [(.iconst 1, 1)] (pc' := 593) (Lv' := [some (.ref B), some (.int a), some (.int w), some (.int m), some (.int 1), some (.int b), some (.int le), r7, r8, r9, r10, r11, r12, r13, r14, r15]) (st' := [.int 1]) (by decide +kernel) rfl ?_
      refine jx_goto (off := 4) (b := 597) (by decide) (by decide +kernel) (by decide) ?_
      refine jx_blk (by decide) [(.istore 4, 2), (.iinc 5 1, 3)] (pc' := 602) (Lv' := [some (.ref B), some (.int a), some (.int w), some (.int m), some (.int 1), some (.int (b + 1)), some (.int le), r7, r8, r9, r10, r11, r12, r13, r14, r15]) (st' := []) (by decide +kernel) rfl ?_
      refine jx_goto (off := (-564)) (b := 38) (by decide) (by decide +kernel) (by decide) ?_
      exact t9 _ hx5
    · have t10 := t7.2 e8
      refine jx_blk (by decide) [(.aload_n 0, 1), (.iload_n 1, 1), (.iload 5, 2), (.iload 6, 2), (.iconst 1, 1), (.isub, 1)] (pc' := 586) (Lv' := [some (.ref B), some (.int a), some (.int w), some (.int m), some (.int 1), some (.int b), some (.int le), r7, r8, r9, r10, r11, r12, r13, r14, r15]) (st' := [.int (le - 1), .int b, .int a, .ref B]) (by decide +kernel) rfl ?_
      refine lx_call (z := 130) (na := 4) (mL := 4) (v := .int (aWy (ρ 324) a b (le - 1))) (ρ' := ρ) (r := []) [(le - 1), b, a] (by decide +kernel) hx5 xr_why hx5.1.1 rfl rfl (fun _ => rfl) (Nat.le_of_ble_eq_true rfl) (fun h11 hx12 => ?_)
      refine jx_if_le (off := 7) (b := 596) (by decide) (by decide +kernel) (by decide) (fun e => absurd t10.1 e) (fun _ => ?_)
      have t14 := t10.2
      refine jx_blk (by decide) [(.iconst 1, 1)] (pc' := 593) (Lv' := [some (.ref B), some (.int a), some (.int w), some (.int m), some (.int 1), some (.int b), some (.int le), r7, r8, r9, r10, r11, r12, r13, r14, r15]) (st' := [.int 1]) (by decide +kernel) rfl ?_
      refine jx_goto (off := 4) (b := 597) (by decide) (by decide +kernel) (by decide) ?_
      refine jx_blk (by decide) [(.istore 4, 2), (.iinc 5 1, 3)] (pc' := 602) (Lv' := [some (.ref B), some (.int a), some (.int w), some (.int m), some (.int 1), some (.int (b + 1)), some (.int le), r7, r8, r9, r10, r11, r12, r13, r14, r15]) (st' := []) (by decide +kernel) rfl ?_
      refine jx_goto (off := (-564)) (b := 38) (by decide) (by decide +kernel) (by decide) ?_
      exact t14 _ hx12

theorem sw_605 {B n c s : Nat} {ρ : gS} {h0 h : jv_H} {K : jK} {a w m : Int32} {r5 r6 r7 r8 r9 r10 r11 r12 r13 r14 r15 : Option Value} (hx : LX B n ρ [] c s h0 h) (T : (∀ h1, LX B n ρ [] c s h0 h1 → jE 194 622 [some (.ref B), some (.int a), some (.int w), some (.int m), some (.int 1), some (.int (vPa (ρ 324) a)), some (.int 0), some (.int (-2)), some (.int 0), r9, r10, r11, r12, r13, r14, r15] [] h1 K)) : jE 194 605 [some (.ref B), some (.int a), some (.int w), some (.int m), some (.int 1), r5, r6, r7, r8, r9, r10, r11, r12, r13, r14, r15] [] h K := by
  refine jx_blk (by decide) [(.aload_n 0, 1), (.iload_n 1, 1)] (pc' := 607) (Lv' := [some (.ref B), some (.int a), some (.int w), some (.int m), some (.int 1), r5, r6, r7, r8, r9, r10, r11, r12, r13, r14, r15]) (st' := [.int a, .ref B]) (by decide +kernel) rfl ?_
  refine lx_call (z := 136) (na := 2) (mL := 2) (v := .int (vPa (ρ 324) a)) (ρ' := ρ) (r := []) [a] (by decide +kernel) hx xr_partner hx.1.1 rfl rfl (fun _ => rfl) (Nat.le_of_ble_eq_true rfl) (fun h1 hx2 => ?_)
  refine jx_blk (by decide) [(.istore 5, 2), (.iconst 0, 1), (.istore 6, 2), (.bipush (-2), 2), (.istore 7, 2), (.iconst 0, 1), (.istore 8, 2)] (pc' := 622) (Lv' := [some (.ref B), some (.int a), some (.int w), some (.int m), some (.int 1), some (.int (vPa (ρ 324) a)), some (.int 0), some (.int (-2)), some (.int 0), r9, r10, r11, r12, r13, r14, r15]) (st' := []) (by decide +kernel) rfl ?_
  exact T _ hx2

theorem sw_622 {B n c s : Nat} {ρ : gS} {h0 h : jv_H} {K : jK} {a w m pt mo be b : Int32} {r9 r10 r11 r12 r13 r14 r15 : Option Value} (hx : LX B n ρ [] c s h0 h) (T : ((¬ b < m → (pt = be ∧ (∀ h1, LX B n ρ [] c s h0 h1 → K (some (.int 1)) h1))) ∧ (b < m → ((a = b → (∀ h1, LX B n ρ [] c s h0 h1 → jE 194 622 [some (.ref B), some (.int a), some (.int w), some (.int m), some (.int 1), some (.int pt), some (.int mo), some (.int be), some (.int (b + 1)), r9, r10, r11, r12, r13, r14, r15] [] h1 K)) ∧ (¬ a = b → ((¬ (aWy (ρ 324) a b 0) = 0 → (∀ h1, LX B n ρ [] c s h0 h1 → jE 194 622 [some (.ref B), some (.int a), some (.int w), some (.int m), some (.int 1), some (.int pt), some (.int mo), some (.int be), some (.int (b + 1)), r9, r10, r11, r12, r13, r14, r15] [] h1 K)) ∧ ((aWy (ρ 324) a b 0) = 0 → ((mo < ((aIs (ρ 324) a b 0) - 100) → (∀ h1, LX B n ρ [] c s h0 h1 → jE 194 622 [some (.ref B), some (.int a), some (.int w), some (.int m), some (.int 1), some (.int pt), some (.int ((aIs (ρ 324) a b 0) - 100)), some (.int b), some (.int (b + 1)), r9, r10, r11, r12, r13, r14, r15] [] h1 K)) ∧ (¬ mo < ((aIs (ρ 324) a b 0) - 100) → (∀ h1, LX B n ρ [] c s h0 h1 → jE 194 622 [some (.ref B), some (.int a), some (.int w), some (.int m), some (.int 1), some (.int pt), some (.int mo), some (.int be), some (.int (b + 1)), r9, r10, r11, r12, r13, r14, r15] [] h1 K)))))))))) : jE 194 622 [some (.ref B), some (.int a), some (.int w), some (.int m), some (.int 1), some (.int pt), some (.int mo), some (.int be), some (.int b), r9, r10, r11, r12, r13, r14, r15] [] h K := by
  refine jx_blk (by decide) [(.iload 8, 2), (.iload_n 3, 1)] (pc' := 625) (Lv' := [some (.ref B), some (.int a), some (.int w), some (.int m), some (.int 1), some (.int pt), some (.int mo), some (.int be), some (.int b), r9, r10, r11, r12, r13, r14, r15]) (st' := [.int m, .int b]) (by decide +kernel) rfl ?_
  refine jx_ic_ge (off := 67) (b := 692) (by decide) (by decide +kernel) (by decide) (fun e1 => ?_) (fun e1 => ?_)
  · have t2 := T.1 e1
    refine jx_blk (by decide) [(.iload 4, 2)] (pc' := 694) (Lv' := [some (.ref B), some (.int a), some (.int w), some (.int m), some (.int 1), some (.int pt), some (.int mo), some (.int be), some (.int b), r9, r10, r11, r12, r13, r14, r15]) (st' := [.int 1]) (by decide +kernel) rfl ?_
    refine jx_if_eq (off := 14) (b := 708) (by decide) (by decide +kernel) (by decide) (fun e => absurd e (by decide)) (fun _ => ?_)
    refine jx_blk (by decide) [(.iload 5, 2), (.iload 7, 2)] (pc' := 701) (Lv' := [some (.ref B), some (.int a), some (.int w), some (.int m), some (.int 1), some (.int pt), some (.int mo), some (.int be), some (.int b), r9, r10, r11, r12, r13, r14, r15]) (st' := [.int be, .int pt]) (by decide +kernel) rfl ?_
    refine jx_ic_ne (off := 7) (b := 708) (by decide) (by decide +kernel) (by decide) (fun e => absurd t2.1 e) (fun _ => ?_)
    have t5 := t2.2
    refine jx_blk (by decide) [(.iconst 1, 1)] (pc' := 705) (Lv' := [some (.ref B), some (.int a), some (.int w), some (.int m), some (.int 1), some (.int pt), some (.int mo), some (.int be), some (.int b), r9, r10, r11, r12, r13, r14, r15]) (st' := [.int 1]) (by decide +kernel) rfl ?_
    refine jx_goto (off := 4) (b := 709) (by decide) (by decide +kernel) (by decide) ?_
    exact jx_zret (by decide) (by decide +kernel) (by decide +kernel) (Or.inr rfl) (t5 _ hx)
  · have t3 := T.2 e1
    refine jx_blk (by decide) [(.iload 4, 2)] (pc' := 630) (Lv' := [some (.ref B), some (.int a), some (.int w), some (.int m), some (.int 1), some (.int pt), some (.int mo), some (.int be), some (.int b), r9, r10, r11, r12, r13, r14, r15]) (st' := [.int 1]) (by decide +kernel) rfl ?_
    refine jx_if_eq (off := 62) (b := 692) (by decide) (by decide +kernel) (by decide) (fun e => absurd e (by decide)) (fun _ => ?_)
    refine jx_blk (by decide) [(.iload_n 1, 1), (.iload 8, 2)] (pc' := 636) (Lv' := [some (.ref B), some (.int a), some (.int w), some (.int m), some (.int 1), some (.int pt), some (.int mo), some (.int be), some (.int b), r9, r10, r11, r12, r13, r14, r15]) (st' := [.int b, .int a]) (by decide +kernel) rfl ?_
    refine jx_ic_eq (off := 50) (b := 686) (by decide) (by decide +kernel) (by decide) (fun e6 => ?_) (fun e6 => ?_)
    · have t7 := t3.1 e6
      refine jx_blk (by decide) [(.iinc 8 1, 3)] (pc' := 689) (Lv' := [some (.ref B), some (.int a), some (.int w), some (.int m), some (.int 1), some (.int pt), some (.int mo), some (.int be), some (.int (b + 1)), r9, r10, r11, r12, r13, r14, r15]) (st' := []) (by decide +kernel) rfl ?_
      refine jx_goto (off := (-67)) (b := 622) (by decide) (by decide +kernel) (by decide) ?_
      exact t7 _ hx
    · have t8 := t3.2 e6
      refine jx_blk (by decide) [(.aload_n 0, 1), (.iload_n 1, 1), (.iload 8, 2), (.iconst 0, 1)] (pc' := 644) (Lv' := [some (.ref B), some (.int a), some (.int w), some (.int m), some (.int 1), some (.int pt), some (.int mo), some (.int be), some (.int b), r9, r10, r11, r12, r13, r14, r15]) (st' := [.int 0, .int b, .int a, .ref B]) (by decide +kernel) rfl ?_
      refine lx_call (z := 130) (na := 4) (mL := 4) (v := .int (aWy (ρ 324) a b 0)) (ρ' := ρ) (r := []) [0, b, a] (by decide +kernel) hx xr_why hx.1.1 rfl rfl (fun _ => rfl) (Nat.le_of_ble_eq_true rfl) (fun h9 hx10 => ?_)
      refine jx_if_ne (off := 39) (b := 686) (by decide) (by decide +kernel) (by decide) (fun e11 => ?_) (fun e11 => ?_)
      · have t12 := t8.1 e11
        refine jx_blk (by decide) [(.iinc 8 1, 3)] (pc' := 689) (Lv' := [some (.ref B), some (.int a), some (.int w), some (.int m), some (.int 1), some (.int pt), some (.int mo), some (.int be), some (.int (b + 1)), r9, r10, r11, r12, r13, r14, r15]) (st' := []) (by decide +kernel) rfl ?_
        refine jx_goto (off := (-67)) (b := 622) (by decide) (by decide +kernel) (by decide) ?_
        exact t12 _ hx10
      · have t13 := t8.2 e11
        refine jx_blk (by decide) [(.aload_n 0, 1), (.iload_n 1, 1), (.iload 8, 2), (.iconst 0, 1)] (pc' := 655) (Lv' := [some (.ref B), some (.int a), some (.int w), some (.int m), some (.int 1), some (.int pt), some (.int mo), some (.int be), some (.int b), r9, r10, r11, r12, r13, r14, r15]) (st' := [.int 0, .int b, .int a, .ref B]) (by decide +kernel) rfl ?_
        refine lx_call (z := 133) (na := 4) (mL := 4) (v := .int (aIs (ρ 324) a b 0)) (ρ' := ρ) (r := []) [0, b, a] (by decide +kernel) hx10 xr_ifSwapped hx10.1.1 rfl rfl (fun _ => rfl) (Nat.le_of_ble_eq_true rfl) (fun h14 hx15 => ?_)
        refine jx_blk (by decide) [(.bipush 100, 2), (.isub, 1), (.iload 6, 2)] (pc' := 663) (Lv' := [some (.ref B), some (.int a), some (.int w), some (.int m), some (.int 1), some (.int pt), some (.int mo), some (.int be), some (.int b), r9, r10, r11, r12, r13, r14, r15]) (st' := [.int mo, .int ((aIs (ρ 324) a b 0) - 100)]) (by decide +kernel) rfl ?_
        refine jx_ic_gt (off := 6) (b := 669) (by decide) (by decide +kernel) (by decide) (fun e16 => ?_) (fun e16 => ?_)
        · have t17 := t13.1 e16
          refine jx_blk (by decide) [(.aload_n 0, 1), (.iload_n 1, 1), (.iload 8, 2), (.iconst 0, 1)] (pc' := 674) (Lv' := [some (.ref B), some (.int a), some (.int w), some (.int m), some (.int 1), some (.int pt), some (.int mo), some (.int be), some (.int b), r9, r10, r11, r12, r13, r14, r15]) (st' := [.int 0, .int b, .int a, .ref B]) (by decide +kernel) rfl ?_
          refine lx_call (z := 133) (na := 4) (mL := 4) (v := .int (aIs (ρ 324) a b 0)) (ρ' := ρ) (r := []) [0, b, a] (by decide +kernel) hx15 xr_ifSwapped hx15.1.1 rfl rfl (fun _ => rfl) (Nat.le_of_ble_eq_true rfl) (fun h19 hx20 => ?_)
          refine jx_blk (by decide) [(.bipush 100, 2), (.isub, 1), (.istore 6, 2), (.iload 8, 2), (.istore 7, 2), (.iinc 8 1, 3)] (pc' := 689) (Lv' := [some (.ref B), some (.int a), some (.int w), some (.int m), some (.int 1), some (.int pt), some (.int ((aIs (ρ 324) a b 0) - 100)), some (.int b), some (.int (b + 1)), r9, r10, r11, r12, r13, r14, r15]) (st' := []) (by decide +kernel) rfl ?_
          refine jx_goto (off := (-67)) (b := 622) (by decide) (by decide +kernel) (by decide) ?_
          exact t17 _ hx20
        · have t18 := t13.2 e16
          refine jx_goto (off := 20) (b := 686) (by decide) (by decide +kernel) (by decide) ?_
          refine jx_blk (by decide) [(.iinc 8 1, 3)] (pc' := 689) (Lv' := [some (.ref B), some (.int a), some (.int w), some (.int m), some (.int 1), some (.int pt), some (.int mo), some (.int be), some (.int (b + 1)), r9, r10, r11, r12, r13, r14, r15]) (st' := []) (by decide +kernel) rfl ?_
          refine jx_goto (off := (-67)) (b := 622) (by decide) (by decide +kernel) (by decide) ?_
          exact t18 _ hx15
theorem and_n (w : Int32) (m : Nat) (hm : m < 2147483648) : ∃ j, j ≤ m ∧ w &&& iN m = iN j := by
  have hle : w.toBitVec.toNat &&& m ≤ m := Nat.and_le_right
  refine ⟨w.toBitVec.toNat &&& m, hle, ?_⟩
  apply Int32.toBitVec_inj.mp
  rw [Int32.toBitVec_and]
  apply BitVec.eq_of_toNat_eq
  rw [BitVec.toNat_and, show (iN m).toBitVec = BitVec.ofNat 32 m from rfl, show (iN (w.toBitVec.toNat &&& m)).toBitVec = BitVec.ofNat 32 (w.toBitVec.toNat &&& m) from rfl, BitVec.toNat_ofNat, BitVec.toNat_ofNat, Nat.mod_eq_of_lt (show m < 2 ^ 32 by omega), Nat.mod_eq_of_lt (show w.toBitVec.toNat &&& m < 2 ^ 32 by omega)]
theorem sm_pt {f : Nat → Int32} {t : Nat} {y : Int32} : ∀ n, sm (fun o => if o = t then f o + y else f o) n = if t < n then sm f n + y else sm f n
  | 0 => by rw [if_neg (Nat.not_lt_zero _)]; rfl
  | n + 1 => by
    show sm (fun o => if o = t then f o + y else f o) n + (if n = t then f n + y else f n) = if t < n + 1 then sm f n + f n + y else sm f n + f n
    rw [sm_pt n]
    by_cases q : t < n
    · rw [if_pos q, if_neg (by omega), if_pos (by omega)]
      grind
    · by_cases q2 : n = t
      · rw [if_neg q, if_pos q2, if_pos (by omega)]
        grind
      · rw [if_neg q, if_neg q2, if_neg (by omega)]
section SWR
variable {R : gW} {a b : Nat} {x : Int32}
theorem bFT_rsw (hT : bT R) (hF : bF R) (ha : a < nM R) (hb : b < nM R) : bT (rsw R a b) ∧ bF (rsw R a b) := by
  have e : ∀ t f, ¬ f = 0 → f < 10 → fld (rsw R a b) t f = fld R t f := fun t f h0 h => by rw [fld_rsw _ _ _ _ _ h, if_neg h0]
  have e0 : ∀ t, fld (rsw R a b) t 0 = if t = b then fld R a 0 else if t = a then fld R b 0 else fld R t 0 := fun t => by rw [fld_rsw _ _ _ _ _ (by decide), if_pos rfl]
  refine ⟨fun t ht => ?_, fun t ht => ?_⟩
  · rw [nM_rsw] at ht
    rw [e t 1 (by decide) (by decide), e0 t, e t 2 (by decide) (by decide)]
    refine ⟨(hT t ht).1, ?_, (hT t ht).2.2⟩
    split
    · exact (hT a ha).2.1
    · split
      · exact (hT b hb).2.1
      · exact (hT t ht).2.1
  · rw [nM_rsw] at ht
    rw [e t 3 (by decide) (by decide), e t 4 (by decide) (by decide), e t 5 (by decide) (by decide), e t 6 (by decide) (by decide)]
    exact hF t ht
theorem rise_b (h3 : 0 ≤ R 3 ∧ R 3 ≤ 20) (hT : bT R) (hF : bF R) (ha : a < nM R) (hb : b < nM R) {w : Nat} (hw : w < nM R) : -200 ≤ fRise R a b w ∧ fRise R a b w ≤ 200 := by
  obtain ⟨t1, f1⟩ := bFT_rsw hT hF ha hb
  have h3' : 0 ≤ rsw R a b 3 ∧ rsw R a b 3 ≤ 20 := by rw [rsw_3]; exact h3
  obtain ⟨x1, x2⟩ := fJo_b h3' t1 f1 (t := w) (by rw [nM_rsw]; exact hw)
  obtain ⟨y1, y2⟩ := fJo_b h3 hT hF hw
  unfold fRise
  constructor <;> grind
theorem sw_neg {u : Int32} (hu : -200 ≤ u ∧ u ≤ 200) (hx : 0 ≤ x ∧ x ≤ 9) : x < -u ↔ u < -x := by
  obtain ⟨u1, u2⟩ := hu
  obtain ⟨x1, x2⟩ := hx
  constructor <;> intro z <;> grind
theorem may_i (hT : bT R) {t : Nat} (ht : t < nM R) (y : Int32) : fMay R t y ↔ ¬ (fld R t 1 = 0 ∧ y / 4 < R 1) := by
  unfold fMay
  constructor
  · intro z w
    rcases z with z | z
    · rw [w.1] at z
      exact absurd z (by decide)
    · exact absurd w.2 (Int32.not_lt.mpr z)
  · intro z
    by_cases q1 : fld R t 1 = 0
    · exact Or.inr (Int32.not_lt.mp (fun w => z ⟨q1, w⟩))
    · rcases (hT t ht).1 with w | w
      · exact absurd w q1
      · exact Or.inl w
theorem lea_c (R : gW) (a b : Nat) : ∀ d s, d + s = 10 → (lea R a b d s = -2 ∧ ∀ k, s ≤ k → k < 10 → ¬ fWhy R a b (iN k) = 0) ∨ ∃ l, s ≤ l ∧ l < 10 ∧ lea R a b d s = iN l ∧ fWhy R a b (iN l) = 0 ∧ ∀ k, s ≤ k → k < l → ¬ fWhy R a b (iN k) = 0
  | 0, s, h => Or.inl ⟨rfl, fun k h1 h2 => by omega⟩
  | d + 1, s, h => by
    have e : lea R a b (d + 1) s = if fWhy R a b (iN s) = 0 then iN s else lea R a b d (s + 1) := rfl
    rw [e]
    by_cases q : fWhy R a b (iN s) = 0
    · rw [if_pos q]
      exact Or.inr ⟨s, Nat.le_refl _, by omega, rfl, q, fun k h1 h2 => by omega⟩
    · rw [if_neg q]
      rcases lea_c R a b d (s + 1) (by omega) with ⟨e1, e2⟩ | ⟨l, l1, l2, l3, l4, l5⟩
      · refine Or.inl ⟨e1, fun k h1 h2 => ?_⟩
        by_cases z : k = s
        · rw [z]; exact q
        · exact e2 k (by omega) h2
      · refine Or.inr ⟨l, by omega, l2, l3, l4, fun k h1 h2 => ?_⟩
        by_cases z : k = s
        · rw [z]; exact q
        · exact l5 k (by omega) h2
theorem why_pos (R : gW) (a b : Nat) (x : Int32) : (0 < fWhy R a b x ↔ ¬ fWhy R a b x = 0) := by
  unfold fWhy
  split
  · exact ⟨fun _ => by decide, fun _ => by decide⟩
  · split
    · exact ⟨fun _ => by decide, fun _ => by decide⟩
    · split
      · exact ⟨fun _ => by decide, fun _ => by decide⟩
      · split
        · exact ⟨fun _ => by decide, fun _ => by decide⟩
        · exact ⟨fun z => absurd z (by decide), fun z => absurd rfl z⟩
/-- what a swap leaves -/
theorem swa_row (h3 : 0 ≤ R 3 ∧ R 3 ≤ 20) (h9 : 0 ≤ R 209 ∧ R 209 ≤ 40) (ha : a < nM R) (hb : b < nM R) (hne : a ≠ b) :
    nSwa R (iN a) (iN b) x 4 = R 4 + 1 ∧ nSwa R (iN a) (iN b) x 7 = R 7 + x ∧ fld (nSwa R (iN a) (iN b) x) a 7 = fld R a 7 - x ∧ fld (nSwa R (iN a) (iN b) x) b 7 = fld R b 7 + x ∧ fSw (nSwa R (iN a) (iN b) x) = fSw R := by
  have l := (nM_of h3).2
  have g9 : ∀ S : gW, S 209 = R 209 → 0 ≤ S 209 ∧ S 209 ≤ 40 := fun S e => by rw [e]; exact h9
  have e209 : (radd (radd (radd (radd (rsw R a b) (9 + 10 * a + 7) (-x)) (9 + 10 * b + 7) x) 7 x) 4 1) 209 = R 209 := by
    rw [radd_ne (by decide), radd_ne (by decide), radd_ne (by omega), radd_ne (by omega), rsw_eq, if_neg (by omega), if_neg (by omega)]
  have base : ∀ j, j < 209 → nSwa R (iN a) (iN b) x j = (radd (radd (radd (radd (rsw R a b) (9 + 10 * a + 7) (-x)) (9 + 10 * b + 7) x) 7 x) 4 1) j := fun j hj => by
    unfold nSwa
    rw [iN_nat (by omega), iN_nat (by omega)]
    exact fTe_ne (g9 _ e209) (Or.inl hj)
  have f7 : ∀ o, o < nM R → fld (nSwa R (iN a) (iN b) x) o 7 = if o = b then fld R b 7 + x else if o = a then fld R a 7 + -x else fld R o 7 := by
    intro o ho
    unfold fld
    rw [base _ (by omega), radd_ne (by omega), radd_ne (by omega)]
    by_cases q : o = b
    · rw [if_pos q, q, radd_at, radd_ne (by omega), rsw_eq, if_neg (by omega), if_neg (by omega)]
    · rw [if_neg q, radd_ne (by omega)]
      by_cases q2 : o = a
      · rw [if_pos q2, q2, radd_at, rsw_eq, if_neg (by omega), if_neg (by omega)]
      · rw [if_neg q2, radd_ne (by omega), rsw_eq, if_neg (by omega), if_neg (by omega)]
  have en : nM (nSwa R (iN a) (iN b) x) = nM R := (agj_n (agj_swa h9 l ha hb)).trans nM_rsw
  refine ⟨?_, ?_, ?_, ?_, ?_⟩
  · rw [base 4 (by decide), radd_at, radd_ne (by decide), radd_ne (by omega), radd_ne (by omega), rsw_eq, if_neg (by omega), if_neg (by omega)]
  · rw [base 7 (by decide), radd_ne (by decide), radd_at, radd_ne (by omega), radd_ne (by omega), rsw_eq, if_neg (by omega), if_neg (by omega)]
  · rw [f7 a ha, if_neg hne, if_pos rfl]
    grind
  · rw [f7 b hb, if_pos rfl]
  · unfold fSw
    rw [en]
    have e1 : sm (fun t => fld (nSwa R (iN a) (iN b) x) t 7) (nM R) = sm (fun o => if o = b then (fun o => if o = a then fld R o 7 + -x else fld R o 7) o + x else (fun o => if o = a then fld R o 7 + -x else fld R o 7) o) (nM R) := by
      refine sm_congr (fun o ho => ?_)
      rw [f7 o ho]
      by_cases q : o = b
      · rw [if_pos q, if_pos q, q]
        show _ = (if b = a then _ else fld R b 7) + x
        rw [if_neg (fun z => hne z.symm)]
      · rw [if_neg q, if_neg q]
        by_cases q2 : o = a
        · rw [if_pos q2, q2]
          show _ = if a = a then _ else _
          rw [if_pos rfl]
        · rw [if_neg q2]
          show _ = if o = a then _ else _
          rw [if_neg q2]
    rw [e1, sm_pt (f := fun o => if o = a then fld R o 7 + -x else fld R o 7), if_pos hb, sm_pt (f := fun o => fld R o 7), if_pos ha]
    grind
end SWR
section SW
variable {B n : Nat} {ρ : gS} {h0 : jv_H} {K : jK} {a b m : Nat} {w : Int32}
/-- a price tried: where it goes on -/
def swG (B n cx sx : Nat) (h0 : jv_H) (K : jK) (a b m : Nat) (w x le : Int32) (ρ : gS) : Prop := ∀ (h : jv_H) (τ : gS) (r11 r12 r13 r14 r15 : Option Value), Sm ρ τ → LX B n τ [] cx sx h0 h → jE 194 106 [some (.ref B), some (.int (iN a)), some (.int w), some (.int (iN m)), some (.int 1), some (.int (iN b)), some (.int le), some (.int (fRise (ρ 324) a b a)), some (.int (fRise (ρ 324) a b b)), some (.int (fJa (rsw (ρ 324) a b) + 1000)), some (.int (x + (1 + (w &&& 3)))), r11, r12, r13, r14, r15] [] h K
theorem sw_e {cx sx : Nat} {h : jv_H} {x le : Int32} (hQ : RQ ρ) (ha : a < nM (ρ 324)) (hb : b < nM (ρ 324)) (hne : a ≠ b) (hxx : 0 ≤ x ∧ x ≤ 9) (hG : swG B n cx sx h0 K a b m w x le ρ) (hx : LX B n ρ [] (cx + 1) (sx + 7) h0 h) {br rs : Int32} {r14 r15 : Option Value} :
    jE 194 270 [some (.ref B), some (.int (iN a)), some (.int w), some (.int (iN m)), some (.int 1), some (.int (iN b)), some (.int le), some (.int (fRise (ρ 324) a b a)), some (.int (fRise (ρ 324) a b b)), some (.int (fJa (rsw (ρ 324) a b) + 1000)), some (.int x), some (.int (fWhy (ρ 324) a b x)), some (.int br), some (.int rs), r14, r15] [] h K := by
  obtain ⟨hi, sp⟩ := hQ
  have h3 := hi.1.1.1
  obtain ⟨e3, l20⟩ := nM_of h3
  have na := iN_nat (k := a) (by omega)
  have nb := iN_nat (k := b) (by omega)
  have hP := isP_i h3 ha hb hne
  refine sw_270 hx (fun q h1 hx1 => ?_)
  have eg : gSwa (ρ 324) (iN a) (iN b) x ↔ ¬ 0 < fWhy (ρ 324) a b x := by
    unfold gSwa
    rw [na, nb]
    exact ⟨fun z => z.2, fun z => ⟨⟨hP, hxx⟩, z⟩⟩
  have ea : aSwa (ρ 324) (iN a) (iN b) x = if 0 < fWhy (ρ 324) a b x then -10 - fWhy (ρ 324) a b x else fRise (ρ 324) a b a + fRise (ρ 324) a b b + 100 := by
    unfold aSwa
    rw [if_pos ⟨hP, hxx⟩, na, nb]
  rw [ea]
  by_cases q0 : 0 < fWhy (ρ 324) a b x
  · have g : ¬ gSwa (ρ 324) (iN a) (iN b) x := fun z => eg.mp z q0
    rw [hOp_f g] at hx1
    rw [if_pos q0]
    refine sw_353 hx1 ⟨fun z => absurd q0 z, fun _ => ⟨rfl, fun h2 hx2 => ?_⟩⟩
    exact sw_538 hx2 (fun h3 hx3 => hG h3 ρ _ _ _ _ _ Sm.rf hx3)
  · have g : gSwa (ρ 324) (iN a) (iN b) x := eg.mpr q0
    rw [if_neg q0]
    obtain ⟨us, u0, u1⟩ := un_op (N := nSwa (ρ 324) (iN a) (iN b) x) hi.1 hi.2.2.1 g
    have eN : hOp ρ (gSwa (ρ 324) (iN a) (iN b) x) (nSwa (ρ 324) (iN a) (iN b) x) 324 = nSwa (ρ 324) (iN a) (iN b) x := hOp_324 g
    have hi1 := hx1.inf
    have af := agj_swa (x := x) hi.1.1.2 l20 ha hb
    have en : nM (nSwa (ρ 324) (iN a) (iN b) x) = nM (ρ 324) := (agj_n af).trans nM_rsw
    obtain ⟨r4, r7, ra, rb, rs⟩ := swa_row (x := x) h3 hi.1.1.2 ha hb hne
    obtain ⟨N, hN⟩ : ∃ N, nSwa (ρ 324) (iN a) (iN b) x = N := ⟨_, rfl⟩
    rw [hN] at eN af en r4 r7 ra rb rs
    have h3N := hi1.1.1.1
    rw [hN, eN] at h3N
    have s0 : ∀ o, o < nM (ρ 324) → fld N o 0 = if o = b then fld (ρ 324) a 0 else if o = a then fld (ρ 324) b 0 else fld (ρ 324) o 0 := fun o ho => by
      rw [af.2 o (by rw [en]; exact ho) 0 (by decide), fld_rsw _ _ _ _ _ (by decide), if_pos rfl]
    have oN : ∀ o k, o < nM (ρ 324) → ¬ (k = 3 ∨ k = 4) → vO N (iN o) k = fld N o k := fun o k ho hk => vO_i h3N (by rw [en]; exact ho) hk
    have oR : ∀ o k, o < nM (ρ 324) → ¬ (k = 3 ∨ k = 4) → vO (ρ 324) (iN o) k = fld (ρ 324) o k := fun o k ho hk => vO_i h3 ho hk
    refine sw_353 hx1 ⟨fun _ => ⟨rfl, ?_, ?_, ?_, ?_, ?_, ?_, ?_, ?_, ?_, fun h2 hx2 => ?_⟩, fun z => absurd z q0⟩
    · rw [hN, eN, oN a 0 ha (by decide), s0 a ha, if_neg hne, if_pos rfl, ← oR b 0 hb (by decide)]
      rfl
    · rw [hN, eN, oN b 0 hb (by decide), s0 b hb, if_pos rfl, ← oR a 0 ha (by decide)]
      rfl
    · rw [hN, eN, oN a 7 ha (by decide), ra, ← oR a 7 ha (by decide)]
      rfl
    · rw [hN, eN, oN b 7 hb (by decide), rb, ← oR b 7 hb (by decide)]
      rfl
    · rw [hN, eN, r4]
      rfl
    · rw [hN, eN, r7]
      rfl
    · rw [hN, eN, rs]
      rfl
    · rw [hN, eN, agj_Ja af]
      grind
    · rw [if_neg u0]
      exact Int32.not_lt.mpr u1
    · exact sw_538 hx2 (fun h3 hx3 => hG h3 _ _ _ _ _ _ us hx3)
theorem sw_d {cx sx k : Nat} {h : jv_H} (hQ : RQ ρ) (ha : a < nM (ρ 324)) (hb : b < nM (ρ 324)) (hne : a ≠ b) (hk : k < 10) (hG : swG B n cx sx h0 K a b m w (iN k) (lea (ρ 324) a b 10 0) ρ) (hx : LX B n ρ [] (cx + 1) (sx + 7) h0 h) {rs br : Int32} (hr : fWhy (ρ 324) a b (iN k) = rs) {r13 r14 r15 : Option Value} :
    jE 194 237 [some (.ref B), some (.int (iN a)), some (.int w), some (.int (iN m)), some (.int 1), some (.int (iN b)), some (.int (lea (ρ 324) a b 10 0)), some (.int (fRise (ρ 324) a b a)), some (.int (fRise (ρ 324) a b b)), some (.int (fJa (rsw (ρ 324) a b) + 1000)), some (.int (iN k)), some (.int (fWhy (ρ 324) a b (iN k))), some (.int br), r13, r14, r15] [.int rs] h K := by
  have hxx : (0 : Int32) ≤ iN k ∧ iN k ≤ 9 := ⟨(iN_le (k := 0) (by decide) (by omega)).mpr (Nat.zero_le _), (iN_le (m := 9) (by omega) (by decide)).mpr (by omega)⟩
  refine sw_237 hx ⟨hr, fun z h1 hx1 => sw_e hQ ha hb hne hxx hG hx1, fun z => ?_⟩
  have z0 : fWhy (ρ 324) a b (iN k) = 0 := Decidable.not_not.mp (fun y => z ((why_pos _ _ _ _).mpr y))
  rcases lea_c (ρ 324) a b 10 0 rfl with ⟨e1, e2⟩ | ⟨l, l1, l2, l3, l4, l5⟩
  · exact absurd z0 (e2 k (Nat.zero_le _) hk)
  · refine ⟨?_, ?_, fun h1 hx1 => sw_e hQ ha hb hne hxx hG hx1⟩
    · rw [l3]
      exact fun y => absurd ((iN_lt (m := 0) (by omega) (by decide)).mp y) (Nat.not_lt_zero _)
    · rw [l3]
      intro y
      have := (iN_lt (by omega) (by omega)).mp y
      exact l5 k (Nat.zero_le _) this z0
theorem sw_c {cx sx k : Nat} {h : jv_H} (hQ : RQ ρ) (ha : a < nM (ρ 324)) (hb : b < nM (ρ 324)) (hne : a ≠ b) (hk : k < 10) (hG : swG B n cx sx h0 K a b m w (iN k) (lea (ρ 324) a b 10 0) ρ) (hx : LX B n ρ [] (cx + 1) (sx + 7) h0 h) {br : Int32} (hbr : (br = 0 ∧ fMay (ρ 324) a (fld (ρ 324) b 0) ∧ fMay (ρ 324) b (fld (ρ 324) a 0)) ∨ (br = 1 ∧ (¬ fMay (ρ 324) a (fld (ρ 324) b 0) ∨ ¬ fMay (ρ 324) b (fld (ρ 324) a 0)))) {r12 r13 r14 r15 : Option Value} :
    jE 194 186 [some (.ref B), some (.int (iN a)), some (.int w), some (.int (iN m)), some (.int 1), some (.int (iN b)), some (.int (lea (ρ 324) a b 10 0)), some (.int (fRise (ρ 324) a b a)), some (.int (fRise (ρ 324) a b b)), some (.int (fJa (rsw (ρ 324) a b) + 1000)), some (.int (iN k)), some (.int (aWy (ρ 324) (iN a) (iN b) (iN k))), r12, r13, r14, r15] [.int br] h K := by
  have hQ0 := hQ
  obtain ⟨hi, sp⟩ := hQ
  have h3 := hi.1.1.1
  obtain ⟨e3, l20⟩ := nM_of h3
  have hxx : (0 : Int32) ≤ iN k ∧ iN k ≤ 9 := ⟨(iN_le (k := 0) (by decide) (by omega)).mpr (Nat.zero_le _), (iN_le (m := 9) (by omega) (by decide)).mpr (by omega)⟩
  have ew : aWy (ρ 324) (iN a) (iN b) (iN k) = fWhy (ρ 324) a b (iN k) := by
    unfold aWy
    rw [if_pos ⟨isP_i h3 ha hb hne, hxx⟩, iN_nat (by omega), iN_nat (by omega)]
  rw [ew]
  have o7 : vO (ρ 324) (iN a) 7 = fld (ρ 324) a 7 := vO_i h3 ha (by decide)
  have ng := sw_neg (rise_b h3 hi.2.2.2.2.2.1 hi.2.2.2.2.1 ha hb hb) hxx
  refine sw_186 hx ⟨fun z => ?_, fun z h1 hx1 => ?_⟩
  · have hm : ¬ (¬ fMay (ρ 324) a (fld (ρ 324) b 0) ∨ ¬ fMay (ρ 324) b (fld (ρ 324) a 0)) := by
      rcases hbr with ⟨-, m1, m2⟩ | ⟨e, -⟩
      · exact fun y => y.elim (fun y => y m1) (fun y => y m2)
      · rw [e] at z
        exact absurd z (by decide)
    refine ⟨fun y => ⟨fun u => ⟨fun v h1 hx1 => ?_, fun v h1 hx1 => ?_⟩, fun u h1 hx1 => ?_⟩, fun y h1 hx1 => ?_⟩
    · refine sw_d hQ0 ha hb hne hk hG hx1 ?_
      rw [o7] at y
      unfold fWhy
      rw [if_neg hm, if_neg y, if_neg u, if_neg (fun q => v (ng.mpr q))]
    · refine sw_d hQ0 ha hb hne hk hG hx1 ?_
      rw [o7] at y
      unfold fWhy
      rw [if_neg hm, if_neg y, if_neg u, if_pos (ng.mp v)]
    · refine sw_d hQ0 ha hb hne hk hG hx1 ?_
      rw [o7] at y
      unfold fWhy
      rw [if_neg hm, if_neg y, if_pos u]
    · refine sw_d hQ0 ha hb hne hk hG hx1 ?_
      rw [o7] at y
      unfold fWhy
      rw [if_neg hm, if_pos y]
  · refine sw_d hQ0 ha hb hne hk hG hx1 ?_
    rcases hbr with ⟨e, -⟩ | ⟨-, hm⟩
    · exact absurd e z
    · unfold fWhy
      rw [if_pos hm]
/-- a price -/
theorem sw_s {cx sx k : Nat} {h : jv_H} (hQ : RQ ρ) (ha : a < nM (ρ 324)) (hb : b < nM (ρ 324)) (hne : a ≠ b) (hk : k < 10) (hG : swG B n cx sx h0 K a b m w (iN k) (lea (ρ 324) a b 10 0) ρ) (hx : LX B n ρ [] (cx + 1) (sx + 7) h0 h) {r11 r12 r13 r14 r15 : Option Value} :
    jE 194 106 [some (.ref B), some (.int (iN a)), some (.int w), some (.int (iN m)), some (.int 1), some (.int (iN b)), some (.int (lea (ρ 324) a b 10 0)), some (.int (fRise (ρ 324) a b a)), some (.int (fRise (ρ 324) a b b)), some (.int (fJa (rsw (ρ 324) a b) + 1000)), some (.int (iN k)), r11, r12, r13, r14, r15] [] h K := by
  have hQ0 := hQ
  obtain ⟨hi, sp⟩ := hQ
  have h3 := hi.1.1.1
  have hT := hi.2.2.2.2.2.1
  have a1 : vO (ρ 324) (iN a) 1 = fld (ρ 324) a 1 := vO_i h3 ha (by decide)
  have a0 : vO (ρ 324) (iN a) 0 = fld (ρ 324) a 0 := vO_i h3 ha (by decide)
  have b1 : vO (ρ 324) (iN b) 1 = fld (ρ 324) b 1 := vO_i h3 hb (by decide)
  have b0 : vO (ρ 324) (iN b) 0 = fld (ρ 324) b 0 := vO_i h3 hb (by decide)
  have ma := may_i hT ha (fld (ρ 324) b 0)
  have mb := may_i hT hb (fld (ρ 324) a 0)
  have h10 : iN k < 10 := (iN_lt (m := 10) (by omega) (by decide)).mpr hk
  refine sw_106 hx ⟨fun z => absurd h10 z, fun _ => ?_⟩
  rw [a1, a0, b1, b0]
  refine ⟨fun z => ⟨fun y h1 hx1 => ?_, fun y => ⟨fun u h1 hx1 => ?_, fun u h1 hx1 => ?_⟩⟩, fun z => ⟨fun y h1 hx1 => ?_, fun y => ⟨fun u h1 hx1 => ?_, fun u => ⟨fun v h1 hx1 => ?_, fun v h1 hx1 => ?_⟩⟩⟩⟩
  · exact sw_c hQ0 ha hb hne hk hG hx1 (Or.inl ⟨rfl, ma.mpr (fun q => z q.1), mb.mpr (fun q => y q.1)⟩)
  · exact sw_c hQ0 ha hb hne hk hG hx1 (Or.inl ⟨rfl, ma.mpr (fun q => z q.1), mb.mpr (fun q => u q.2)⟩)
  · exact sw_c hQ0 ha hb hne hk hG hx1 (Or.inr ⟨rfl, Or.inr (fun q => mb.mp q ⟨y, u⟩)⟩)
  · exact sw_c hQ0 ha hb hne hk hG hx1 (Or.inr ⟨rfl, Or.inl (fun q => ma.mp q ⟨z, y⟩)⟩)
  · exact sw_c hQ0 ha hb hne hk hG hx1 (Or.inl ⟨rfl, ma.mpr (fun q => y q.2), mb.mpr (fun q => u q.1)⟩)
  · exact sw_c hQ0 ha hb hne hk hG hx1 (Or.inl ⟨rfl, ma.mpr (fun q => y q.2), mb.mpr (fun q => v q.2)⟩)
  · exact sw_c hQ0 ha hb hne hk hG hx1 (Or.inr ⟨rfl, Or.inr (fun q => mb.mp q ⟨u, v⟩)⟩)
/-- all prices -/
theorem sw_t {cx sx : Nat} (ha : a < nM (ρ 324)) (hb : b < nM (ρ 324)) (hne : a ≠ b) (hC : ∀ (h : jv_H) (τ : gS) (r7 r8 r9 r10 r11 r12 r13 r14 r15 : Option Value), Sm ρ τ → RQ τ → LX B n τ [] cx sx h0 h → jE 194 551 [some (.ref B), some (.int (iN a)), some (.int w), some (.int (iN m)), some (.int 1), some (.int (iN b)), some (.int (lea (ρ 324) a b 10 0)), r7, r8, r9, r10, r11, r12, r13, r14, r15] [] h K) :
    ∀ (e k : Nat), k ≤ 13 → 10 ≤ k + e → ∀ {h : jv_H} {τ : gS} {r11 r12 r13 r14 r15 : Option Value}, Sm ρ τ → RQ τ → LX B n τ [] (cx + e) (sx + 7 * e) h0 h → jE 194 106 [some (.ref B), some (.int (iN a)), some (.int w), some (.int (iN m)), some (.int 1), some (.int (iN b)), some (.int (lea (ρ 324) a b 10 0)), some (.int (fRise (ρ 324) a b a)), some (.int (fRise (ρ 324) a b b)), some (.int (fJa (rsw (ρ 324) a b) + 1000)), some (.int (iN k)), r11, r12, r13, r14, r15] [] h K := by
  intro e
  induction e with
  | zero =>
    intro k hk h10 h τ r11 r12 r13 r14 r15 hs hQ hx
    refine sw_106 hx ⟨fun _ h1 hx1 => hC h1 τ _ _ _ _ _ _ _ _ _ hs hQ hx1, fun z => ?_⟩
    exact absurd ((iN_lt (m := 10) (by omega) (by decide)).mp z) (by omega)
  | succ e ih =>
    intro k hk h10 h τ r11 r12 r13 r14 r15 hs hQ hx
    by_cases q : k < 10
    · have eR := hs.1
      have key := sw_s (ρ := τ) (B := B) (n := n) (h0 := h0) (K := K) (a := a) (b := b) (m := m) (w := w) (cx := cx + e) (sx := sx + 7 * e) (k := k) (h := h) (r11 := r11) (r12 := r12) (r13 := r13) (r14 := r14) (r15 := r15) hQ (by rw [eR]; exact ha) (by rw [eR]; exact hb) hne q
      rw [eR] at key
      refine key ?_ (hx.le (by omega) (by omega))
      intro h1 κ w11 w12 w13 w14 w15 hs1 hx1
      obtain ⟨j, hj, ej⟩ := and_n w 3 (by decide)
      have e3 : iN k + (1 + (w &&& 3)) = iN (k + 1 + j) := by
        rw [show (3 : Int32) = iN 3 from rfl, ej, show (1 : Int32) = iN 1 from rfl, iN_add, iN_add, show k + (1 + j) = k + 1 + j by omega]
      rw [e3, eR]
      exact ih (k + 1 + j) (by omega) (by omega) (hs.trans hs1) (hQ.sm hs1 hx1.inf) hx1
    · refine sw_106 hx ⟨fun _ h1 hx1 => hC h1 τ _ _ _ _ _ _ _ _ _ hs hQ (hx1.le (by omega) (by omega)), fun z => ?_⟩
      exact absurd ((iN_lt (m := 10) (by omega) (by decide)).mp z) (by omega)
/-- the partner -/
theorem sw_p {cx sx N : Nat} (hN : nM (ρ 324) = N) (ha : a < N) (hK : ∀ (τ : gS) (h : jv_H), Sm ρ τ → LX B n τ [] cx sx h0 h → K (some (.int 1)) h) :
    ∀ (e k : Nat), k + e = N → ∀ {h : jv_H} {τ : gS} {r9 r10 r11 r12 r13 r14 r15 : Option Value}, Sm ρ τ → LX B n τ [] cx sx h0 h → jE 194 622 [some (.ref B), some (.int (iN a)), some (.int w), some (.int (iN N)), some (.int 1), some (.int (fPa (ρ 324) a)), some (.int (nfold (paS (ρ 324) a) k (-2, 0)).2), some (.int (nfold (paS (ρ 324) a) k (-2, 0)).1), some (.int (iN k)), r9, r10, r11, r12, r13, r14, r15] [] h K := by
  intro e
  induction e with
  | zero =>
    intro k hk h τ r9 r10 r11 r12 r13 r14 r15 hs hx
    have hk : k = N := by omega
    have l20 := hx.inf.n.2
    rw [hs.1, hN] at l20
    refine sw_622 hx ⟨fun _ => ⟨?_, fun h1 hx1 => hK τ h1 hs hx1⟩, fun z => ?_⟩
    · unfold fPa
      rw [hN, hk]
    · exact absurd ((iN_lt (by omega) (by omega)).mp z) (by omega)
  | succ e ih =>
    intro k hk h τ r9 r10 r11 r12 r13 r14 r15 hs hx
    have hi := hx.inf
    have h3 := hi.1.1.1
    have l20 := hi.n.2
    have eR := hs.1
    rw [eR] at h3
    rw [eR, hN] at l20
    have ek : iN k + 1 = iN (k + 1) := iN_add k 1
    have es : nfold (paS (ρ 324) a) (k + 1) (-2, 0) = paS (ρ 324) a k (nfold (paS (ρ 324) a) k (-2, 0)) := rfl
    obtain ⟨p, hp⟩ : ∃ p, nfold (paS (ρ 324) a) k (-2, 0) = p := ⟨_, rfl⟩
    rw [hp] at es ⊢
    have go : ∀ (h1 : jv_H) (u v : Int32) (w9 w10 w11 w12 w13 w14 w15 : Option Value), LX B n τ [] cx sx h0 h1 → paS (ρ 324) a k p = (u, v) → jE 194 622 [some (.ref B), some (.int (iN a)), some (.int w), some (.int (iN N)), some (.int 1), some (.int (fPa (ρ 324) a)), some (.int v), some (.int u), some (.int (iN k + 1)), w9, w10, w11, w12, w13, w14, w15] [] h1 K := by
      intro h1 u v w9 w10 w11 w12 w13 w14 w15 hx1 hu
      have q := ih (k + 1) (by omega) (r9 := w9) (r10 := w10) (r11 := w11) (r12 := w12) (r13 := w13) (r14 := w14) (r15 := w15) hs hx1
      rw [es, hu] at q
      rw [ek]
      exact q
    refine sw_622 hx ⟨fun z => absurd ((iN_lt (by omega) (by omega)).mpr (by omega)) z, fun _ => ?_⟩
    rw [eR]
    refine ⟨fun z h1 hx1 => ?_, fun z => ?_⟩
    · have hak : a = k := (iN_inj (by omega) (by omega)).mp z
      refine go h1 _ _ _ _ _ _ _ _ _ hx1 ?_
      unfold paS
      rw [if_neg (fun y => y.1 hak.symm)]
    · have hak : a ≠ k := fun y => z (by rw [y])
      have hP := isP_i h3 (a := a) (b := k) (by omega) (by omega) hak
      have ew : aWy (ρ 324) (iN a) (iN k) 0 = fWhy (ρ 324) a k 0 := by
        unfold aWy
        rw [if_pos ⟨hP, by decide⟩, iN_nat (by omega), iN_nat (by omega)]
      have ei : aIs (ρ 324) (iN a) (iN k) 0 - 100 = fRise (ρ 324) a k a := by
        unfold aIs
        rw [if_pos hP, if_pos rfl, iN_nat (by omega), iN_nat (by omega)]
        grind
      rw [ew, ei]
      refine ⟨fun y h1 hx1 => ?_, fun y => ⟨fun u h1 hx1 => ?_, fun u h1 hx1 => ?_⟩⟩
      · refine go h1 _ _ _ _ _ _ _ _ _ hx1 ?_
        unfold paS
        rw [if_neg (fun v => y v.2.1)]
      · refine go h1 _ _ _ _ _ _ _ _ _ hx1 ?_
        unfold paS
        rw [if_pos ⟨fun v => hak v.symm, y, u⟩]
      · refine go h1 _ _ _ _ _ _ _ _ _ hx1 ?_
        unfold paS
        rw [if_neg (fun v => u v.2.2)]
/-- the others -/
theorem sw_b {cx sx N : Nat} (hN : nM (ρ 324) = N) (ha : a < N) (hC : ∀ (h : jv_H) (τ : gS) (r5 r6 r7 r8 r9 r10 r11 r12 r13 r14 r15 : Option Value), Sm ρ τ → LX B n τ [] cx sx h0 h → jE 194 605 [some (.ref B), some (.int (iN a)), some (.int w), some (.int (iN N)), some (.int 1), r5, r6, r7, r8, r9, r10, r11, r12, r13, r14, r15] [] h K) :
    ∀ (e k : Nat), k + e = N → ∀ {h : jv_H} {τ : gS} {r6 r7 r8 r9 r10 r11 r12 r13 r14 r15 : Option Value}, Sm ρ τ → RQ τ → LX B n τ [] (cx + 10 * e) (sx + 70 * e) h0 h → jE 194 38 [some (.ref B), some (.int (iN a)), some (.int w), some (.int (iN N)), some (.int 1), some (.int (iN k)), r6, r7, r8, r9, r10, r11, r12, r13, r14, r15] [] h K := by
  intro e
  induction e with
  | zero =>
    intro k hk h τ r6 r7 r8 r9 r10 r11 r12 r13 r14 r15 hs hQ hx
    have l20 := hx.inf.n.2
    rw [hs.1, hN] at l20
    refine sw_38 hx ⟨fun _ h1 hx1 => hC h1 τ _ _ _ _ _ _ _ _ _ _ _ hs hx1, fun z => ?_⟩
    exact absurd ((iN_lt (by omega) (by omega)).mp z) (by omega)
  | succ e ih =>
    intro k hk h τ r6 r7 r8 r9 r10 r11 r12 r13 r14 r15 hs hQ hx
    have hi := hx.inf
    have h3 := hi.1.1.1
    have l20 := hi.n.2
    have eR := hs.1
    rw [eR] at h3
    rw [eR, hN] at l20
    have ek : iN k + 1 = iN (k + 1) := iN_add k 1
    refine sw_38 hx ⟨fun z => absurd ((iN_lt (by omega) (by omega)).mpr (by omega)) z, fun _ => ⟨fun z h1 hx1 => ?_, fun z h1 hx1 => ?_⟩⟩
    · rw [eR]
      have hak : a ≠ k := fun y => z (by rw [y])
      have hP := isP_i h3 (a := a) (b := k) (by omega) (by omega) hak
      have na := iN_nat (k := a) (by omega)
      have nk := iN_nat (k := k) (by omega)
      have e0 : aLe (ρ 324) (iN a) (iN k) = lea (ρ 324) a k 10 0 := by
        unfold aLe
        rw [if_pos hP, na, nk]
      have e1 : aIs (ρ 324) (iN a) (iN k) 0 - 100 = fRise (ρ 324) a k a := by
        unfold aIs
        rw [if_pos hP, if_pos rfl, na, nk]
        grind
      have e2 : aIs (ρ 324) (iN a) (iN k) 1 - 100 = fRise (ρ 324) a k k := by
        unfold aIs
        rw [if_pos hP, if_neg (by decide), if_pos rfl, na, nk]
        grind
      have e3 : aIs (ρ 324) (iN a) (iN k) 2 = fJa (rsw (ρ 324) a k) + 1000 := by
        unfold aIs
        rw [if_pos hP, if_neg (by decide), if_neg (by decide), if_pos rfl, na, nk]
      rw [e0, e1, e2, e3]
      refine sw_t (ρ := ρ) (cx := cx + 10 * e) (sx := sx + 70 * e) (by omega) (by omega) hak (fun h2 κ w7 w8 w9 w10 w11 w12 w13 w14 w15 hs2 hQ2 hx2 => ?_) 10 0 (by omega) (by omega) hs hQ (hx1.le (by omega) (by omega))
      have eK := hs2.1
      have nxt : ∀ (h3 : jv_H) (v6 v7 v8 v9 v10 v11 v12 v13 v14 v15 : Option Value), LX B n κ [] (cx + 10 * e) (sx + 70 * e) h0 h3 → jE 194 38 [some (.ref B), some (.int (iN a)), some (.int w), some (.int (iN N)), some (.int 1), some (.int (iN k + 1)), v6, v7, v8, v9, v10, v11, v12, v13, v14, v15] [] h3 K := by
        intro h3 v6 v7 v8 v9 v10 v11 v12 v13 v14 v15 hx3
        rw [ek]
        exact ih (k + 1) (by omega) hs2 hQ2 hx3
      have ew : ∀ l, l < 10 → aWy (ρ 324) (iN a) (iN k) (iN l) = fWhy (ρ 324) a k (iN l) := fun l hl => by
        unfold aWy
        rw [if_pos ⟨hP, (iN_le (k := 0) (by decide) (by omega)).mpr (Nat.zero_le _), (iN_le (m := 9) (by omega) (by decide)).mpr (by omega)⟩, na, nk]
      rcases lea_c (ρ 324) a k 10 0 rfl with ⟨c1, c2⟩ | ⟨l, l1, l2, l3, l4, l5⟩
      · rw [c1]
        exact sw_551 hx2 ⟨fun _ h3 hx3 => nxt h3 _ _ _ _ _ _ _ _ _ _ hx3, fun y => absurd (by decide) y⟩
      · rw [l3]
        refine sw_551 hx2 ⟨fun y => absurd ((iN_lt (m := 0) (by omega) (by decide)).mp y) (Nat.not_lt_zero _), fun _ => ?_⟩
        rw [eK, ew l l2]
        refine ⟨l4, fun y h3 hx3 => nxt h3 _ _ _ _ _ _ _ _ _ _ hx3, fun y => ⟨?_, fun h3 hx3 => nxt h3 _ _ _ _ _ _ _ _ _ _ hx3⟩⟩
        have l0 : 1 ≤ l := by
          rcases Nat.eq_zero_or_pos l with v | v
          · exact absurd (by rw [v]; rfl) y
          · exact v
        rw [show (1 : Int32) = iN 1 from rfl, iN_sub (by omega) l0, ew (l - 1) (by omega)]
        exact (why_pos _ _ _ _).mpr (l5 (l - 1) (Nat.zero_le _) (by omega))
    · rw [ek]
      exact ih (k + 1) (by omega) hs hQ (hx1.le (by omega) (by omega))
theorem lm_swaps {c s : Nat} (sp : SP ρ) (ha : a < nM (ρ 324)) : LMx 194 [some (.ref B), some (.int (iN a)), some (.int w), none, none, none, none, none, none, none, none, none, none, none, none, none] B n ρ (c + 200) (s + 1400) (.int 1) c s := fun h hx => by
  have hi := hx.inf
  have h3 := hi.1.1.1
  obtain ⟨e3, l20⟩ := hi.n
  have hnP : ¬ isP (ρ 324) (iN a) (iN a) := fun z => z.2 rfl
  refine sw_0 hx ⟨?_, ?_, fun h1 hx1 => ?_⟩
  · unfold aWy
    rw [if_neg (fun z => hnP z.1)]
  · unfold aIs
    rw [if_neg hnP]
  · rw [e3]
    refine sw_b (cx := c) (sx := s) rfl ha (fun h2 τ r5 r6 r7 r8 r9 r10 r11 r12 r13 r14 r15 hs hx2 => ?_) (nM (ρ 324)) 0 (by omega) Sm.rf ⟨hi, sp⟩ (hx1.le (by omega) (by omega))
    refine sw_605 hx2 (fun h5 hx5 => ?_)
    have ep : vPa (τ 324) (iN a) = fPa (ρ 324) a := by
      rw [hs.1]
      unfold vPa
      rw [if_pos (isT_i h3 ha), iN_nat (by omega)]
    rw [ep]
    exact sw_p rfl ha (fun κ h4 hs4 hx4 => ⟨rfl, κ, hs4, hx4⟩) (nM (ρ 324)) 0 (by omega) hs hx5
end SW
