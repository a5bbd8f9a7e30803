/-! settles(x) -/
theorem sl_0 {B n c s : Nat} {ρ : gS} {h0 h : jv_H} {K : jK} (hx : LX B n ρ [] c s h0 h) (T : (∀ h1, LX B n (hOp ρ (gStl (ρ 324)) (nStl (ρ 324))) [] c s h0 h1 → jE 197 44 [some (.ref B), some (.long (hsh ρ)), none, some (.int (aSt (ρ 324) 0)), some (.int (aSt (ρ 324) 1)), some (.int (aSt (ρ 324) 2)), some (.int (fJa (ρ 324) + 10000)), some (.int (ρ 324 4)), none, none, none, none] [.int (aStl (ρ 324))] h1 K)) : jE 197 0 [some (.ref B), none, none, none, none, none, none, none, none, none, none, none] [] h K := by
  refine jx_blk (by decide) [(.aload_n 0, 1)] (pc' := 1) (Lv' := [some (.ref B), none, none, none, none, none, none, none, none, none, none, none]) (st' := [.ref B]) (by decide +kernel) rfl ?_
  refine lx_m (z := 192) (na := 1) (mL := 5) (v := .long (hsh ρ)) (r := []) [.ref B] (by decide +kernel) hx (lm_state) rfl rfl (Nat.le_of_ble_eq_true rfl) rfl (fun h1 hx2 => ?_)
  refine jx_blk (by decide) [(.lstore_n 1, 1), (.aload_n 0, 1), (.iconst 0, 1)] (pc' := 7) (Lv' := [some (.ref B), some (.long (hsh ρ)), none, none, none, none, none, none, none, none, none, none]) (st' := [.int 0, .ref B]) (by decide +kernel) rfl ?_
  refine lx_call (z := 138) (na := 2) (mL := 3) (v := .int (aSt (ρ 324) 0)) (ρ' := ρ) (r := []) [0] (by decide +kernel) hx2 xr_ifSettled hx2.1.1 rfl rfl (fun _ => rfl) (Nat.le_of_ble_eq_true rfl) (fun h3 hx4 => ?_)
  refine jx_blk (by decide) [(.istore_n 3, 1), (.aload_n 0, 1), (.iconst 1, 1)] (pc' := 13) (Lv' := [some (.ref B), some (.long (hsh ρ)), none, some (.int (aSt (ρ 324) 0)), none, none, none, none, none, none, none, none]) (st' := [.int 1, .ref B]) (by decide +kernel) rfl ?_
  refine lx_call (z := 138) (na := 2) (mL := 3) (v := .int (aSt (ρ 324) 1)) (ρ' := ρ) (r := []) [1] (by decide +kernel) hx4 xr_ifSettled hx4.1.1 rfl rfl (fun _ => rfl) (Nat.le_of_ble_eq_true rfl) (fun h5 hx6 => ?_)
  refine jx_blk (by decide) [(.istore 4, 2), (.aload_n 0, 1), (.iconst 2, 1)] (pc' := 20) (Lv' := [some (.ref B), some (.long (hsh ρ)), none, some (.int (aSt (ρ 324) 0)), some (.int (aSt (ρ 324) 1)), none, none, none, none, none, none, none]) (st' := [.int 2, .ref B]) (by decide +kernel) rfl ?_
  refine lx_call (z := 138) (na := 2) (mL := 3) (v := .int (aSt (ρ 324) 2)) (ρ' := ρ) (r := []) [2] (by decide +kernel) hx6 xr_ifSettled hx6.1.1 rfl rfl (fun _ => rfl) (Nat.le_of_ble_eq_true rfl) (fun h7 hx8 => ?_)
  refine jx_blk (by decide) [(.istore 5, 2), (.aload_n 0, 1), (.iconst 5, 1)] (pc' := 27) (Lv' := [some (.ref B), some (.long (hsh ρ)), none, some (.int (aSt (ρ 324) 0)), some (.int (aSt (ρ 324) 1)), some (.int (aSt (ρ 324) 2)), none, none, none, none, none, none]) (st' := [.int 5, .ref B]) (by decide +kernel) rfl ?_
  refine lx_call (z := 123) (na := 2) (mL := 2) (v := .int (fJa (ρ 324) + 10000)) (ρ' := ρ) (r := []) [5] (by decide +kernel) hx8 xr_v5 hx8.1.1 rfl rfl (fun _ => rfl) (Nat.le_of_ble_eq_true rfl) (fun h9 hx10 => ?_)
  refine jx_blk (by decide) [(.istore 6, 2), (.aload_n 0, 1), (.bipush 8, 2)] (pc' := 35) (Lv' := [some (.ref B), some (.long (hsh ρ)), none, some (.int (aSt (ρ 324) 0)), some (.int (aSt (ρ 324) 1)), some (.int (aSt (ρ 324) 2)), some (.int (fJa (ρ 324) + 10000)), none, none, none, none, none]) (st' := [.int 8, .ref B]) (by decide +kernel) rfl ?_
  refine lx_call (z := 123) (na := 2) (mL := 2) (v := .int (ρ 324 4)) (ρ' := ρ) (r := []) [8] (by decide +kernel) hx10 xr_v8 hx10.1.1 rfl rfl (fun _ => rfl) (Nat.le_of_ble_eq_true rfl) (fun h11 hx12 => ?_)
  refine jx_blk (by decide) [(.istore 7, 2), (.aload_n 0, 1)] (pc' := 41) (Lv' := [some (.ref B), some (.long (hsh ρ)), none, some (.int (aSt (ρ 324) 0)), some (.int (aSt (ρ 324) 1)), some (.int (aSt (ρ 324) 2)), some (.int (fJa (ρ 324) + 10000)), some (.int (ρ 324 4)), none, none, none, none]) (st' := [.ref B]) (by decide +kernel) rfl ?_
  refine lx_call (z := 118) (na := 1) (mL := 3) (v := .int (aStl (ρ 324))) (ρ' := (hOp ρ (gStl (ρ 324)) (nStl (ρ 324)))) (r := []) [] (by decide +kernel) hx12 xr_settle hx12.1.1 rfl rfl (fun _ => rfl) (Nat.le_of_ble_eq_true rfl) (fun h13 hx14 => ?_)
  exact T _ hx14

theorem sl_44 {B n c s : Nat} {ρ : gS} {h0 h : jv_H} {K : jK} {o : Int64} {my su gr hd sp got : Int32} {r8 r9 r10 r11 : Option Value} (hx : LX B n ρ [] c s h0 h) (T : ((¬ my = 0 → (got = my ∧ ((fJa (ρ 324) + 10000) = su ∧ (hd < su ∧ ((fGr (ρ 324)) = gr ∧ ((ρ 324 4) = (sp + my) ∧ ((my = 99 → (∀ h1, LX B n ρ [] c s h0 h1 → jE 197 165 [some (.ref B), some (.long o), none, some (.int my), some (.int su), some (.int gr), some (.int hd), some (.int sp), some (.int got), r9, r10, r11] [.int 1] h1 K)) ∧ (¬ my = 99 → ((aSt (ρ 324) 0) = 0 ∧ ((aStl (ρ 324)) = (-2) ∧ (∀ h1, LX B n (hOp ρ (gStl (ρ 324)) (nStl (ρ 324))) [] c s h0 h1 → jE 197 165 [some (.ref B), some (.long o), none, some (.int my), some (.int su), some (.int gr), some (.int hd), some (.int sp), some (.int got), r9, r10, r11] [.int 1] h1 K))))))))))) ∧ (my = 0 → (got = (-2) ∧ (su = hd ∧ (gr = (fGr (ρ 324)) ∧ ((lg_cmp (hsh ρ) o) = 0 ∧ (∀ h1, LX B n ρ [] c s h0 h1 → K (some (.int 1)) h1)))))))) : jE 197 44 [some (.ref B), some (.long o), none, some (.int my), some (.int su), some (.int gr), some (.int hd), some (.int sp), r8, r9, r10, r11] [.int got] h K := by
  refine jx_blk (by decide) [(.istore 8, 2), (.iload_n 3, 1)] (pc' := 47) (Lv' := [some (.ref B), some (.long o), none, some (.int my), some (.int su), some (.int gr), some (.int hd), some (.int sp), some (.int got), r9, r10, r11]) (st' := [.int my]) (by decide +kernel) rfl ?_
  refine jx_if_ne (off := 43) (b := 90) (by decide) (by decide +kernel) (by decide) (fun e1 => ?_) (fun e1 => ?_)
  · have t2 := T.1 e1
    refine jx_blk (by decide) [(.iload 8, 2), (.iload_n 3, 1)] (pc' := 93) (Lv' := [some (.ref B), some (.long o), none, some (.int my), some (.int su), some (.int gr), some (.int hd), some (.int sp), some (.int got), r9, r10, r11]) (st' := [.int my, .int got]) (by decide +kernel) rfl ?_
    refine jx_ic_ne (off := 71) (b := 164) (by decide) (by decide +kernel) (by decide) (fun e => absurd t2.1 e) (fun _ => ?_)
    have t5 := t2.2
    refine jx_blk (by decide) [(.aload_n 0, 1), (.iconst 5, 1)] (pc' := 98) (Lv' := [some (.ref B), some (.long o), none, some (.int my), some (.int su), some (.int gr), some (.int hd), some (.int sp), some (.int got), r9, r10, r11]) (st' := [.int 5, .ref B]) (by decide +kernel) rfl ?_
    refine lx_call (z := 123) (na := 2) (mL := 2) (v := .int (fJa (ρ 324) + 10000)) (ρ' := ρ) (r := []) [5] (by decide +kernel) hx xr_v5 hx.1.1 rfl rfl (fun _ => rfl) (Nat.le_of_ble_eq_true rfl) (fun h6 hx7 => ?_)
    refine jx_blk (by decide) [(.iload 4, 2)] (pc' := 103) (Lv' := [some (.ref B), some (.long o), none, some (.int my), some (.int su), some (.int gr), some (.int hd), some (.int sp), some (.int got), r9, r10, r11]) (st' := [.int su, .int (fJa (ρ 324) + 10000)]) (by decide +kernel) rfl ?_
    refine jx_ic_ne (off := 61) (b := 164) (by decide) (by decide +kernel) (by decide) (fun e => absurd t5.1 e) (fun _ => ?_)
    have t9 := t5.2
    refine jx_blk (by decide) [(.iload 4, 2), (.iload 6, 2)] (pc' := 110) (Lv' := [some (.ref B), some (.long o), none, some (.int my), some (.int su), some (.int gr), some (.int hd), some (.int sp), some (.int got), r9, r10, r11]) (st' := [.int hd, .int su]) (by decide +kernel) rfl ?_
    refine jx_ic_le (off := 54) (b := 164) (by decide) (by decide +kernel) (by decide) (fun e => absurd t9.1 e) (fun _ => ?_)
    have t11 := t9.2
    refine jx_blk (by decide) [(.aload_n 0, 1), (.bipush 6, 2)] (pc' := 116) (Lv' := [some (.ref B), some (.long o), none, some (.int my), some (.int su), some (.int gr), some (.int hd), some (.int sp), some (.int got), r9, r10, r11]) (st' := [.int 6, .ref B]) (by decide +kernel) rfl ?_
    refine lx_call (z := 123) (na := 2) (mL := 2) (v := .int (fGr (ρ 324))) (ρ' := ρ) (r := []) [6] (by decide +kernel) hx7 xr_v6 hx7.1.1 rfl rfl (fun _ => rfl) (Nat.le_of_ble_eq_true rfl) (fun h12 hx13 => ?_)
    refine jx_blk (by decide) [(.iload 5, 2)] (pc' := 121) (Lv' := [some (.ref B), some (.long o), none, some (.int my), some (.int su), some (.int gr), some (.int hd), some (.int sp), some (.int got), r9, r10, r11]) (st' := [.int gr, .int (fGr (ρ 324))]) (by decide +kernel) rfl ?_
    refine jx_ic_ne (off := 43) (b := 164) (by decide) (by decide +kernel) (by decide) (fun e => absurd t11.1 e) (fun _ => ?_)
    have t15 := t11.2
    refine jx_blk (by decide) [(.aload_n 0, 1), (.bipush 8, 2)] (pc' := 127) (Lv' := [some (.ref B), some (.long o), none, some (.int my), some (.int su), some (.int gr), some (.int hd), some (.int sp), some (.int got), r9, r10, r11]) (st' := [.int 8, .ref B]) (by decide +kernel) rfl ?_
    refine lx_call (z := 123) (na := 2) (mL := 2) (v := .int (ρ 324 4)) (ρ' := ρ) (r := []) [8] (by decide +kernel) hx13 xr_v8 hx13.1.1 rfl rfl (fun _ => rfl) (Nat.le_of_ble_eq_true rfl) (fun h16 hx17 => ?_)
    refine jx_blk (by decide) [(.iload 7, 2), (.iload_n 3, 1), (.iadd, 1)] (pc' := 134) (Lv' := [some (.ref B), some (.long o), none, some (.int my), some (.int su), some (.int gr), some (.int hd), some (.int sp), some (.int got), r9, r10, r11]) (st' := [.int (sp + my), .int (ρ 324 4)]) (by decide +kernel) rfl ?_
    refine jx_ic_ne (off := 30) (b := 164) (by decide) (by decide +kernel) (by decide) (fun e => absurd t15.1 e) (fun _ => ?_)
    have t19 := t15.2
    refine jx_blk (by decide) [(.iload_n 3, 1), (.bipush 99, 2)] (pc' := 140) (Lv' := [some (.ref B), some (.long o), none, some (.int my), some (.int su), some (.int gr), some (.int hd), some (.int sp), some (.int got), r9, r10, r11]) (st' := [.int 99, .int my]) (by decide +kernel) rfl ?_
    refine jx_ic_eq (off := 20) (b := 160) (by decide) (by decide +kernel) (by decide) (fun e20 => ?_) (fun e20 => ?_)
    · have t21 := t19.1 e20
      refine jx_blk (by decide) [(.iconst 1, 1)] (pc' := 161) (Lv' := [some (.ref B), some (.long o), none, some (.int my), some (.int su), some (.int gr), some (.int hd), some (.int sp), some (.int got), r9, r10, r11]) (st' := [.int 1]) (by decide +kernel) rfl ?_
      refine jx_goto (off := 4) (b := 165) (by decide) (by decide +kernel) (by decide) ?_
      exact t21 _ hx17
    · have t22 := t19.2 e20
      refine jx_blk (by decide) [(.aload_n 0, 1), (.iconst 0, 1)] (pc' := 145) (Lv' := [some (.ref B), some (.long o), none, some (.int my), some (.int su), some (.int gr), some (.int hd), some (.int sp), some (.int got), r9, r10, r11]) (st' := [.int 0, .ref B]) (by decide +kernel) rfl ?_
      refine lx_call (z := 138) (na := 2) (mL := 3) (v := .int (aSt (ρ 324) 0)) (ρ' := ρ) (r := []) [0] (by decide +kernel) hx17 xr_ifSettled hx17.1.1 rfl rfl (fun _ => rfl) (Nat.le_of_ble_eq_true rfl) (fun h23 hx24 => ?_)
      refine jx_if_ne (off := 16) (b := 164) (by decide) (by decide +kernel) (by decide) (fun e => absurd t22.1 e) (fun _ => ?_)
      have t26 := t22.2
      refine jx_blk (by decide) [(.aload_n 0, 1)] (pc' := 152) (Lv' := [some (.ref B), some (.long o), none, some (.int my), some (.int su), some (.int gr), some (.int hd), some (.int sp), some (.int got), r9, r10, r11]) (st' := [.ref B]) (by decide +kernel) rfl ?_
      refine lx_call (z := 118) (na := 1) (mL := 3) (v := .int (aStl (ρ 324))) (ρ' := (hOp ρ (gStl (ρ 324)) (nStl (ρ 324)))) (r := []) [] (by decide +kernel) hx24 xr_settle hx24.1.1 rfl rfl (fun _ => rfl) (Nat.le_of_ble_eq_true rfl) (fun h27 hx28 => ?_)
      refine jx_blk (by decide) [(.bipush (-2), 2)] (pc' := 157) (Lv' := [some (.ref B), some (.long o), none, some (.int my), some (.int su), some (.int gr), some (.int hd), some (.int sp), some (.int got), r9, r10, r11]) (st' := [.int (-2), .int (aStl (ρ 324))]) (by decide +kernel) rfl ?_
      refine jx_ic_ne (off := 7) (b := 164) (by decide) (by decide +kernel) (by decide) (fun e => absurd t26.1 e) (fun _ => ?_)
      have t30 := t26.2
      refine jx_blk (by decide) [(.iconst 1, 1)] (pc' := 161) (Lv' := [some (.ref B), some (.long o), none, some (.int my), some (.int su), some (.int gr), some (.int hd), some (.int sp), some (.int got), r9, r10, r11]) (st' := [.int 1]) (by decide +kernel) rfl ?_
      refine jx_goto (off := 4) (b := 165) (by decide) (by decide +kernel) (by decide) ?_
      exact t30 _ hx28
  · have t3 := T.2 e1
    refine jx_blk (by decide) [(.iload 8, 2), (.bipush (-2), 2)] (pc' := 54) (Lv' := [some (.ref B), some (.long o), none, some (.int my), some (.int su), some (.int gr), some (.int hd), some (.int sp), some (.int got), r9, r10, r11]) (st' := [.int (-2), .int got]) (by decide +kernel) rfl ?_
    refine jx_ic_ne (off := 34) (b := 88) (by decide) (by decide +kernel) (by decide) (fun e => absurd t3.1 e) (fun _ => ?_)
    have t32 := t3.2
    refine jx_blk (by decide) [(.iload 4, 2), (.iload 6, 2)] (pc' := 61) (Lv' := [some (.ref B), some (.long o), none, some (.int my), some (.int su), some (.int gr), some (.int hd), some (.int sp), some (.int got), r9, r10, r11]) (st' := [.int hd, .int su]) (by decide +kernel) rfl ?_
    refine jx_ic_ne (off := 27) (b := 88) (by decide) (by decide +kernel) (by decide) (fun e => absurd t32.1 e) (fun _ => ?_)
    have t34 := t32.2
    refine jx_blk (by decide) [(.iload 5, 2), (.aload_n 0, 1), (.bipush 6, 2)] (pc' := 69) (Lv' := [some (.ref B), some (.long o), none, some (.int my), some (.int su), some (.int gr), some (.int hd), some (.int sp), some (.int got), r9, r10, r11]) (st' := [.int 6, .ref B, .int gr]) (by decide +kernel) rfl ?_
    refine lx_call (z := 123) (na := 2) (mL := 2) (v := .int (fGr (ρ 324))) (ρ' := ρ) (r := [.int gr]) [6] (by decide +kernel) hx xr_v6 hx.1.1 rfl rfl (fun _ => rfl) (Nat.le_of_ble_eq_true rfl) (fun h35 hx36 => ?_)
    refine jx_ic_ne (off := 16) (b := 88) (by decide) (by decide +kernel) (by decide) (fun e => absurd t34.1 e) (fun _ => ?_)
    have t38 := t34.2
    refine jx_blk (by decide) [(.aload_n 0, 1)] (pc' := 76) (Lv' := [some (.ref B), some (.long o), none, some (.int my), some (.int su), some (.int gr), some (.int hd), some (.int sp), some (.int got), r9, r10, r11]) (st' := [.ref B]) (by decide +kernel) rfl ?_
    refine lx_m (z := 192) (na := 1) (mL := 5) (v := .long (hsh ρ)) (r := []) [.ref B] (by decide +kernel) hx36 (lm_state) rfl rfl (Nat.le_of_ble_eq_true rfl) rfl (fun h39 hx40 => ?_)
    refine jx_blk (by decide) [(.lload_n 1, 1), (.lcmp, 1)] (pc' := 81) (Lv' := [some (.ref B), some (.long o), none, some (.int my), some (.int su), some (.int gr), some (.int hd), some (.int sp), some (.int got), r9, r10, r11]) (st' := [.int (lg_cmp (hsh ρ) o)]) (by decide +kernel) rfl ?_
    refine jx_if_ne (off := 7) (b := 88) (by decide) (by decide +kernel) (by decide) (fun e => absurd t38.1 e) (fun _ => ?_)
    have t42 := t38.2
    refine jx_blk (by decide) [(.iconst 1, 1)] (pc' := 85) (Lv' := [some (.ref B), some (.long o), none, some (.int my), some (.int su), some (.int gr), some (.int hd), some (.int sp), some (.int got), r9, r10, r11]) (st' := [.int 1]) (by decide +kernel) rfl ?_
    refine jx_goto (off := 4) (b := 89) (by decide) (by decide +kernel) (by decide) ?_
    exact jx_zret (by decide) (by decide +kernel) (by decide +kernel) (Or.inr rfl) (t42 _ hx40)

theorem sl_165 {B n c s : Nat} {ρ : gS} {h0 h : jv_H} {K : jK} {o : Int64} {my su gr hd sp gt : Int32} {r9 r10 r11 : Option Value} (hx : LX B n ρ [] c s h0 h) (T : (∀ h1, LX B n ρ [] c s h0 h1 → jE 197 170 [some (.ref B), some (.long o), none, some (.int my), some (.int su), some (.int gr), some (.int hd), some (.int sp), some (.int gt), some (.int 1), some (.int 0), r11] [] h1 K)) : jE 197 165 [some (.ref B), some (.long o), none, some (.int my), some (.int su), some (.int gr), some (.int hd), some (.int sp), some (.int gt), r9, r10, r11] [.int 1] h K := by
  refine jx_blk (by decide) [(.istore 9, 2), (.iconst 0, 1), (.istore 10, 2)] (pc' := 170) (Lv' := [some (.ref B), some (.long o), none, some (.int my), some (.int su), some (.int gr), some (.int hd), some (.int sp), some (.int gt), some (.int 1), some (.int 0), r11]) (st' := []) (by decide +kernel) rfl ?_
  exact T _ hx

theorem sl_170 {B n c s : Nat} {ρ : gS} {h0 h : jv_H} {K : jK} {o : Int64} {my su gr hd sp gt a : Int32} {r11 : Option Value} (hx : LX B n ρ [] c s h0 h) (T : ((¬ a < (ρ 324 3) → (∀ h1, LX B n ρ [] c s h0 h1 → jE 197 260 [some (.ref B), some (.long o), none, some (.int my), some (.int su), some (.int gr), some (.int hd), some (.int sp), some (.int gt), some (.int 1), some (.int a), r11] [] h1 K)) ∧ (a < (ρ 324 3) → ((¬ my < 99 → (∀ h1, LX B n ρ [] c s h0 h1 → jE 197 260 [some (.ref B), some (.long o), none, some (.int my), some (.int su), some (.int gr), some (.int hd), some (.int sp), some (.int gt), some (.int 1), some (.int a), r11] [] h1 K)) ∧ (my < 99 → (∀ h1, LX B n ρ [] c s h0 h1 → jE 197 189 [some (.ref B), some (.long o), none, some (.int my), some (.int su), some (.int gr), some (.int hd), some (.int sp), some (.int gt), some (.int 1), some (.int a), some (.int 0)] [] h1 K)))))) : jE 197 170 [some (.ref B), some (.long o), none, some (.int my), some (.int su), some (.int gr), some (.int hd), some (.int sp), some (.int gt), some (.int 1), some (.int a), r11] [] h K := by
  refine jx_blk (by decide) [(.iload 10, 2), (.aload_n 0, 1), (.iconst 3, 1)] (pc' := 174) (Lv' := [some (.ref B), some (.long o), none, some (.int my), some (.int su), some (.int gr), some (.int hd), some (.int sp), some (.int gt), some (.int 1), some (.int a), r11]) (st' := [.int 3, .ref B, .int a]) (by decide +kernel) rfl ?_
  refine lx_call (z := 123) (na := 2) (mL := 2) (v := .int (ρ 324 3)) (ρ' := ρ) (r := [.int a]) [3] (by decide +kernel) hx xr_v3 hx.1.1 rfl rfl (fun _ => rfl) (Nat.le_of_ble_eq_true rfl) (fun h1 hx2 => ?_)
  refine jx_ic_ge (off := 83) (b := 260) (by decide) (by decide +kernel) (by decide) (fun e3 => ?_) (fun e3 => ?_)
  · have t4 := T.1 e3
    exact t4 _ hx2
  · have t5 := T.2 e3
    refine jx_blk (by decide) [(.iload_n 3, 1), (.bipush 99, 2)] (pc' := 183) (Lv' := [some (.ref B), some (.long o), none, some (.int my), some (.int su), some (.int gr), some (.int hd), some (.int sp), some (.int gt), some (.int 1), some (.int a), r11]) (st' := [.int 99, .int my]) (by decide +kernel) rfl ?_
    refine jx_ic_ge (off := 77) (b := 260) (by decide) (by decide +kernel) (by decide) (fun e6 => ?_) (fun e6 => ?_)
    · have t7 := t5.1 e6
      exact t7 _ hx2
    · have t8 := t5.2 e6
      refine jx_blk (by decide) [(.iconst 0, 1), (.istore 11, 2)] (pc' := 189) (Lv' := [some (.ref B), some (.long o), none, some (.int my), some (.int su), some (.int gr), some (.int hd), some (.int sp), some (.int gt), some (.int 1), some (.int a), some (.int 0)]) (st' := []) (by decide +kernel) rfl ?_
      exact t8 _ hx2

theorem sl_189 {B n c s : Nat} {ρ : gS} {h0 h : jv_H} {K : jK} {o : Int64} {my su gr hd sp gt a b : Int32} (hx : LX B n ρ [] c s h0 h) (T : ((¬ b < (ρ 324 3) → (∀ h1, LX B n ρ [] c s h0 h1 → jE 197 170 [some (.ref B), some (.long o), none, some (.int my), some (.int su), some (.int gr), some (.int hd), some (.int sp), some (.int gt), some (.int 1), some (.int (a + 1)), some (.int b)] [] h1 K)) ∧ (b < (ρ 324 3) → ((a = b → (∀ h1, LX B n ρ [] c s h0 h1 → jE 197 189 [some (.ref B), some (.long o), none, some (.int my), some (.int su), some (.int gr), some (.int hd), some (.int sp), some (.int gt), some (.int 1), some (.int a), some (.int (b + 1))] [] h1 K)) ∧ (¬ a = b → ((¬ (aWy (ρ 324) a b 0) = 0 → (∀ h1, LX B n ρ [] c s h0 h1 → jE 197 189 [some (.ref B), some (.long o), none, some (.int my), some (.int su), some (.int gr), some (.int hd), some (.int sp), some (.int gt), some (.int 1), some (.int a), some (.int (b + 1))] [] h1 K)) ∧ ((aWy (ρ 324) a b 0) = 0 → (¬ su < ((aIs (ρ 324) a b 2) + 9000) ∧ (∀ h1, LX B n ρ [] c s h0 h1 → jE 197 189 [some (.ref B), some (.long o), none, some (.int my), some (.int su), some (.int gr), some (.int hd), some (.int sp), some (.int gt), some (.int 1), some (.int a), some (.int (b + 1))] [] h1 K))))))))) : jE 197 189 [some (.ref B), some (.long o), none, some (.int my), some (.int su), some (.int gr), some (.int hd), some (.int sp), some (.int gt), some (.int 1), some (.int a), some (.int b)] [] h K := by
  refine jx_blk (by decide) [(.iload 11, 2), (.aload_n 0, 1), (.iconst 3, 1)] (pc' := 193) (Lv' := [some (.ref B), some (.long o), none, some (.int my), some (.int su), some (.int gr), some (.int hd), some (.int sp), some (.int gt), some (.int 1), some (.int a), some (.int b)]) (st' := [.int 3, .ref B, .int b]) (by decide +kernel) rfl ?_
  refine lx_call (z := 123) (na := 2) (mL := 2) (v := .int (ρ 324 3)) (ρ' := ρ) (r := [.int b]) [3] (by decide +kernel) hx xr_v3 hx.1.1 rfl rfl (fun _ => rfl) (Nat.le_of_ble_eq_true rfl) (fun h1 hx2 => ?_)
  refine jx_ic_ge (off := 58) (b := 254) (by decide) (by decide +kernel) (by decide) (fun e3 => ?_) (fun e3 => ?_)
  · have t4 := T.1 e3
    refine jx_blk (by decide) [(.iinc 10 1, 3)] (pc' := 257) (Lv' := [some (.ref B), some (.long o), none, some (.int my), some (.int su), some (.int gr), some (.int hd), some (.int sp), some (.int gt), some (.int 1), some (.int (a + 1)), some (.int b)]) (st' := []) (by decide +kernel) rfl ?_
    refine jx_goto (off := (-87)) (b := 170) (by decide) (by decide +kernel) (by decide) ?_
    exact t4 _ hx2
  · have t5 := T.2 e3
    refine jx_blk (by decide) [(.iload 10, 2), (.iload 11, 2)] (pc' := 203) (Lv' := [some (.ref B), some (.long o), none, some (.int my), some (.int su), some (.int gr), some (.int hd), some (.int sp), some (.int gt), some (.int 1), some (.int a), some (.int b)]) (st' := [.int b, .int a]) (by decide +kernel) rfl ?_
    refine jx_ic_eq (off := 45) (b := 248) (by decide) (by decide +kernel) (by decide) (fun e6 => ?_) (fun e6 => ?_)
    · have t7 := t5.1 e6
      refine jx_blk (by decide) [(.iinc 11 1, 3)] (pc' := 251) (Lv' := [some (.ref B), some (.long o), none, some (.int my), some (.int su), some (.int gr), some (.int hd), some (.int sp), some (.int gt), some (.int 1), some (.int a), some (.int (b + 1))]) (st' := []) (by decide +kernel) rfl ?_
      refine jx_goto (off := (-62)) (b := 189) (by decide) (by decide +kernel) (by decide) ?_
      exact t7 _ hx2
    · have t8 := t5.2 e6
      refine jx_blk (by decide) [(.aload_n 0, 1), (.iload 10, 2), (.iload 11, 2), (.iconst 0, 1)] (pc' := 212) (Lv' := [some (.ref B), some (.long o), none, some (.int my), some (.int su), some (.int gr), some (.int hd), some (.int sp), some (.int gt), some (.int 1), some (.int a), some (.int b)]) (st' := [.int 0, .int b, .int a, .ref B]) (by decide +kernel) rfl ?_
      refine lx_call (z := 130) (na := 4) (mL := 4) (v := .int (aWy (ρ 324) a b 0)) (ρ' := ρ) (r := []) [0, b, a] (by decide +kernel) hx2 xr_why hx2.1.1 rfl rfl (fun _ => rfl) (Nat.le_of_ble_eq_true rfl) (fun h9 hx10 => ?_)
      refine jx_if_ne (off := 33) (b := 248) (by decide) (by decide +kernel) (by decide) (fun e11 => ?_) (fun e11 => ?_)
      · have t12 := t8.1 e11
        refine jx_blk (by decide) [(.iinc 11 1, 3)] (pc' := 251) (Lv' := [some (.ref B), some (.long o), none, some (.int my), some (.int su), some (.int gr), some (.int hd), some (.int sp), some (.int gt), some (.int 1), some (.int a), some (.int (b + 1))]) (st' := []) (by decide +kernel) rfl ?_
        refine jx_goto (off := (-62)) (b := 189) (by decide) (by decide +kernel) (by decide) ?_
        exact t12 _ hx10
      · have t13 := t8.2 e11
        refine jx_blk (by decide) [(.iload 9, 2)] (pc' := 220) (Lv' := [some (.ref B), some (.long o), none, some (.int my), some (.int su), some (.int gr), some (.int hd), some (.int sp), some (.int gt), some (.int 1), some (.int a), some (.int b)]) (st' := [.int 1]) (by decide +kernel) rfl ?_
        refine jx_if_eq (off := 25) (b := 245) (by decide) (by decide +kernel) (by decide) (fun e => absurd e (by decide)) (fun _ => ?_)
        refine jx_blk (by decide) [(.aload_n 0, 1), (.iload 10, 2), (.iload 11, 2), (.iconst 2, 1)] (pc' := 229) (Lv' := [some (.ref B), some (.long o), none, some (.int my), some (.int su), some (.int gr), some (.int hd), some (.int sp), some (.int gt), some (.int 1), some (.int a), some (.int b)]) (st' := [.int 2, .int b, .int a, .ref B]) (by decide +kernel) rfl ?_
        refine lx_call (z := 133) (na := 4) (mL := 4) (v := .int (aIs (ρ 324) a b 2)) (ρ' := ρ) (r := []) [2, b, a] (by decide +kernel) hx10 xr_ifSwapped hx10.1.1 rfl rfl (fun _ => rfl) (Nat.le_of_ble_eq_true rfl) (fun h14 hx15 => ?_)
        refine jx_blk (by decide) [(.sipush 9000, 3), (.iadd, 1), (.iload 4, 2)] (pc' := 238) (Lv' := [some (.ref B), some (.long o), none, some (.int my), some (.int su), some (.int gr), some (.int hd), some (.int sp), some (.int gt), some (.int 1), some (.int a), some (.int b)]) (st' := [.int su, .int ((aIs (ρ 324) a b 2) + 9000)]) (by decide +kernel) rfl ?_
        refine jx_ic_gt (off := 7) (b := 245) (by decide) (by decide +kernel) (by decide) (fun e => absurd e t13.1) (fun _ => ?_)
        have t17 := t13.2
        refine jx_blk (by decide) [(.iconst 1, 1)] (pc' := 242) (Lv' := [some (.ref B), some (.long o), none, some (.int my), some (.int su), some (.int gr), some (.int hd), some (.int sp), some (.int gt), some (.int 1), some (.int a), some (.int b)]) (st' := [.int 1]) (by decide +kernel) rfl ?_
        refine jx_goto (off := 4) (b := 246) (by decide) (by decide +kernel) (by decide) ?_
        refine jx_blk (by decide) [(.istore 9, 2), (.iinc 11 1, 3)] (pc' := 251) (Lv' := [some (.ref B), some (.long o), none, some (.int my), some (.int su), some (.int gr), some (.int hd), some (.int sp), some (.int gt), some (.int 1), some (.int a), some (.int (b + 1))]) (st' := []) (by decide +kernel) rfl ?_
        refine jx_goto (off := (-62)) (b := 189) (by decide) (by decide +kernel) (by decide) ?_
        exact t17 _ hx15

theorem sl_260 {B n c s : Nat} {ρ : gS} {h0 h : jv_H} {K : jK} {o : Int64} {my su gr hd sp : Int32} {r8 r10 r11 : Option Value} (hx : LX B n ρ [] c s h0 h) (T : (¬ (if ρ 323 6 = 0 then -1 else ρ 323 6 - 1) < 0 ∧ ((lg_cmp (hsh (hUn ρ)) o) = 0 ∧ (∀ h1, LX B n (hUn ρ) [] c s h0 h1 → K (some (.int 1)) h1)))) : jE 197 260 [some (.ref B), some (.long o), none, some (.int my), some (.int su), some (.int gr), some (.int hd), some (.int sp), r8, some (.int 1), r10, r11] [] h K := by
  refine jx_blk (by decide) [(.iload 9, 2)] (pc' := 262) (Lv' := [some (.ref B), some (.long o), none, some (.int my), some (.int su), some (.int gr), some (.int hd), some (.int sp), r8, some (.int 1), r10, r11]) (st' := [.int 1]) (by decide +kernel) rfl ?_
  refine jx_if_eq (off := 23) (b := 285) (by decide) (by decide +kernel) (by decide) (fun e => absurd e (by decide)) (fun _ => ?_)
  refine jx_blk (by decide) [(.aload_n 0, 1)] (pc' := 266) (Lv' := [some (.ref B), some (.long o), none, some (.int my), some (.int su), some (.int gr), some (.int hd), some (.int sp), r8, some (.int 1), r10, r11]) (st' := [.ref B]) (by decide +kernel) rfl ?_
  refine lx_call (z := 122) (na := 1) (mL := 1) (v := .int (if ρ 323 6 = 0 then -1 else ρ 323 6 - 1)) (ρ' := (hUn ρ)) (r := []) [] (by decide +kernel) hx xr_undo hx.1.1 rfl rfl (fun _ => rfl) (Nat.le_of_ble_eq_true rfl) (fun h1 hx2 => ?_)
  refine jx_if_lt (off := 16) (b := 285) (by decide) (by decide +kernel) (by decide) (fun e => absurd e T.1) (fun _ => ?_)
  have t4 := T.2
  refine jx_blk (by decide) [(.aload_n 0, 1)] (pc' := 273) (Lv' := [some (.ref B), some (.long o), none, some (.int my), some (.int su), some (.int gr), some (.int hd), some (.int sp), r8, some (.int 1), r10, r11]) (st' := [.ref B]) (by decide +kernel) rfl ?_
  refine lx_m (z := 192) (na := 1) (mL := 5) (v := .long (hsh (hUn ρ))) (r := []) [.ref B] (by decide +kernel) hx2 (lm_state) rfl rfl (Nat.le_of_ble_eq_true rfl) rfl (fun h5 hx6 => ?_)
  refine jx_blk (by decide) [(.lload_n 1, 1), (.lcmp, 1)] (pc' := 278) (Lv' := [some (.ref B), some (.long o), none, some (.int my), some (.int su), some (.int gr), some (.int hd), some (.int sp), r8, some (.int 1), r10, r11]) (st' := [.int (lg_cmp (hsh (hUn ρ)) o)]) (by decide +kernel) rfl ?_
  refine jx_if_ne (off := 7) (b := 285) (by decide) (by decide +kernel) (by decide) (fun e => absurd t4.1 e) (fun _ => ?_)
  have t8 := t4.2
  refine jx_blk (by decide) [(.iconst 1, 1)] (pc' := 282) (Lv' := [some (.ref B), some (.long o), none, some (.int my), some (.int su), some (.int gr), some (.int hd), some (.int sp), r8, some (.int 1), r10, r11]) (st' := [.int 1]) (by decide +kernel) rfl ?_
  refine jx_goto (off := 4) (b := 286) (by decide) (by decide +kernel) (by decide) ?_
  exact jx_zret (by decide) (by decide +kernel) (by decide +kernel) (Or.inr rfl) (t8 _ hx6)
theorem bst_inv (R : gW) (hb : 0 ≤ R 3 ∧ R 3 ≤ 20) : (fBest R = -2 ∧ ∀ a b, a < nM R → b < nM R → ¬ a = b → fWhy R a b 0 = 0 → fRA R a b ≤ 0) ∨ ∃ a b, a < nM R ∧ b < nM R ∧ fBest R = 100 * iN a + iN b ∧ 0 < fRA R a b ∧ ¬ a = b ∧ fWhy R a b 0 = 0 := by
  -- what the fold holds behind the pairs (a', b') with a' < a or a' = a, b' < b
  have inner : ∀ a, ∀ k s, k ≤ nM R → ((s : Int32 × Int32).1 = -2 ∧ s.2 = 0 ∨ ∃ a1 b1, a1 < nM R ∧ b1 < nM R ∧ s.1 = 100 * iN a1 + iN b1 ∧ s.2 = fRA R a1 b1 ∧ 0 < s.2 ∧ ¬ a1 = b1 ∧ fWhy R a1 b1 0 = 0) → a < nM R →
      ((nfold (bsS R a) k s).1 = -2 ∧ (nfold (bsS R a) k s).2 = 0 ∨ ∃ a1 b1, a1 < nM R ∧ b1 < nM R ∧ (nfold (bsS R a) k s).1 = 100 * iN a1 + iN b1 ∧ (nfold (bsS R a) k s).2 = fRA R a1 b1 ∧ 0 < (nfold (bsS R a) k s).2 ∧ ¬ a1 = b1 ∧ fWhy R a1 b1 0 = 0) ∧
      s.2 ≤ (nfold (bsS R a) k s).2 ∧ ∀ b, b < k → ¬ a = b → fWhy R a b 0 = 0 → fRA R a b ≤ (nfold (bsS R a) k s).2 := by
    intro a k
    induction k with
    | zero =>
      intro s _ hs _
      exact ⟨hs, Int32.le_refl _, fun b hb => absurd hb (Nat.not_lt_zero _)⟩
    | succ k ih =>
      intro s hk hs ha
      obtain ⟨i1, i2, i3⟩ := ih s (by omega) hs ha
      have e : nfold (bsS R a) (k + 1) s = bsS R a k (nfold (bsS R a) k s) := rfl
      rw [e]
      obtain ⟨p, hp⟩ : ∃ p, nfold (bsS R a) k s = p := ⟨_, rfl⟩
      rw [hp] at i1 i2 i3 ⊢
      unfold bsS
      by_cases q : a = k ∨ 0 < fWhy R a k 0
      · rw [if_pos q]
        refine ⟨i1, i2, fun b hb hne hw => ?_⟩
        rcases Nat.lt_succ_iff_lt_or_eq.mp hb with z | z
        · exact i3 b z hne hw
        · subst z
          rcases q with q | q
          · exact absurd q hne
          · rw [hw] at q
            exact absurd q (by decide)
      · rw [if_neg q]
        by_cases q2 : fRA R a k ≤ p.2
        · rw [if_pos q2]
          refine ⟨i1, i2, fun b hb hne hw => ?_⟩
          rcases Nat.lt_succ_iff_lt_or_eq.mp hb with z | z
          · exact i3 b z hne hw
          · subst z
            exact q2
        · rw [if_neg q2]
          have q3 : p.2 < fRA R a k := Int32.not_le.mp q2
          have p0 : 0 ≤ p.2 := by
            rcases i1 with ⟨-, z⟩ | ⟨a1, b1, -, -, -, -, z, -⟩
            · rw [z]; decide
            · exact Int32.le_of_lt z
          refine ⟨Or.inr ⟨a, k, ha, by omega, rfl, rfl, Int32.lt_of_le_of_lt p0 q3, fun z => q (Or.inl z), ?_⟩, Int32.le_trans i2 (Int32.le_of_lt q3), fun b hb hne hw => ?_⟩
          · exact Decidable.not_not.mp (fun z => q (Or.inr ((why_pos R a k 0).mpr z)))
          · rcases Nat.lt_succ_iff_lt_or_eq.mp hb with z | z
            · exact Int32.le_trans (i3 b z hne hw) (Int32.le_of_lt q3)
            · subst z
              exact Int32.le_refl _
  have outer : ∀ k, k ≤ nM R → ((nfold (bsR R) k (-2, 0)).1 = -2 ∧ (nfold (bsR R) k (-2, 0)).2 = 0 ∨ ∃ a1 b1, a1 < nM R ∧ b1 < nM R ∧ (nfold (bsR R) k (-2, 0)).1 = 100 * iN a1 + iN b1 ∧ (nfold (bsR R) k (-2, 0)).2 = fRA R a1 b1 ∧ 0 < (nfold (bsR R) k (-2, 0)).2 ∧ ¬ a1 = b1 ∧ fWhy R a1 b1 0 = 0) ∧
      ∀ a b, a < k → b < nM R → ¬ a = b → fWhy R a b 0 = 0 → fRA R a b ≤ (nfold (bsR R) k (-2, 0)).2 := by
    intro k
    induction k with
    | zero =>
      intro _
      exact ⟨Or.inl ⟨rfl, rfl⟩, fun a b ha => absurd ha (Nat.not_lt_zero _)⟩
    | succ k ih =>
      intro hk
      obtain ⟨i1, i2⟩ := ih (by omega)
      have e : nfold (bsR R) (k + 1) (-2, 0) = nfold (bsS R k) (nM R) (nfold (bsR R) k (-2, 0)) := rfl
      rw [e]
      obtain ⟨j1, j2, j3⟩ := inner k (nM R) (nfold (bsR R) k (-2, 0)) (Nat.le_refl _) i1 (by omega)
      refine ⟨j1, fun a b ha hb hne hw => ?_⟩
      rcases Nat.lt_succ_iff_lt_or_eq.mp ha with z | z
      · exact Int32.le_trans (i2 a b z hb hne hw) j2
      · subst z
        exact j3 b hb hne hw
  obtain ⟨o1, o2⟩ := outer (nM R) (Nat.le_refl _)
  unfold fBest
  rcases o1 with ⟨e1, e2⟩ | ⟨a1, b1, h1, h2, h3, h4, h5, h6, h7⟩
  · refine Or.inl ⟨e1, fun a b ha hb hne hw => ?_⟩
    have := o2 a b ha hb hne hw
    rw [e2] at this
    exact this
  · exact Or.inr ⟨a1, b1, h1, h2, h3, by rw [← h4]; exact h5, h6, h7⟩
/-- settling: rows of the same travellers, the sum rises -/
theorem st_inv : ∀ (d : Nat) (R : gW), (0 ≤ R 3 ∧ R 3 ≤ 20) → bT R → bF R → fSt d R = (0, R) ∨ (0 < (fSt d R).1 ∧ fJa R < fJa (fSt d R).2)
  | 0, R, _, _, _ => Or.inl rfl
  | d + 1, R, h3, hT, hF => by
    by_cases q : fBest R < 0
    · exact Or.inl (fSt_lt q)
    · right
      rw [fSt_ge q]
      refine ⟨Nat.succ_pos _, ?_⟩
      show fJa R < fJa (fSt d (fNx R)).2
      rcases bst_inv R h3 with ⟨e, -⟩ | ⟨a, b, ha, hb, e, hp, hne, hw⟩
      · rw [e] at q
        exact absurd (by decide) q
      · have l20 := (nM_of h3).2
        obtain ⟨d1, d2, -⟩ := dm100 a (by omega) b (by omega)
        have eN : fNx R = rsw R a b := by
          unfold fNx
          rw [e, d2, d1, iN_nat (by omega), iN_nat (by omega)]
        obtain ⟨t1, f1⟩ := bFT_rsw hT hF ha hb
        have h3' : 0 ≤ rsw R a b 3 ∧ rsw R a b 3 ≤ 20 := by rw [rsw_3]; exact h3
        have b1 := fJa_b h3 hT hF
        have b2 := fJa_b h3' t1 f1
        have step : fJa R < fJa (rsw R a b) := by
          unfold fRA at hp
          obtain ⟨x1, x2⟩ := b1
          obtain ⟨y1, y2⟩ := b2
          grind
        rw [eN]
        rcases st_inv d (rsw R a b) h3' t1 f1 with z | z
        · rw [z]
          exact step
        · exact Int32.lt_trans step z.2
theorem st_end : ∀ (d : Nat) (R : gW), (fSt d R).1 < d → fBest (fSt d R).2 < 0
  | 0, R, h => absurd h (Nat.not_lt_zero _)
  | d + 1, R, h => by
    by_cases q : fBest R < 0
    · rw [fSt_lt q]
      exact q
    · rw [fSt_ge q] at h ⊢
      exact st_end d (fNx R) (Nat.lt_of_succ_lt_succ h)
theorem st_bT {d : Nat} {R : gW} (h3 : 0 ≤ R 3 ∧ R 3 ≤ 20) (hT : bT R) (hF : bF R) : ∀ d, ∀ R : gW, (0 ≤ R 3 ∧ R 3 ≤ 20) → bT R → bF R → bT (fSt d R).2 ∧ bF (fSt d R).2 ∧ (∀ j, j < 9 → (fSt d R).2 j = R j) := by
  intro d
  induction d with
  | zero => exact fun R _ hT hF => ⟨hT, hF, fun _ _ => rfl⟩
  | succ d ih =>
    intro R h3 hT hF
    by_cases q : fBest R < 0
    · rw [fSt_lt q]
      exact ⟨hT, hF, fun _ _ => rfl⟩
    · rw [fSt_ge q]
      obtain ⟨a, b, ha, hb, l20, e⟩ := fBest_ab h3 q
      obtain ⟨t1, f1⟩ := bFT_rsw hT hF ha hb
      obtain ⟨i1, i2, i3⟩ := ih (fNx R) (by rw [e, rsw_3]; exact h3) (by rw [e]; exact t1) (by rw [e]; exact f1)
      refine ⟨i1, i2, fun j hj => ?_⟩
      rw [i3 j hj, e, rsw_eq, if_neg (by omega), if_neg (by omega)]
theorem aSt_0 (R : gW) : aSt R 0 = iN (fSt 99 R).1 := by unfold aSt; rw [if_pos (by decide), if_pos rfl]
theorem aSt_1 (R : gW) : aSt R 1 = fJa (fSt 99 R).2 + 10000 := by unfold aSt; rw [if_pos (by decide), if_neg (by decide), if_pos rfl]
theorem aSt_2 (R : gW) : aSt R 2 = fGr (fSt 99 R).2 := by unfold aSt; rw [if_pos (by decide), if_neg (by decide), if_neg (by decide)]
/-- the row behind a settling -/
theorem agf_stl {R : gW} (h3 : 0 ≤ R 3 ∧ R 3 ≤ 20) (h9 : 0 ≤ R 209 ∧ R 209 ≤ 40) : agf (nStl R) (fSt 99 R).2 := by
  unfold nStl
  have e9 : (fSt 99 R).2 209 = R 209 := fSt_9 h3
  have e3 : (fSt 99 R).2 3 = R 3 := fSt_3 99 R
  have l20 : nM (fSt 99 R).2 ≤ 20 := (nM_of (by rw [e3]; exact h3)).2
  refine agf_trans (agf_te ?_ ?_) (agf_rad (by decide) (by decide))
  · rw [radd_ne (by decide), e9]
    exact h9
  · rw [nM_radd (by decide)]
    exact l20
theorem stl_4 {R : gW} (h3 : 0 ≤ R 3 ∧ R 3 ≤ 20) (h9 : 0 ≤ R 209 ∧ R 209 ≤ 40) (hT : bT R) (hF : bF R) : nStl R 4 = R 4 + iN (fSt 99 R).1 := by
  unfold nStl
  have e9 : (fSt 99 R).2 209 = R 209 := fSt_9 h3
  rw [fTe_ne (by rw [radd_ne (by decide), e9]; exact h9) (Or.inl (by decide)), radd_at, (st_bT (d := 0) h3 hT hF 99 R h3 hT hF).2.2 4 (by decide)]
section SL
variable {B n : Nat} {ρ : gS} {h0 : jv_H} {K : jK} {o : Int64} {my su gr hd sp gt : Int32}
/-- no swap is left that would be done -/
theorem sl_b {c s N : Nat} {R : gW} (hN : nM R = N) (h3 : 0 ≤ R 3 ∧ R 3 ≤ 20) (hT : bT R) (hF : bF R) (hb : fBest R < 0) (hsu : su = fJa R + 10000) (hR : ρ 324 = R) {a : Nat} (ha : a < N) (hG : ∀ (h : jv_H) (w11 : Option Value), LX B n ρ [] c s h0 h → jE 197 170 [some (.ref B), some (.long o), none, some (.int my), some (.int su), some (.int gr), some (.int hd), some (.int sp), some (.int gt), some (.int 1), some (.int (iN (a + 1))), w11] [] h K) :
    ∀ (e k : Nat), k + e = N → ∀ {h : jv_H}, LX B n ρ [] c s h0 h → jE 197 189 [some (.ref B), some (.long o), none, some (.int my), some (.int su), some (.int gr), some (.int hd), some (.int sp), some (.int gt), some (.int 1), some (.int (iN a)), some (.int (iN k))] [] h K := by
  obtain ⟨e3, l20⟩ := nM_of h3
  rw [hN] at e3 l20
  intro e
  induction e with
  | zero =>
    intro k hk h hx
    have hk : k = N := by omega
    refine sl_189 hx ?_
    rw [hR, e3]
    refine ⟨fun _ h1 hx1 => ?_, fun z => absurd ((iN_lt (by omega) (by omega)).mp z) (by omega)⟩
    rw [show iN a + 1 = iN (a + 1) from iN_add a 1]
    exact hG h1 _ hx1
  | succ e ih =>
    intro k hk h hx
    have ek : iN k + 1 = iN (k + 1) := iN_add k 1
    refine sl_189 hx ?_
    rw [hR, e3]
    refine ⟨fun z => absurd ((iN_lt (by omega) (by omega)).mpr (by omega)) z, fun _ => ⟨fun z h1 hx1 => ?_, fun z => ⟨fun y h1 hx1 => ?_, fun y => ⟨?_, fun h1 hx1 => ?_⟩⟩⟩⟩
    · rw [ek]
      exact ih (k + 1) (by omega) hx1
    · rw [ek]
      exact ih (k + 1) (by omega) hx1
    · have hak : a ≠ k := fun v => z (by rw [v])
      have hP := isP_i h3 (a := a) (b := k) (by omega) (by omega) hak
      have na := iN_nat (k := a) (by omega)
      have nk := iN_nat (k := k) (by omega)
      have ei : aIs R (iN a) (iN k) 2 = fJa (rsw R a k) + 1000 := by
        unfold aIs
        rw [if_pos hP, if_neg (by decide), if_neg (by decide), if_pos rfl, na, nk]
      have ew : aWy R (iN a) (iN k) 0 = fWhy R a k 0 := by
        unfold aWy
        rw [if_pos ⟨hP, by decide⟩, na, nk]
      rw [ew] at y
      rw [ei, hsu]
      have hle : fRA R a k ≤ 0 := by
        rcases bst_inv R h3 with ⟨-, z2⟩ | ⟨a1, b1, ha1, hb1, e1, -⟩
        · exact z2 a k (by omega) (by omega) hak y
        · rw [e1] at hb
          exact absurd hb (dm100 a1 (by omega) b1 (by omega)).2.2
      obtain ⟨t1, f1⟩ := bFT_rsw hT hF (a := a) (b := k) (by omega) (by omega)
      have b2 := fJa_b (R := rsw R a k) (by rw [rsw_3]; exact h3) t1 f1
      have b1 := fJa_b h3 hT hF
      unfold fRA at hle
      obtain ⟨x1, x2⟩ := b1
      obtain ⟨y1, y2⟩ := b2
      grind
    · rw [ek]
      exact ih (k + 1) (by omega) hx1
theorem sl_a {c s N : Nat} {R : gW} (hN : nM R = N) (h3 : 0 ≤ R 3 ∧ R 3 ≤ 20) (hT : bT R) (hF : bF R) (hb : my < 99 → fBest R < 0) (hsu : su = fJa R + 10000) (hR : ρ 324 = R) (hG : ∀ (h : jv_H) (w8 w10 w11 : Option Value), LX B n ρ [] c s h0 h → jE 197 260 [some (.ref B), some (.long o), none, some (.int my), some (.int su), some (.int gr), some (.int hd), some (.int sp), w8, some (.int 1), w10, w11] [] h K) :
    ∀ (e k : Nat), k + e = N → ∀ {h : jv_H} {w11 : Option Value}, LX B n ρ [] c s h0 h → jE 197 170 [some (.ref B), some (.long o), none, some (.int my), some (.int su), some (.int gr), some (.int hd), some (.int sp), some (.int gt), some (.int 1), some (.int (iN k)), w11] [] h K := by
  obtain ⟨e3, l20⟩ := nM_of h3
  rw [hN] at e3 l20
  intro e
  induction e with
  | zero =>
    intro k hk h w11 hx
    refine sl_170 hx ?_
    rw [hR, e3]
    exact ⟨fun _ h1 hx1 => hG h1 _ _ _ hx1, fun z => absurd ((iN_lt (by omega) (by omega)).mp z) (by omega)⟩
  | succ e ih =>
    intro k hk h w11 hx
    refine sl_170 hx ?_
    rw [hR, e3]
    refine ⟨fun z => absurd ((iN_lt (by omega) (by omega)).mpr (by omega)) z, fun _ => ⟨fun _ h1 hx1 => hG h1 _ _ _ hx1, fun z h1 hx1 => ?_⟩⟩
    exact sl_b hN h3 hT hF (hb z) hsu hR (a := k) (by omega) (fun h2 v11 hx2 => ih (k + 1) (by omega) hx2) N 0 (by omega) hx1
theorem lm_settles {c s : Nat} (sp : SP ρ) : LMx 197 [some (.ref B), none, none, none, none, none, none, none, none, none, none, none] B n ρ c s (.int 1) c s := fun h hx => by
  have hi := hx.inf
  have h3 := hi.1.1.1
  have hT := hi.2.2.2.2.2.1
  have hF := hi.2.2.2.2.1
  have h9 := hi.1.1.2
  obtain ⟨e3, l20⟩ := hi.n
  refine sl_0 hx (fun h1 hx1 => ?_)
  rw [aSt_0, aSt_1, aSt_2]
  have l99 : (fSt 99 (ρ 324)).1 ≤ 99 := fSt_n 99 (ρ 324)
  rcases st_inv 99 (ρ 324) h3 hT hF with e | ⟨p0, p1⟩
  · have ng : ¬ gStl (ρ 324) := fun z => z (by rw [e])
    have ea : aStl (ρ 324) = -2 := by
      unfold aStl
      rw [e]
      exact if_pos rfl
    rw [hOp_f ng] at hx1
    rw [e, ea]
    exact sl_44 hx1 ⟨fun z => absurd rfl z, fun _ => ⟨rfl, rfl, rfl, (lg_cmp_eq _ _).mpr rfl, fun h2 hx2 => ⟨rfl, ρ, Sm.rf, hx2⟩⟩⟩
  · have n0 : ¬ (fSt 99 (ρ 324)).1 = 0 := by omega
    have g : gStl (ρ 324) := n0
    have ea : aStl (ρ 324) = iN (fSt 99 (ρ 324)).1 := if_neg n0
    have nz : ¬ iN (fSt 99 (ρ 324)).1 = 0 := iN_eq (b := 0) (by omega) (by decide) n0
    rw [ea]
    obtain ⟨us, u0, u1⟩ := un_op (N := nStl (ρ 324)) hi.1 hi.2.2.1 g
    have eN : hOp ρ (gStl (ρ 324)) (nStl (ρ 324)) 324 = nStl (ρ 324) := hOp_324 g
    have af := agf_stl h3 h9
    have r4 := stl_4 h3 h9 hT hF
    have hi1 := hx1.inf
    obtain ⟨N, hN⟩ : ∃ N, nStl (ρ 324) = N := ⟨_, rfl⟩
    rw [hN] at us u0 u1 eN af r4 hi1 hx1
    have h3N := hi1.1.1.1
    have hTN := hi1.2.2.2.2.2.1
    have hFN := hi1.2.2.2.2.1
    rw [eN] at h3N hTN hFN
    obtain ⟨S, hS⟩ : ∃ S, (fSt 99 (ρ 324)).2 = S := ⟨_, rfl⟩
    obtain ⟨D, hD⟩ : ∃ D, (fSt 99 (ρ 324)).1 = D := ⟨_, rfl⟩
    have eB : D < 99 → fBest N < 0 := fun z => by
      rw [agf_Best af]
      exact st_end 99 (ρ 324) (by rw [hD]; exact z)
    have hlt : fJa (ρ 324) + 10000 < fJa S + 10000 := by
      have bS := st_bT (d := 0) h3 hT hF 99 (ρ 324) h3 hT hF
      have b1 := fJa_b h3 hT hF
      have b2 := fJa_b (by rw [fSt_3]; exact h3) bS.1 bS.2.1
      rw [hS] at b2 p1
      obtain ⟨x1, x2⟩ := b1
      obtain ⟨y1, y2⟩ := b2
      grind
    rw [hS] at af
    rw [hD] at r4 l99 n0 nz
    have eJ : fJa N = fJa S := agf_Ja af
    have eG : fGr N = fGr S := agf_Gr af
    rw [hS, hD]
    obtain ⟨τ, hτ⟩ : ∃ τ, hOp ρ (gStl (ρ 324)) N = τ := ⟨_, rfl⟩
    rw [hτ] at us u0 u1 eN hx1
    have fin : ∀ (h2 : jv_H) (gt : Int32) (w9 w10 w11 : Option Value), LX B n τ [] c s h h2 → jE 197 165 [some (.ref B), some (.long (hsh ρ)), none, some (.int (iN D)), some (.int (fJa S + 10000)), some (.int (fGr S)), some (.int (fJa (ρ 324) + 10000)), some (.int (ρ 324 4)), some (.int gt), w9, w10, w11] [.int 1] h2 (fun r h' => r = some (.int 1) ∧ ∃ τ, Sm ρ τ ∧ LX B n τ [] c s h h') := by
      intro h2 gt w9 w10 w11 hx2
      refine sl_165 hx2 (fun h3' hx3 => ?_)
      refine sl_a (R := N) (N := nM N) rfl h3N hTN hFN (fun z => eB ?_) (by rw [eJ]) eN (fun h4 v8 v10 v11 hx4 => ?_) (nM N) 0 (by omega) hx3
      · exact (iN_lt (m := 99) (by omega) (by decide)).mp z
      · refine sl_260 hx4 ⟨?_, ?_, fun h5 hx5 => ⟨rfl, _, us, hx5⟩⟩
        · rw [if_neg u0]
          exact Int32.not_lt.mpr u1
        · rw [lg_cmp_eq]
          exact hsh_cg us.1
    refine sl_44 hx1 ⟨fun _ => ?_, fun z => absurd z nz⟩
    rw [eN, eJ, eG, r4]
    refine ⟨rfl, rfl, hlt, rfl, rfl, fun z h2 hx2 => fin h2 _ _ _ _ hx2, fun z => ?_⟩
    have lt99 : D < 99 := by
      rcases Nat.lt_or_ge D 99 with v | v
      · exact v
      · exact absurd (show iN D = 99 by rw [show D = 99 by omega]; rfl) z
    have e0 : fSt 99 N = (0, N) := fSt_lt (eB lt99)
    have ng : ¬ gStl N := fun v => v (by rw [e0])
    have ea2 : aStl N = -2 := by
      unfold aStl
      rw [e0]
      exact if_pos rfl
    have ea0 : aSt N 0 = 0 := by
      rw [aSt_0, e0]
      rfl
    refine ⟨ea0, ea2, fun h2 hx2 => ?_⟩
    rw [hOp_f ng] at hx2
    exact fin h2 _ _ _ _ hx2
end SL
