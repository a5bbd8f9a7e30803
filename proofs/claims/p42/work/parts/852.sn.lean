/-! stations(x, w) -/
theorem sn_0 {B n c s : Nat} {ρ : gS} {h0 h : jv_H} {K : jK} {w : Int32} (hx : LX B n ρ [] c s h0 h) (T : (∀ h1, LX B n ρ [] c s h0 h1 → jE 198 19 [some (.ref B), some (.int w), some (.long (hsh ρ)), none, some (.int (1 + (w &&& 15))), some (.int 0), some (.int 0), none, none, none, none, none, none, none] [] h1 K)) : jE 198 0 [some (.ref B), some (.int w), none, none, none, none, none, none, none, none, none, none, none, none] [] h K := by
  refine jx_blk (by decide) [(.aload_n 0, 1)] (pc' := 1) (Lv' := [some (.ref B), some (.int w), none, none, none, none, none, none, none, none, none, none, none, none]) (st' := [.ref B]) (by decide +kernel) rfl ?_
  refine lx_m (z := 192) (na := 1) (mL := 5) (v := .long (hsh ρ)) (r := []) [.ref B] (by decide +kernel) hx (lm_state) rfl rfl (Nat.le_of_ble_eq_true rfl) rfl (fun h1 hx2 => ?_)
  refine jx_blk (by decide) [(.lstore_n 2, 1), (.iconst 1, 1), (.iload_n 1, 1), (.bipush 15, 2), (.iand, 1), (.iadd, 1), (.istore 4, 2), (.iconst 0, 1), (.istore 5, 2), (.iconst 0, 1), (.istore 6, 2)] (pc' := 19) (Lv' := [some (.ref B), some (.int w), some (.long (hsh ρ)), none, some (.int (1 + (w &&& 15))), some (.int 0), some (.int 0), none, none, none, none, none, none, none]) (st' := []) (by decide +kernel) rfl ?_
  exact T _ hx2

theorem sn_19 {B n c s : Nat} {ρ : gS} {h0 h : jv_H} {K : jK} {o : Int64} {w my f t : Int32} {r7 r8 r9 r10 r11 r12 r13 : Option Value} (hx : LX B n ρ [] c s h0 h) (T : ((¬ t < (ρ 324 3) → (∀ h1, LX B n ρ [] c s h0 h1 → jE 198 73 [some (.ref B), some (.int w), some (.long o), none, some (.int my), some (.int f), some (.int t), r7, r8, r9, r10, r11, r12, r13] [] h1 K)) ∧ (t < (ρ 324 3) → ((¬ (ρ 324 2) < (vO (ρ 324) t 8) → (∀ h1, LX B n ρ [] c s h0 h1 → jE 198 19 [some (.ref B), some (.int w), some (.long o), none, some (.int my), some (.int f), some (.int (t + 1)), r7, r8, r9, r10, r11, r12, r13] [] h1 K)) ∧ ((ρ 324 2) < (vO (ρ 324) t 8) → ((((ρ 324 2) + my) < (vO (ρ 324) t 8) → (∀ h1, LX B n ρ [] c s h0 h1 → jE 198 19 [some (.ref B), some (.int w), some (.long o), none, some (.int my), some (.int f), some (.int (t + 1)), r7, r8, r9, r10, r11, r12, r13] [] h1 K)) ∧ (¬ ((ρ 324 2) + my) < (vO (ρ 324) t 8) → (∀ h1, LX B n ρ [] c s h0 h1 → jE 198 19 [some (.ref B), some (.int w), some (.long o), none, some (.int my), some (.int (f + 1)), some (.int (t + 1)), r7, r8, r9, r10, r11, r12, r13] [] h1 K)))))))) : jE 198 19 [some (.ref B), some (.int w), some (.long o), none, some (.int my), some (.int f), some (.int t), r7, r8, r9, r10, r11, r12, r13] [] h K := by
  refine jx_blk (by decide) [(.iload 6, 2), (.aload_n 0, 1), (.iconst 3, 1)] (pc' := 23) (Lv' := [some (.ref B), some (.int w), some (.long o), none, some (.int my), some (.int f), some (.int t), r7, r8, r9, r10, r11, r12, r13]) (st' := [.int 3, .ref B, .int t]) (by decide +kernel) rfl ?_
  refine lx_call (z := 123) (na := 2) (mL := 2) (v := .int (ρ 324 3)) (ρ' := ρ) (r := [.int t]) [3] (by decide +kernel) hx xr_v3 hx.1.1 rfl rfl (fun _ => rfl) (Nat.le_of_ble_eq_true rfl) (fun h1 hx2 => ?_)
  refine jx_ic_ge (off := 47) (b := 73) (by decide) (by decide +kernel) (by decide) (fun e3 => ?_) (fun e3 => ?_)
  · have t4 := T.1 e3
    exact t4 _ hx2
  · have t5 := T.2 e3
    refine jx_blk (by decide) [(.aload_n 0, 1), (.iload 6, 2), (.bipush 8, 2)] (pc' := 34) (Lv' := [some (.ref B), some (.int w), some (.long o), none, some (.int my), some (.int f), some (.int t), r7, r8, r9, r10, r11, r12, r13]) (st' := [.int 8, .int t, .ref B]) (by decide +kernel) rfl ?_
    refine lx_call (z := 124) (na := 3) (mL := 4) (v := .int (vO (ρ 324) t 8)) (ρ' := ρ) (r := []) [8, t] (by decide +kernel) hx2 xr_o8 hx2.1.1 rfl rfl (fun _ => rfl) (Nat.le_of_ble_eq_true rfl) (fun h6 hx7 => ?_)
    refine jx_blk (by decide) [(.aload_n 0, 1), (.iconst 2, 1)] (pc' := 39) (Lv' := [some (.ref B), some (.int w), some (.long o), none, some (.int my), some (.int f), some (.int t), r7, r8, r9, r10, r11, r12, r13]) (st' := [.int 2, .ref B, .int (vO (ρ 324) t 8)]) (by decide +kernel) rfl ?_
    refine lx_call (z := 123) (na := 2) (mL := 2) (v := .int (ρ 324 2)) (ρ' := ρ) (r := [.int (vO (ρ 324) t 8)]) [2] (by decide +kernel) hx7 xr_v2 hx7.1.1 rfl rfl (fun _ => rfl) (Nat.le_of_ble_eq_true rfl) (fun h8 hx9 => ?_)
    refine jx_ic_le (off := 25) (b := 67) (by decide) (by decide +kernel) (by decide) (fun e10 => ?_) (fun e10 => ?_)
    · have t11 := t5.1 e10
      refine jx_blk (by decide) [(.iinc 6 1, 3)] (pc' := 70) (Lv' := [some (.ref B), some (.int w), some (.long o), none, some (.int my), some (.int f), some (.int (t + 1)), r7, r8, r9, r10, r11, r12, r13]) (st' := []) (by decide +kernel) rfl ?_
      refine jx_goto (off := (-51)) (b := 19) (by decide) (by decide +kernel) (by decide) ?_
      exact t11 _ hx9
    · have t12 := t5.2 e10
      refine jx_blk (by decide) [(.aload_n 0, 1), (.iload 6, 2), (.bipush 8, 2)] (pc' := 50) (Lv' := [some (.ref B), some (.int w), some (.long o), none, some (.int my), some (.int f), some (.int t), r7, r8, r9, r10, r11, r12, r13]) (st' := [.int 8, .int t, .ref B]) (by decide +kernel) rfl ?_
      refine lx_call (z := 124) (na := 3) (mL := 4) (v := .int (vO (ρ 324) t 8)) (ρ' := ρ) (r := []) [8, t] (by decide +kernel) hx9 xr_o8 hx9.1.1 rfl rfl (fun _ => rfl) (Nat.le_of_ble_eq_true rfl) (fun h13 hx14 => ?_)
      refine jx_blk (by decide) [(.aload_n 0, 1), (.iconst 2, 1)] (pc' := 55) (Lv' := [some (.ref B), some (.int w), some (.long o), none, some (.int my), some (.int f), some (.int t), r7, r8, r9, r10, r11, r12, r13]) (st' := [.int 2, .ref B, .int (vO (ρ 324) t 8)]) (by decide +kernel) rfl ?_
      refine lx_call (z := 123) (na := 2) (mL := 2) (v := .int (ρ 324 2)) (ρ' := ρ) (r := [.int (vO (ρ 324) t 8)]) [2] (by decide +kernel) hx14 xr_v2 hx14.1.1 rfl rfl (fun _ => rfl) (Nat.le_of_ble_eq_true rfl) (fun h15 hx16 => ?_)
      refine jx_blk (by decide) [(.iload 4, 2), (.iadd, 1)] (pc' := 61) (Lv' := [some (.ref B), some (.int w), some (.long o), none, some (.int my), some (.int f), some (.int t), r7, r8, r9, r10, r11, r12, r13]) (st' := [.int ((ρ 324 2) + my), .int (vO (ρ 324) t 8)]) (by decide +kernel) rfl ?_
      refine jx_ic_gt (off := 6) (b := 67) (by decide) (by decide +kernel) (by decide) (fun e17 => ?_) (fun e17 => ?_)
      · have t18 := t12.1 e17
        refine jx_blk (by decide) [(.iinc 6 1, 3)] (pc' := 70) (Lv' := [some (.ref B), some (.int w), some (.long o), none, some (.int my), some (.int f), some (.int (t + 1)), r7, r8, r9, r10, r11, r12, r13]) (st' := []) (by decide +kernel) rfl ?_
        refine jx_goto (off := (-51)) (b := 19) (by decide) (by decide +kernel) (by decide) ?_
        exact t18 _ hx16
      · have t19 := t12.2 e17
        refine jx_blk (by decide) [(.iinc 5 1, 3), (.iinc 6 1, 3)] (pc' := 70) (Lv' := [some (.ref B), some (.int w), some (.long o), none, some (.int my), some (.int (f + 1)), some (.int (t + 1)), r7, r8, r9, r10, r11, r12, r13]) (st' := []) (by decide +kernel) rfl ?_
        refine jx_goto (off := (-51)) (b := 19) (by decide) (by decide +kernel) (by decide) ?_
        exact t19 _ hx16

theorem sn_73 {B n c s : Nat} {ρ : gS} {h0 h : jv_H} {K : jK} {o : Int64} {w my f : Int32} {r6 r7 r8 r9 r10 r11 r12 r13 : Option Value} (hx : LX B n ρ [] c s h0 h) (T : (∀ h1, LX B n (hOp ρ (gSta (ρ 324) my) (stm my.toNatClampNeg (ρ 324))) [] c s h0 h1 → jE 198 101 [some (.ref B), some (.int w), some (.long o), none, some (.int my), some (.int f), some (.int (ρ 324 3)), some (.int (ρ 324 8)), some (.int (ρ 324 2)), r9, r10, r11, r12, r13] [.int (aSta (ρ 324) my)] h1 K)) : jE 198 73 [some (.ref B), some (.int w), some (.long o), none, some (.int my), some (.int f), r6, r7, r8, r9, r10, r11, r12, r13] [] h K := by
  refine jx_blk (by decide) [(.aload_n 0, 1), (.iconst 3, 1)] (pc' := 75) (Lv' := [some (.ref B), some (.int w), some (.long o), none, some (.int my), some (.int f), r6, r7, r8, r9, r10, r11, r12, r13]) (st' := [.int 3, .ref B]) (by decide +kernel) rfl ?_
  refine lx_call (z := 123) (na := 2) (mL := 2) (v := .int (ρ 324 3)) (ρ' := ρ) (r := []) [3] (by decide +kernel) hx xr_v3 hx.1.1 rfl rfl (fun _ => rfl) (Nat.le_of_ble_eq_true rfl) (fun h1 hx2 => ?_)
  refine jx_blk (by decide) [(.istore 6, 2), (.aload_n 0, 1), (.bipush 12, 2)] (pc' := 83) (Lv' := [some (.ref B), some (.int w), some (.long o), none, some (.int my), some (.int f), some (.int (ρ 324 3)), r7, r8, r9, r10, r11, r12, r13]) (st' := [.int 12, .ref B]) (by decide +kernel) rfl ?_
  refine lx_call (z := 123) (na := 2) (mL := 2) (v := .int (ρ 324 8)) (ρ' := ρ) (r := []) [12] (by decide +kernel) hx2 xr_v12 hx2.1.1 rfl rfl (fun _ => rfl) (Nat.le_of_ble_eq_true rfl) (fun h3 hx4 => ?_)
  refine jx_blk (by decide) [(.istore 7, 2), (.aload_n 0, 1), (.iconst 2, 1)] (pc' := 90) (Lv' := [some (.ref B), some (.int w), some (.long o), none, some (.int my), some (.int f), some (.int (ρ 324 3)), some (.int (ρ 324 8)), r8, r9, r10, r11, r12, r13]) (st' := [.int 2, .ref B]) (by decide +kernel) rfl ?_
  refine lx_call (z := 123) (na := 2) (mL := 2) (v := .int (ρ 324 2)) (ρ' := ρ) (r := []) [2] (by decide +kernel) hx4 xr_v2 hx4.1.1 rfl rfl (fun _ => rfl) (Nat.le_of_ble_eq_true rfl) (fun h5 hx6 => ?_)
  refine jx_blk (by decide) [(.istore 8, 2), (.aload_n 0, 1), (.iload 4, 2)] (pc' := 98) (Lv' := [some (.ref B), some (.int w), some (.long o), none, some (.int my), some (.int f), some (.int (ρ 324 3)), some (.int (ρ 324 8)), some (.int (ρ 324 2)), r9, r10, r11, r12, r13]) (st' := [.int my, .ref B]) (by decide +kernel) rfl ?_
  refine lx_call (z := 119) (na := 2) (mL := 4) (v := .int (aSta (ρ 324) my)) (ρ' := (hOp ρ (gSta (ρ 324) my) (stm my.toNatClampNeg (ρ 324)))) (r := []) [my] (by decide +kernel) hx6 xr_station hx6.1.1 rfl rfl (fun _ => rfl) (Nat.le_of_ble_eq_true rfl) (fun h7 hx8 => ?_)
  exact T _ hx8

theorem sn_101 {B n c s : Nat} {ρ : gS} {h0 h : jv_H} {K : jK} {o : Int64} {w my f m hd ti got : Int32} {r9 r10 r11 r12 r13 : Option Value} (hx : LX B n ρ [] c s h0 h) (T : (got = f ∧ ((ρ 324 3) = (m - f) ∧ ((ρ 324 8) = (hd + f) ∧ ((ρ 324 2) = (ti + my) ∧ (∀ h1, LX B n ρ [] c s h0 h1 → jE 198 156 [some (.ref B), some (.int w), some (.long o), none, some (.int my), some (.int f), some (.int m), some (.int hd), some (.int ti), some (.int 1), some (.int 0), r11, r12, r13] [] h1 K)))))) : jE 198 101 [some (.ref B), some (.int w), some (.long o), none, some (.int my), some (.int f), some (.int m), some (.int hd), some (.int ti), r9, r10, r11, r12, r13] [.int got] h K := by
  refine jx_blk (by decide) [(.iload 5, 2)] (pc' := 103) (Lv' := [some (.ref B), some (.int w), some (.long o), none, some (.int my), some (.int f), some (.int m), some (.int hd), some (.int ti), r9, r10, r11, r12, r13]) (st' := [.int f, .int got]) (by decide +kernel) rfl ?_
  refine jx_ic_ne (off := 47) (b := 150) (by decide) (by decide +kernel) (by decide) (fun e => absurd T.1 e) (fun _ => ?_)
  have t2 := T.2
  refine jx_blk (by decide) [(.aload_n 0, 1), (.iconst 3, 1)] (pc' := 108) (Lv' := [some (.ref B), some (.int w), some (.long o), none, some (.int my), some (.int f), some (.int m), some (.int hd), some (.int ti), r9, r10, r11, r12, r13]) (st' := [.int 3, .ref B]) (by decide +kernel) rfl ?_
  refine lx_call (z := 123) (na := 2) (mL := 2) (v := .int (ρ 324 3)) (ρ' := ρ) (r := []) [3] (by decide +kernel) hx xr_v3 hx.1.1 rfl rfl (fun _ => rfl) (Nat.le_of_ble_eq_true rfl) (fun h3 hx4 => ?_)
  refine jx_blk (by decide) [(.iload 6, 2), (.iload 5, 2), (.isub, 1)] (pc' := 116) (Lv' := [some (.ref B), some (.int w), some (.long o), none, some (.int my), some (.int f), some (.int m), some (.int hd), some (.int ti), r9, r10, r11, r12, r13]) (st' := [.int (m - f), .int (ρ 324 3)]) (by decide +kernel) rfl ?_
  refine jx_ic_ne (off := 34) (b := 150) (by decide) (by decide +kernel) (by decide) (fun e => absurd t2.1 e) (fun _ => ?_)
  have t6 := t2.2
  refine jx_blk (by decide) [(.aload_n 0, 1), (.bipush 12, 2)] (pc' := 122) (Lv' := [some (.ref B), some (.int w), some (.long o), none, some (.int my), some (.int f), some (.int m), some (.int hd), some (.int ti), r9, r10, r11, r12, r13]) (st' := [.int 12, .ref B]) (by decide +kernel) rfl ?_
  refine lx_call (z := 123) (na := 2) (mL := 2) (v := .int (ρ 324 8)) (ρ' := ρ) (r := []) [12] (by decide +kernel) hx4 xr_v12 hx4.1.1 rfl rfl (fun _ => rfl) (Nat.le_of_ble_eq_true rfl) (fun h7 hx8 => ?_)
  refine jx_blk (by decide) [(.iload 7, 2), (.iload 5, 2), (.iadd, 1)] (pc' := 130) (Lv' := [some (.ref B), some (.int w), some (.long o), none, some (.int my), some (.int f), some (.int m), some (.int hd), some (.int ti), r9, r10, r11, r12, r13]) (st' := [.int (hd + f), .int (ρ 324 8)]) (by decide +kernel) rfl ?_
  refine jx_ic_ne (off := 20) (b := 150) (by decide) (by decide +kernel) (by decide) (fun e => absurd t6.1 e) (fun _ => ?_)
  have t10 := t6.2
  refine jx_blk (by decide) [(.aload_n 0, 1), (.iconst 2, 1)] (pc' := 135) (Lv' := [some (.ref B), some (.int w), some (.long o), none, some (.int my), some (.int f), some (.int m), some (.int hd), some (.int ti), r9, r10, r11, r12, r13]) (st' := [.int 2, .ref B]) (by decide +kernel) rfl ?_
  refine lx_call (z := 123) (na := 2) (mL := 2) (v := .int (ρ 324 2)) (ρ' := ρ) (r := []) [2] (by decide +kernel) hx8 xr_v2 hx8.1.1 rfl rfl (fun _ => rfl) (Nat.le_of_ble_eq_true rfl) (fun h11 hx12 => ?_)
  refine jx_blk (by decide) [(.iload 8, 2), (.iload 4, 2), (.iadd, 1)] (pc' := 143) (Lv' := [some (.ref B), some (.int w), some (.long o), none, some (.int my), some (.int f), some (.int m), some (.int hd), some (.int ti), r9, r10, r11, r12, r13]) (st' := [.int (ti + my), .int (ρ 324 2)]) (by decide +kernel) rfl ?_
  refine jx_ic_ne (off := 7) (b := 150) (by decide) (by decide +kernel) (by decide) (fun e => absurd t10.1 e) (fun _ => ?_)
  have t14 := t10.2
  refine jx_blk (by decide) [(.iconst 1, 1)] (pc' := 147) (Lv' := [some (.ref B), some (.int w), some (.long o), none, some (.int my), some (.int f), some (.int m), some (.int hd), some (.int ti), r9, r10, r11, r12, r13]) (st' := [.int 1]) (by decide +kernel) rfl ?_
  refine jx_goto (off := 4) (b := 151) (by decide) (by decide +kernel) (by decide) ?_
  refine jx_blk (by decide) [(.istore 9, 2), (.iconst 0, 1), (.istore 10, 2)] (pc' := 156) (Lv' := [some (.ref B), some (.int w), some (.long o), none, some (.int my), some (.int f), some (.int m), some (.int hd), some (.int ti), some (.int 1), some (.int 0), r11, r12, r13]) (st' := []) (by decide +kernel) rfl ?_
  exact t14 _ hx12

theorem sn_156 {B n c s : Nat} {ρ : gS} {h0 h : jv_H} {K : jK} {o : Int64} {w my f m hd ti t : Int32} {r11 r12 r13 : Option Value} (hx : LX B n ρ [] c s h0 h) (T : ((¬ t < (ρ 324 3) → (¬ (if ρ 323 6 = 0 then -1 else ρ 323 6 - 1) < 0 ∧ (∀ h1, LX B n (hUn ρ) [] c s h0 h1 → jE 198 235 [some (.ref B), some (.int w), some (.long o), none, some (.int my), some (.int f), some (.int m), some (.int hd), some (.int ti), some (.int 1), some (.int 0), r11, r12, r13] [] h1 K))) ∧ (t < (ρ 324 3) → ((¬ ti < (vO (ρ 324) t 8) → (∀ h1, LX B n ρ [] c s h0 h1 → jE 198 156 [some (.ref B), some (.int w), some (.long o), none, some (.int my), some (.int f), some (.int m), some (.int hd), some (.int ti), some (.int 1), some (.int (t + 1)), r11, r12, r13] [] h1 K)) ∧ (ti < (vO (ρ 324) t 8) → ((ti + my) < (vO (ρ 324) t 8) ∧ (∀ h1, LX B n ρ [] c s h0 h1 → jE 198 156 [some (.ref B), some (.int w), some (.long o), none, some (.int my), some (.int f), some (.int m), some (.int hd), some (.int ti), some (.int 1), some (.int (t + 1)), r11, r12, r13] [] h1 K))))))) : jE 198 156 [some (.ref B), some (.int w), some (.long o), none, some (.int my), some (.int f), some (.int m), some (.int hd), some (.int ti), some (.int 1), some (.int t), r11, r12, r13] [] h K := by
  refine jx_blk (by decide) [(.iload 10, 2), (.aload_n 0, 1), (.iconst 3, 1)] (pc' := 160) (Lv' := [some (.ref B), some (.int w), some (.long o), none, some (.int my), some (.int f), some (.int m), some (.int hd), some (.int ti), some (.int 1), some (.int t), r11, r12, r13]) (st' := [.int 3, .ref B, .int t]) (by decide +kernel) rfl ?_
  refine lx_call (z := 123) (na := 2) (mL := 2) (v := .int (ρ 324 3)) (ρ' := ρ) (r := [.int t]) [3] (by decide +kernel) hx xr_v3 hx.1.1 rfl rfl (fun _ => rfl) (Nat.le_of_ble_eq_true rfl) (fun h1 hx2 => ?_)
  refine jx_ic_ge (off := 50) (b := 213) (by decide) (by decide +kernel) (by decide) (fun e3 => ?_) (fun e3 => ?_)
  · have t4 := T.1 e3
    refine jx_blk (by decide) [(.iload 9, 2)] (pc' := 215) (Lv' := [some (.ref B), some (.int w), some (.long o), none, some (.int my), some (.int f), some (.int m), some (.int hd), some (.int ti), some (.int 1), some (.int t), r11, r12, r13]) (st' := [.int 1]) (by decide +kernel) rfl ?_
    refine jx_if_eq (off := 14) (b := 229) (by decide) (by decide +kernel) (by decide) (fun e => absurd e (by decide)) (fun _ => ?_)
    refine jx_blk (by decide) [(.aload_n 0, 1)] (pc' := 219) (Lv' := [some (.ref B), some (.int w), some (.long o), none, some (.int my), some (.int f), some (.int m), some (.int hd), some (.int ti), some (.int 1), some (.int t), r11, r12, r13]) (st' := [.ref B]) (by decide +kernel) rfl ?_
    refine lx_call (z := 122) (na := 1) (mL := 1) (v := .int (if ρ 323 6 = 0 then -1 else ρ 323 6 - 1)) (ρ' := (hUn ρ)) (r := []) [] (by decide +kernel) hx2 xr_undo hx2.1.1 rfl rfl (fun _ => rfl) (Nat.le_of_ble_eq_true rfl) (fun h6 hx7 => ?_)
    refine jx_if_lt (off := 7) (b := 229) (by decide) (by decide +kernel) (by decide) (fun e => absurd e t4.1) (fun _ => ?_)
    have t9 := t4.2
    refine jx_blk (by decide) [(.iconst 1, 1)] (pc' := 226) (Lv' := [some (.ref B), some (.int w), some (.long o), none, some (.int my), some (.int f), some (.int m), some (.int hd), some (.int ti), some (.int 1), some (.int t), r11, r12, r13]) (st' := [.int 1]) (by decide +kernel) rfl ?_
    refine jx_goto (off := 4) (b := 230) (by decide) (by decide +kernel) (by decide) ?_
    refine jx_blk (by decide) [(.istore 9, 2), (.iconst 0, 1), (.istore 10, 2)] (pc' := 235) (Lv' := [some (.ref B), some (.int w), some (.long o), none, some (.int my), some (.int f), some (.int m), some (.int hd), some (.int ti), some (.int 1), some (.int 0), r11, r12, r13]) (st' := []) (by decide +kernel) rfl ?_
    exact t9 _ hx7
  · have t5 := T.2 e3
    refine jx_blk (by decide) [(.iload 9, 2)] (pc' := 168) (Lv' := [some (.ref B), some (.int w), some (.long o), none, some (.int my), some (.int f), some (.int m), some (.int hd), some (.int ti), some (.int 1), some (.int t), r11, r12, r13]) (st' := [.int 1]) (by decide +kernel) rfl ?_
    refine jx_if_eq (off := 36) (b := 204) (by decide) (by decide +kernel) (by decide) (fun e => absurd e (by decide)) (fun _ => ?_)
    refine jx_blk (by decide) [(.aload_n 0, 1), (.iload 10, 2), (.bipush 8, 2)] (pc' := 176) (Lv' := [some (.ref B), some (.int w), some (.long o), none, some (.int my), some (.int f), some (.int m), some (.int hd), some (.int ti), some (.int 1), some (.int t), r11, r12, r13]) (st' := [.int 8, .int t, .ref B]) (by decide +kernel) rfl ?_
    refine lx_call (z := 124) (na := 3) (mL := 4) (v := .int (vO (ρ 324) t 8)) (ρ' := ρ) (r := []) [8, t] (by decide +kernel) hx2 xr_o8 hx2.1.1 rfl rfl (fun _ => rfl) (Nat.le_of_ble_eq_true rfl) (fun h10 hx11 => ?_)
    refine jx_blk (by decide) [(.iload 8, 2)] (pc' := 181) (Lv' := [some (.ref B), some (.int w), some (.long o), none, some (.int my), some (.int f), some (.int m), some (.int hd), some (.int ti), some (.int 1), some (.int t), r11, r12, r13]) (st' := [.int ti, .int (vO (ρ 324) t 8)]) (by decide +kernel) rfl ?_
    refine jx_ic_le (off := 19) (b := 200) (by decide) (by decide +kernel) (by decide) (fun e12 => ?_) (fun e12 => ?_)
    · have t13 := t5.1 e12
      refine jx_blk (by decide) [(.iconst 1, 1)] (pc' := 201) (Lv' := [some (.ref B), some (.int w), some (.long o), none, some (.int my), some (.int f), some (.int m), some (.int hd), some (.int ti), some (.int 1), some (.int t), r11, r12, r13]) (st' := [.int 1]) (by decide +kernel) rfl ?_
      refine jx_goto (off := 4) (b := 205) (by decide) (by decide +kernel) (by decide) ?_
      refine jx_blk (by decide) [(.istore 9, 2), (.iinc 10 1, 3)] (pc' := 210) (Lv' := [some (.ref B), some (.int w), some (.long o), none, some (.int my), some (.int f), some (.int m), some (.int hd), some (.int ti), some (.int 1), some (.int (t + 1)), r11, r12, r13]) (st' := []) (by decide +kernel) rfl ?_
      refine jx_goto (off := (-54)) (b := 156) (by decide) (by decide +kernel) (by decide) ?_
      exact t13 _ hx11
    · have t14 := t5.2 e12
      refine jx_blk (by decide) [(.aload_n 0, 1), (.iload 10, 2), (.bipush 8, 2)] (pc' := 189) (Lv' := [some (.ref B), some (.int w), some (.long o), none, some (.int my), some (.int f), some (.int m), some (.int hd), some (.int ti), some (.int 1), some (.int t), r11, r12, r13]) (st' := [.int 8, .int t, .ref B]) (by decide +kernel) rfl ?_
      refine lx_call (z := 124) (na := 3) (mL := 4) (v := .int (vO (ρ 324) t 8)) (ρ' := ρ) (r := []) [8, t] (by decide +kernel) hx11 xr_o8 hx11.1.1 rfl rfl (fun _ => rfl) (Nat.le_of_ble_eq_true rfl) (fun h15 hx16 => ?_)
      refine jx_blk (by decide) [(.iload 8, 2), (.iload 4, 2), (.iadd, 1)] (pc' := 197) (Lv' := [some (.ref B), some (.int w), some (.long o), none, some (.int my), some (.int f), some (.int m), some (.int hd), some (.int ti), some (.int 1), some (.int t), r11, r12, r13]) (st' := [.int (ti + my), .int (vO (ρ 324) t 8)]) (by decide +kernel) rfl ?_
      refine jx_ic_le (off := 7) (b := 204) (by decide) (by decide +kernel) (by decide) (fun e => absurd t14.1 e) (fun _ => ?_)
      have t18 := t14.2
      refine jx_blk (by decide) [(.iconst 1, 1)] (pc' := 201) (Lv' := [some (.ref B), some (.int w), some (.long o), none, some (.int my), some (.int f), some (.int m), some (.int hd), some (.int ti), some (.int 1), some (.int t), r11, r12, r13]) (st' := [.int 1]) (by decide +kernel) rfl ?_
      refine jx_goto (off := 4) (b := 205) (by decide) (by decide +kernel) (by decide) ?_
      refine jx_blk (by decide) [(.istore 9, 2), (.iinc 10 1, 3)] (pc' := 210) (Lv' := [some (.ref B), some (.int w), some (.long o), none, some (.int my), some (.int f), some (.int m), some (.int hd), some (.int ti), some (.int 1), some (.int (t + 1)), r11, r12, r13]) (st' := []) (by decide +kernel) rfl ?_
      refine jx_goto (off := (-54)) (b := 156) (by decide) (by decide +kernel) (by decide) ?_
      exact t18 _ hx16

theorem sn_235 {B n c s : Nat} {ρ : gS} {h0 h : jv_H} {K : jK} {o : Int64} {w my f m hd ti q : Int32} {r11 r12 r13 : Option Value} (hx : LX B n ρ [] c s h0 h) (T : (((ρ 324 0) < q → ((lg_cmp (hsh ρ) o) = 0 ∧ (∀ h1, LX B n ρ [] c s h0 h1 → K (some (.int 1)) h1))) ∧ (¬ (ρ 324 0) < q → (∀ h1, LX B n ρ [] c s h0 h1 → jE 198 256 [some (.ref B), some (.int w), some (.long o), none, some (.int my), some (.int f), some (.int m), some (.int hd), some (.int ti), some (.int 1), some (.int q), some (.int 0), some (.int 0), r13] [] h1 K)))) : jE 198 235 [some (.ref B), some (.int w), some (.long o), none, some (.int my), some (.int f), some (.int m), some (.int hd), some (.int ti), some (.int 1), some (.int q), r11, r12, r13] [] h K := by
  refine jx_blk (by decide) [(.iload 10, 2), (.aload_n 0, 1), (.iconst 0, 1)] (pc' := 239) (Lv' := [some (.ref B), some (.int w), some (.long o), none, some (.int my), some (.int f), some (.int m), some (.int hd), some (.int ti), some (.int 1), some (.int q), r11, r12, r13]) (st' := [.int 0, .ref B, .int q]) (by decide +kernel) rfl ?_
  refine lx_call (z := 123) (na := 2) (mL := 2) (v := .int (ρ 324 0)) (ρ' := ρ) (r := [.int q]) [0] (by decide +kernel) hx xr_v0 hx.1.1 rfl rfl (fun _ => rfl) (Nat.le_of_ble_eq_true rfl) (fun h1 hx2 => ?_)
  refine jx_ic_gt (off := 134) (b := 376) (by decide) (by decide +kernel) (by decide) (fun e3 => ?_) (fun e3 => ?_)
  · have t4 := T.1 e3
    refine jx_blk (by decide) [(.iload 9, 2)] (pc' := 378) (Lv' := [some (.ref B), some (.int w), some (.long o), none, some (.int my), some (.int f), some (.int m), some (.int hd), some (.int ti), some (.int 1), some (.int q), r11, r12, r13]) (st' := [.int 1]) (by decide +kernel) rfl ?_
    refine jx_if_eq (off := 16) (b := 394) (by decide) (by decide +kernel) (by decide) (fun e => absurd e (by decide)) (fun _ => ?_)
    refine jx_blk (by decide) [(.aload_n 0, 1)] (pc' := 382) (Lv' := [some (.ref B), some (.int w), some (.long o), none, some (.int my), some (.int f), some (.int m), some (.int hd), some (.int ti), some (.int 1), some (.int q), r11, r12, r13]) (st' := [.ref B]) (by decide +kernel) rfl ?_
    refine lx_m (z := 192) (na := 1) (mL := 5) (v := .long (hsh ρ)) (r := []) [.ref B] (by decide +kernel) hx2 (lm_state) rfl rfl (Nat.le_of_ble_eq_true rfl) rfl (fun h6 hx7 => ?_)
    refine jx_blk (by decide) [(.lload_n 2, 1), (.lcmp, 1)] (pc' := 387) (Lv' := [some (.ref B), some (.int w), some (.long o), none, some (.int my), some (.int f), some (.int m), some (.int hd), some (.int ti), some (.int 1), some (.int q), r11, r12, r13]) (st' := [.int (lg_cmp (hsh ρ) o)]) (by decide +kernel) rfl ?_
    refine jx_if_ne (off := 7) (b := 394) (by decide) (by decide +kernel) (by decide) (fun e => absurd t4.1 e) (fun _ => ?_)
    have t9 := t4.2
    refine jx_blk (by decide) [(.iconst 1, 1)] (pc' := 391) (Lv' := [some (.ref B), some (.int w), some (.long o), none, some (.int my), some (.int f), some (.int m), some (.int hd), some (.int ti), some (.int 1), some (.int q), r11, r12, r13]) (st' := [.int 1]) (by decide +kernel) rfl ?_
    refine jx_goto (off := 4) (b := 395) (by decide) (by decide +kernel) (by decide) ?_
    exact jx_zret (by decide) (by decide +kernel) (by decide +kernel) (Or.inr rfl) (t9 _ hx7)
  · have t5 := T.2 e3
    refine jx_blk (by decide) [(.iload 9, 2)] (pc' := 247) (Lv' := [some (.ref B), some (.int w), some (.long o), none, some (.int my), some (.int f), some (.int m), some (.int hd), some (.int ti), some (.int 1), some (.int q), r11, r12, r13]) (st' := [.int 1]) (by decide +kernel) rfl ?_
    refine jx_if_eq (off := 129) (b := 376) (by decide) (by decide +kernel) (by decide) (fun e => absurd e (by decide)) (fun _ => ?_)
    refine jx_blk (by decide) [(.iconst 0, 1), (.istore 11, 2), (.iconst 0, 1), (.istore 12, 2)] (pc' := 256) (Lv' := [some (.ref B), some (.int w), some (.long o), none, some (.int my), some (.int f), some (.int m), some (.int hd), some (.int ti), some (.int 1), some (.int q), some (.int 0), some (.int 0), r13]) (st' := []) (by decide +kernel) rfl ?_
    exact t5 _ hx2

theorem sn_256 {B n c s : Nat} {ρ : gS} {h0 h : jv_H} {K : jK} {o : Int64} {w my f m hd ti q br t : Int32} {r13 : Option Value} (hx : LX B n ρ [] c s h0 h) (T : ((¬ t < m → (∀ h1, LX B n ρ [] c s h0 h1 → jE 198 296 [some (.ref B), some (.int w), some (.long o), none, some (.int my), some (.int f), some (.int m), some (.int hd), some (.int ti), some (.int 1), some (.int q), some (.int br), some (.int t), r13] [] h1 K)) ∧ (t < m → ((¬ (vO (ρ 324) t 1) = 0 → (∀ h1, LX B n ρ [] c s h0 h1 → jE 198 256 [some (.ref B), some (.int w), some (.long o), none, some (.int my), some (.int f), some (.int m), some (.int hd), some (.int ti), some (.int 1), some (.int q), some (.int br), some (.int (t + 1)), r13] [] h1 K)) ∧ ((vO (ρ 324) t 1) = 0 → ((¬ ((vO (ρ 324) t 0) / 4) < q → (∀ h1, LX B n ρ [] c s h0 h1 → jE 198 256 [some (.ref B), some (.int w), some (.long o), none, some (.int my), some (.int f), some (.int m), some (.int hd), some (.int ti), some (.int 1), some (.int q), some (.int br), some (.int (t + 1)), r13] [] h1 K)) ∧ (((vO (ρ 324) t 0) / 4) < q → (∀ h1, LX B n ρ [] c s h0 h1 → jE 198 256 [some (.ref B), some (.int w), some (.long o), none, some (.int my), some (.int f), some (.int m), some (.int hd), some (.int ti), some (.int 1), some (.int q), some (.int (br + 1)), some (.int (t + 1)), r13] [] h1 K)))))))) : jE 198 256 [some (.ref B), some (.int w), some (.long o), none, some (.int my), some (.int f), some (.int m), some (.int hd), some (.int ti), some (.int 1), some (.int q), some (.int br), some (.int t), r13] [] h K := by
  refine jx_blk (by decide) [(.iload 12, 2), (.iload 6, 2)] (pc' := 260) (Lv' := [some (.ref B), some (.int w), some (.long o), none, some (.int my), some (.int f), some (.int m), some (.int hd), some (.int ti), some (.int 1), some (.int q), some (.int br), some (.int t), r13]) (st' := [.int m, .int t]) (by decide +kernel) rfl ?_
  refine jx_ic_ge (off := 36) (b := 296) (by decide) (by decide +kernel) (by decide) (fun e1 => ?_) (fun e1 => ?_)
  · have t2 := T.1 e1
    exact t2 _ hx
  · have t3 := T.2 e1
    refine jx_blk (by decide) [(.aload_n 0, 1), (.iload 12, 2), (.iconst 1, 1)] (pc' := 267) (Lv' := [some (.ref B), some (.int w), some (.long o), none, some (.int my), some (.int f), some (.int m), some (.int hd), some (.int ti), some (.int 1), some (.int q), some (.int br), some (.int t), r13]) (st' := [.int 1, .int t, .ref B]) (by decide +kernel) rfl ?_
    refine lx_call (z := 124) (na := 3) (mL := 4) (v := .int (vO (ρ 324) t 1)) (ρ' := ρ) (r := []) [1, t] (by decide +kernel) hx xr_o1 hx.1.1 rfl rfl (fun _ => rfl) (Nat.le_of_ble_eq_true rfl) (fun h4 hx5 => ?_)
    refine jx_if_ne (off := 20) (b := 290) (by decide) (by decide +kernel) (by decide) (fun e6 => ?_) (fun e6 => ?_)
    · have t7 := t3.1 e6
      refine jx_blk (by decide) [(.iinc 12 1, 3)] (pc' := 293) (Lv' := [some (.ref B), some (.int w), some (.long o), none, some (.int my), some (.int f), some (.int m), some (.int hd), some (.int ti), some (.int 1), some (.int q), some (.int br), some (.int (t + 1)), r13]) (st' := []) (by decide +kernel) rfl ?_
      refine jx_goto (off := (-37)) (b := 256) (by decide) (by decide +kernel) (by decide) ?_
      exact t7 _ hx5
    · have t8 := t3.2 e6
      refine jx_blk (by decide) [(.aload_n 0, 1), (.iload 12, 2), (.iconst 0, 1)] (pc' := 277) (Lv' := [some (.ref B), some (.int w), some (.long o), none, some (.int my), some (.int f), some (.int m), some (.int hd), some (.int ti), some (.int 1), some (.int q), some (.int br), some (.int t), r13]) (st' := [.int 0, .int t, .ref B]) (by decide +kernel) rfl ?_
      refine lx_call (z := 124) (na := 3) (mL := 4) (v := .int (vO (ρ 324) t 0)) (ρ' := ρ) (r := []) [0, t] (by decide +kernel) hx5 xr_o0 hx5.1.1 rfl rfl (fun _ => rfl) (Nat.le_of_ble_eq_true rfl) (fun h9 hx10 => ?_)
      refine jx_blk (by decide) [(.iconst 4, 1), (.idiv, 1), (.iload 10, 2)] (pc' := 284) (Lv' := [some (.ref B), some (.int w), some (.long o), none, some (.int my), some (.int f), some (.int m), some (.int hd), some (.int ti), some (.int 1), some (.int q), some (.int br), some (.int t), r13]) (st' := [.int q, .int ((vO (ρ 324) t 0) / 4)]) (by decide +kernel) rfl ?_
      refine jx_ic_ge (off := 6) (b := 290) (by decide) (by decide +kernel) (by decide) (fun e11 => ?_) (fun e11 => ?_)
      · have t12 := t8.1 e11
        refine jx_blk (by decide) [(.iinc 12 1, 3)] (pc' := 293) (Lv' := [some (.ref B), some (.int w), some (.long o), none, some (.int my), some (.int f), some (.int m), some (.int hd), some (.int ti), some (.int 1), some (.int q), some (.int br), some (.int (t + 1)), r13]) (st' := []) (by decide +kernel) rfl ?_
        refine jx_goto (off := (-37)) (b := 256) (by decide) (by decide +kernel) (by decide) ?_
        exact t12 _ hx10
      · have t13 := t8.2 e11
        refine jx_blk (by decide) [(.iinc 11 1, 3), (.iinc 12 1, 3)] (pc' := 293) (Lv' := [some (.ref B), some (.int w), some (.long o), none, some (.int my), some (.int f), some (.int m), some (.int hd), some (.int ti), some (.int 1), some (.int q), some (.int (br + 1)), some (.int (t + 1)), r13]) (st' := []) (by decide +kernel) rfl ?_
        refine jx_goto (off := (-37)) (b := 256) (by decide) (by decide +kernel) (by decide) ?_
        exact t13 _ hx10

theorem sn_296 {B n c s : Nat} {ρ : gS} {h0 h : jv_H} {K : jK} {o : Int64} {w my f m hd ti q br : Int32} {r12 r13 : Option Value} (hx : LX B n ρ [] c s h0 h) (T : (∀ h1, LX B n (hOp ρ (gFir (ρ 324) q) (nFir (ρ 324) q)) [] c s h0 h1 → jE 198 309 [some (.ref B), some (.int w), some (.long o), none, some (.int my), some (.int f), some (.int m), some (.int hd), some (.int ti), some (.int 1), some (.int q), some (.int br), some (.int (ρ 324 1)), r13] [.int (aFir (ρ 324) q)] h1 K)) : jE 198 296 [some (.ref B), some (.int w), some (.long o), none, some (.int my), some (.int f), some (.int m), some (.int hd), some (.int ti), some (.int 1), some (.int q), some (.int br), r12, r13] [] h K := by
  refine jx_blk (by decide) [(.aload_n 0, 1), (.iconst 1, 1)] (pc' := 298) (Lv' := [some (.ref B), some (.int w), some (.long o), none, some (.int my), some (.int f), some (.int m), some (.int hd), some (.int ti), some (.int 1), some (.int q), some (.int br), r12, r13]) (st' := [.int 1, .ref B]) (by decide +kernel) rfl ?_
  refine lx_call (z := 123) (na := 2) (mL := 2) (v := .int (ρ 324 1)) (ρ' := ρ) (r := []) [1] (by decide +kernel) hx xr_v1 hx.1.1 rfl rfl (fun _ => rfl) (Nat.le_of_ble_eq_true rfl) (fun h1 hx2 => ?_)
  refine jx_blk (by decide) [(.istore 12, 2), (.aload_n 0, 1), (.iload 10, 2)] (pc' := 306) (Lv' := [some (.ref B), some (.int w), some (.long o), none, some (.int my), some (.int f), some (.int m), some (.int hd), some (.int ti), some (.int 1), some (.int q), some (.int br), some (.int (ρ 324 1)), r13]) (st' := [.int q, .ref B]) (by decide +kernel) rfl ?_
  refine lx_call (z := 114) (na := 2) (mL := 3) (v := .int (aFir (ρ 324) q)) (ρ' := (hOp ρ (gFir (ρ 324) q) (nFir (ρ 324) q))) (r := []) [q] (by decide +kernel) hx2 xr_first hx2.1.1 rfl rfl (fun _ => rfl) (Nat.le_of_ble_eq_true rfl) (fun h3 hx4 => ?_)
  exact T _ hx4

theorem sn_309 {B n c s : Nat} {ρ : gS} {h0 h : jv_H} {K : jK} {o : Int64} {w my f m hd ti q br fo got : Int32} {r13 : Option Value} (hx : LX B n ρ [] c s h0 h) (T : ((¬ q = fo → ((¬ 0 < br → (got = fo ∧ ((got < 0 → ((aIf (ρ 324) q) = br ∧ (∀ h1, LX B n ρ [] c s h0 h1 → jE 198 235 [some (.ref B), some (.int w), some (.long o), none, some (.int my), some (.int f), some (.int m), some (.int hd), some (.int ti), some (.int 1), some (.int (q + 1)), some (.int br), some (.int fo), some (.int got)] [] h1 K))) ∧ (¬ got < 0 → (¬ (if ρ 323 6 = 0 then -1 else ρ 323 6 - 1) < 0 ∧ ((aIf ((hUn ρ) 324) q) = br ∧ (∀ h1, LX B n (hUn ρ) [] c s h0 h1 → jE 198 235 [some (.ref B), some (.int w), some (.long o), none, some (.int my), some (.int f), some (.int m), some (.int hd), some (.int ti), some (.int 1), some (.int (q + 1)), some (.int br), some (.int fo), some (.int got)] [] h1 K))))))) ∧ (0 < br → (got = (-4) ∧ ((got < 0 → ((aIf (ρ 324) q) = br ∧ (∀ h1, LX B n ρ [] c s h0 h1 → jE 198 235 [some (.ref B), some (.int w), some (.long o), none, some (.int my), some (.int f), some (.int m), some (.int hd), some (.int ti), some (.int 1), some (.int (q + 1)), some (.int br), some (.int fo), some (.int got)] [] h1 K))) ∧ (¬ got < 0 → (¬ (if ρ 323 6 = 0 then -1 else ρ 323 6 - 1) < 0 ∧ ((aIf ((hUn ρ) 324) q) = br ∧ (∀ h1, LX B n (hUn ρ) [] c s h0 h1 → jE 198 235 [some (.ref B), some (.int w), some (.long o), none, some (.int my), some (.int f), some (.int m), some (.int hd), some (.int ti), some (.int 1), some (.int (q + 1)), some (.int br), some (.int fo), some (.int got)] [] h1 K))))))))) ∧ (q = fo → (got = (-2) ∧ ((got < 0 → ((aIf (ρ 324) q) = br ∧ (∀ h1, LX B n ρ [] c s h0 h1 → jE 198 235 [some (.ref B), some (.int w), some (.long o), none, some (.int my), some (.int f), some (.int m), some (.int hd), some (.int ti), some (.int 1), some (.int (q + 1)), some (.int br), some (.int fo), some (.int got)] [] h1 K))) ∧ (¬ got < 0 → (¬ (if ρ 323 6 = 0 then -1 else ρ 323 6 - 1) < 0 ∧ ((aIf ((hUn ρ) 324) q) = br ∧ (∀ h1, LX B n (hUn ρ) [] c s h0 h1 → jE 198 235 [some (.ref B), some (.int w), some (.long o), none, some (.int my), some (.int f), some (.int m), some (.int hd), some (.int ti), some (.int 1), some (.int (q + 1)), some (.int br), some (.int fo), some (.int got)] [] h1 K))))))))) : jE 198 309 [some (.ref B), some (.int w), some (.long o), none, some (.int my), some (.int f), some (.int m), some (.int hd), some (.int ti), some (.int 1), some (.int q), some (.int br), some (.int fo), r13] [.int got] h K := by
  refine jx_blk (by decide) [(.istore 13, 2), (.iload 13, 2), (.iload 10, 2), (.iload 12, 2)] (pc' := 317) (Lv' := [some (.ref B), some (.int w), some (.long o), none, some (.int my), some (.int f), some (.int m), some (.int hd), some (.int ti), some (.int 1), some (.int q), some (.int br), some (.int fo), some (.int got)]) (st' := [.int fo, .int q, .int got]) (by decide +kernel) rfl ?_
  refine jx_ic_ne (off := 8) (b := 325) (by decide) (by decide +kernel) (by decide) (fun e1 => ?_) (fun e1 => ?_)
  · have t2 := T.1 e1
    refine jx_blk (by decide) [(.iload 11, 2)] (pc' := 327) (Lv' := [some (.ref B), some (.int w), some (.long o), none, some (.int my), some (.int f), some (.int m), some (.int hd), some (.int ti), some (.int 1), some (.int q), some (.int br), some (.int fo), some (.int got)]) (st' := [.int br, .int got]) (by decide +kernel) rfl ?_
    refine jx_if_le (off := 8) (b := 335) (by decide) (by decide +kernel) (by decide) (fun e4 => ?_) (fun e4 => ?_)
    · have t5 := t2.1 e4
      refine jx_blk (by decide) [(.iload 12, 2)] (pc' := 337) (Lv' := [some (.ref B), some (.int w), some (.long o), none, some (.int my), some (.int f), some (.int m), some (.int hd), some (.int ti), some (.int 1), some (.int q), some (.int br), some (.int fo), some (.int got)]) (st' := [.int fo, .int got]) (by decide +kernel) rfl ?_
      refine jx_ic_ne (off := 30) (b := 367) (by decide) (by decide +kernel) (by decide) (fun e => absurd t5.1 e) (fun _ => ?_)
      have t8 := t5.2
      refine jx_blk (by decide) [(.iload 13, 2)] (pc' := 342) (Lv' := [some (.ref B), some (.int w), some (.long o), none, some (.int my), some (.int f), some (.int m), some (.int hd), some (.int ti), some (.int 1), some (.int q), some (.int br), some (.int fo), some (.int got)]) (st' := [.int got]) (by decide +kernel) rfl ?_
      refine jx_if_lt (off := 10) (b := 352) (by decide) (by decide +kernel) (by decide) (fun e9 => ?_) (fun e9 => ?_)
      · have t10 := t8.1 e9
        refine jx_blk (by decide) [(.aload_n 0, 1), (.iload 10, 2)] (pc' := 355) (Lv' := [some (.ref B), some (.int w), some (.long o), none, some (.int my), some (.int f), some (.int m), some (.int hd), some (.int ti), some (.int 1), some (.int q), some (.int br), some (.int fo), some (.int got)]) (st' := [.int q, .ref B]) (by decide +kernel) rfl ?_
        refine lx_call (z := 139) (na := 2) (mL := 2) (v := .int (aIf (ρ 324) q)) (ρ' := ρ) (r := []) [q] (by decide +kernel) hx xr_ifFirst hx.1.1 rfl rfl (fun _ => rfl) (Nat.le_of_ble_eq_true rfl) (fun h12 hx13 => ?_)
        refine jx_blk (by decide) [(.iload 11, 2)] (pc' := 360) (Lv' := [some (.ref B), some (.int w), some (.long o), none, some (.int my), some (.int f), some (.int m), some (.int hd), some (.int ti), some (.int 1), some (.int q), some (.int br), some (.int fo), some (.int got)]) (st' := [.int br, .int (aIf (ρ 324) q)]) (by decide +kernel) rfl ?_
        refine jx_ic_ne (off := 7) (b := 367) (by decide) (by decide +kernel) (by decide) (fun e => absurd t10.1 e) (fun _ => ?_)
        have t15 := t10.2
        refine jx_blk (by decide) [(.iconst 1, 1)] (pc' := 364) (Lv' := [some (.ref B), some (.int w), some (.long o), none, some (.int my), some (.int f), some (.int m), some (.int hd), some (.int ti), some (.int 1), some (.int q), some (.int br), some (.int fo), some (.int got)]) (st' := [.int 1]) (by decide +kernel) rfl ?_
        refine jx_goto (off := 4) (b := 368) (by decide) (by decide +kernel) (by decide) ?_
        refine jx_blk (by decide) [(.istore 9, 2), (.iinc 10 1, 3)] (pc' := 373) (Lv' := [some (.ref B), some (.int w), some (.long o), none, some (.int my), some (.int f), some (.int m), some (.int hd), some (.int ti), some (.int 1), some (.int (q + 1)), some (.int br), some (.int fo), some (.int got)]) (st' := []) (by decide +kernel) rfl ?_
        refine jx_goto (off := (-138)) (b := 235) (by decide) (by decide +kernel) (by decide) ?_
        exact t15 _ hx13
      · have t11 := t8.2 e9
        refine jx_blk (by decide) [(.aload_n 0, 1)] (pc' := 346) (Lv' := [some (.ref B), some (.int w), some (.long o), none, some (.int my), some (.int f), some (.int m), some (.int hd), some (.int ti), some (.int 1), some (.int q), some (.int br), some (.int fo), some (.int got)]) (st' := [.ref B]) (by decide +kernel) rfl ?_
        refine lx_call (z := 122) (na := 1) (mL := 1) (v := .int (if ρ 323 6 = 0 then -1 else ρ 323 6 - 1)) (ρ' := (hUn ρ)) (r := []) [] (by decide +kernel) hx xr_undo hx.1.1 rfl rfl (fun _ => rfl) (Nat.le_of_ble_eq_true rfl) (fun h16 hx17 => ?_)
        refine jx_if_lt (off := 18) (b := 367) (by decide) (by decide +kernel) (by decide) (fun e => absurd e t11.1) (fun _ => ?_)
        have t19 := t11.2
        refine jx_blk (by decide) [(.aload_n 0, 1), (.iload 10, 2)] (pc' := 355) (Lv' := [some (.ref B), some (.int w), some (.long o), none, some (.int my), some (.int f), some (.int m), some (.int hd), some (.int ti), some (.int 1), some (.int q), some (.int br), some (.int fo), some (.int got)]) (st' := [.int q, .ref B]) (by decide +kernel) rfl ?_
        refine lx_call (z := 139) (na := 2) (mL := 2) (v := .int (aIf ((hUn ρ) 324) q)) (ρ' := (hUn ρ)) (r := []) [q] (by decide +kernel) hx17 xr_ifFirst hx17.1.1 rfl rfl (fun _ => rfl) (Nat.le_of_ble_eq_true rfl) (fun h20 hx21 => ?_)
        refine jx_blk (by decide) [(.iload 11, 2)] (pc' := 360) (Lv' := [some (.ref B), some (.int w), some (.long o), none, some (.int my), some (.int f), some (.int m), some (.int hd), some (.int ti), some (.int 1), some (.int q), some (.int br), some (.int fo), some (.int got)]) (st' := [.int br, .int (aIf ((hUn ρ) 324) q)]) (by decide +kernel) rfl ?_
        refine jx_ic_ne (off := 7) (b := 367) (by decide) (by decide +kernel) (by decide) (fun e => absurd t19.1 e) (fun _ => ?_)
        have t23 := t19.2
        refine jx_blk (by decide) [(.iconst 1, 1)] (pc' := 364) (Lv' := [some (.ref B), some (.int w), some (.long o), none, some (.int my), some (.int f), some (.int m), some (.int hd), some (.int ti), some (.int 1), some (.int q), some (.int br), some (.int fo), some (.int got)]) (st' := [.int 1]) (by decide +kernel) rfl ?_
        refine jx_goto (off := 4) (b := 368) (by decide) (by decide +kernel) (by decide) ?_
        refine jx_blk (by decide) [(.istore 9, 2), (.iinc 10 1, 3)] (pc' := 373) (Lv' := [some (.ref B), some (.int w), some (.long o), none, some (.int my), some (.int f), some (.int m), some (.int hd), some (.int ti), some (.int 1), some (.int (q + 1)), some (.int br), some (.int fo), some (.int got)]) (st' := []) (by decide +kernel) rfl ?_
        refine jx_goto (off := (-138)) (b := 235) (by decide) (by decide +kernel) (by decide) ?_
        exact t23 _ hx21
    · have t6 := t2.2 e4
      refine jx_blk (by decide) [(.bipush (-4), 2)] (pc' := 332) (Lv' := [some (.ref B), some (.int w), some (.long o), none, some (.int my), some (.int f), some (.int m), some (.int hd), some (.int ti), some (.int 1), some (.int q), some (.int br), some (.int fo), some (.int got)]) (st' := [.int (-4), .int got]) (by decide +kernel) rfl ?_
      refine jx_goto (off := 5) (b := 337) (by decide) (by decide +kernel) (by decide) ?_
      refine jx_ic_ne (off := 30) (b := 367) (by decide) (by decide +kernel) (by decide) (fun e => absurd t6.1 e) (fun _ => ?_)
      have t25 := t6.2
      refine jx_blk (by decide) [(.iload 13, 2)] (pc' := 342) (Lv' := [some (.ref B), some (.int w), some (.long o), none, some (.int my), some (.int f), some (.int m), some (.int hd), some (.int ti), some (.int 1), some (.int q), some (.int br), some (.int fo), some (.int got)]) (st' := [.int got]) (by decide +kernel) rfl ?_
      refine jx_if_lt (off := 10) (b := 352) (by decide) (by decide +kernel) (by decide) (fun e26 => ?_) (fun e26 => ?_)
      · have t27 := t25.1 e26
        refine jx_blk (by decide) [(.aload_n 0, 1), (.iload 10, 2)] (pc' := 355) (Lv' := [some (.ref B), some (.int w), some (.long o), none, some (.int my), some (.int f), some (.int m), some (.int hd), some (.int ti), some (.int 1), some (.int q), some (.int br), some (.int fo), some (.int got)]) (st' := [.int q, .ref B]) (by decide +kernel) rfl ?_
        refine lx_call (z := 139) (na := 2) (mL := 2) (v := .int (aIf (ρ 324) q)) (ρ' := ρ) (r := []) [q] (by decide +kernel) hx xr_ifFirst hx.1.1 rfl rfl (fun _ => rfl) (Nat.le_of_ble_eq_true rfl) (fun h29 hx30 => ?_)
        refine jx_blk (by decide) [(.iload 11, 2)] (pc' := 360) (Lv' := [some (.ref B), some (.int w), some (.long o), none, some (.int my), some (.int f), some (.int m), some (.int hd), some (.int ti), some (.int 1), some (.int q), some (.int br), some (.int fo), some (.int got)]) (st' := [.int br, .int (aIf (ρ 324) q)]) (by decide +kernel) rfl ?_
        refine jx_ic_ne (off := 7) (b := 367) (by decide) (by decide +kernel) (by decide) (fun e => absurd t27.1 e) (fun _ => ?_)
        have t32 := t27.2
        refine jx_blk (by decide) [(.iconst 1, 1)] (pc' := 364) (Lv' := [some (.ref B), some (.int w), some (.long o), none, some (.int my), some (.int f), some (.int m), some (.int hd), some (.int ti), some (.int 1), some (.int q), some (.int br), some (.int fo), some (.int got)]) (st' := [.int 1]) (by decide +kernel) rfl ?_
        refine jx_goto (off := 4) (b := 368) (by decide) (by decide +kernel) (by decide) ?_
        refine jx_blk (by decide) [(.istore 9, 2), (.iinc 10 1, 3)] (pc' := 373) (Lv' := [some (.ref B), some (.int w), some (.long o), none, some (.int my), some (.int f), some (.int m), some (.int hd), some (.int ti), some (.int 1), some (.int (q + 1)), some (.int br), some (.int fo), some (.int got)]) (st' := []) (by decide +kernel) rfl ?_
        refine jx_goto (off := (-138)) (b := 235) (by decide) (by decide +kernel) (by decide) ?_
        exact t32 _ hx30
      · have t28 := t25.2 e26
        refine jx_blk (by decide) [(.aload_n 0, 1)] (pc' := 346) (Lv' := [some (.ref B), some (.int w), some (.long o), none, some (.int my), some (.int f), some (.int m), some (.int hd), some (.int ti), some (.int 1), some (.int q), some (.int br), some (.int fo), some (.int got)]) (st' := [.ref B]) (by decide +kernel) rfl ?_
        refine lx_call (z := 122) (na := 1) (mL := 1) (v := .int (if ρ 323 6 = 0 then -1 else ρ 323 6 - 1)) (ρ' := (hUn ρ)) (r := []) [] (by decide +kernel) hx xr_undo hx.1.1 rfl rfl (fun _ => rfl) (Nat.le_of_ble_eq_true rfl) (fun h33 hx34 => ?_)
        refine jx_if_lt (off := 18) (b := 367) (by decide) (by decide +kernel) (by decide) (fun e => absurd e t28.1) (fun _ => ?_)
        have t36 := t28.2
        refine jx_blk (by decide) [(.aload_n 0, 1), (.iload 10, 2)] (pc' := 355) (Lv' := [some (.ref B), some (.int w), some (.long o), none, some (.int my), some (.int f), some (.int m), some (.int hd), some (.int ti), some (.int 1), some (.int q), some (.int br), some (.int fo), some (.int got)]) (st' := [.int q, .ref B]) (by decide +kernel) rfl ?_
        refine lx_call (z := 139) (na := 2) (mL := 2) (v := .int (aIf ((hUn ρ) 324) q)) (ρ' := (hUn ρ)) (r := []) [q] (by decide +kernel) hx34 xr_ifFirst hx34.1.1 rfl rfl (fun _ => rfl) (Nat.le_of_ble_eq_true rfl) (fun h37 hx38 => ?_)
        refine jx_blk (by decide) [(.iload 11, 2)] (pc' := 360) (Lv' := [some (.ref B), some (.int w), some (.long o), none, some (.int my), some (.int f), some (.int m), some (.int hd), some (.int ti), some (.int 1), some (.int q), some (.int br), some (.int fo), some (.int got)]) (st' := [.int br, .int (aIf ((hUn ρ) 324) q)]) (by decide +kernel) rfl ?_
        refine jx_ic_ne (off := 7) (b := 367) (by decide) (by decide +kernel) (by decide) (fun e => absurd t36.1 e) (fun _ => ?_)
        have t40 := t36.2
        refine jx_blk (by decide) [(.iconst 1, 1)] (pc' := 364) (Lv' := [some (.ref B), some (.int w), some (.long o), none, some (.int my), some (.int f), some (.int m), some (.int hd), some (.int ti), some (.int 1), some (.int q), some (.int br), some (.int fo), some (.int got)]) (st' := [.int 1]) (by decide +kernel) rfl ?_
        refine jx_goto (off := 4) (b := 368) (by decide) (by decide +kernel) (by decide) ?_
        refine jx_blk (by decide) [(.istore 9, 2), (.iinc 10 1, 3)] (pc' := 373) (Lv' := [some (.ref B), some (.int w), some (.long o), none, some (.int my), some (.int f), some (.int m), some (.int hd), some (.int ti), some (.int 1), some (.int (q + 1)), some (.int br), some (.int fo), some (.int got)]) (st' := []) (by decide +kernel) rfl ?_
        refine jx_goto (off := (-138)) (b := 235) (by decide) (by decide +kernel) (by decide) ?_
        exact t40 _ hx38
  · have t3 := T.2 e1
    refine jx_blk (by decide) [(.bipush (-2), 2)] (pc' := 322) (Lv' := [some (.ref B), some (.int w), some (.long o), none, some (.int my), some (.int f), some (.int m), some (.int hd), some (.int ti), some (.int 1), some (.int q), some (.int br), some (.int fo), some (.int got)]) (st' := [.int (-2), .int got]) (by decide +kernel) rfl ?_
    refine jx_goto (off := 15) (b := 337) (by decide) (by decide +kernel) (by decide) ?_
    refine jx_ic_ne (off := 30) (b := 367) (by decide) (by decide +kernel) (by decide) (fun e => absurd t3.1 e) (fun _ => ?_)
    have t42 := t3.2
    refine jx_blk (by decide) [(.iload 13, 2)] (pc' := 342) (Lv' := [some (.ref B), some (.int w), some (.long o), none, some (.int my), some (.int f), some (.int m), some (.int hd), some (.int ti), some (.int 1), some (.int q), some (.int br), some (.int fo), some (.int got)]) (st' := [.int got]) (by decide +kernel) rfl ?_
    refine jx_if_lt (off := 10) (b := 352) (by decide) (by decide +kernel) (by decide) (fun e43 => ?_) (fun e43 => ?_)
    · have t44 := t42.1 e43
      refine jx_blk (by decide) [(.aload_n 0, 1), (.iload 10, 2)] (pc' := 355) (Lv' := [some (.ref B), some (.int w), some (.long o), none, some (.int my), some (.int f), some (.int m), some (.int hd), some (.int ti), some (.int 1), some (.int q), some (.int br), some (.int fo), some (.int got)]) (st' := [.int q, .ref B]) (by decide +kernel) rfl ?_
      refine lx_call (z := 139) (na := 2) (mL := 2) (v := .int (aIf (ρ 324) q)) (ρ' := ρ) (r := []) [q] (by decide +kernel) hx xr_ifFirst hx.1.1 rfl rfl (fun _ => rfl) (Nat.le_of_ble_eq_true rfl) (fun h46 hx47 => ?_)
      refine jx_blk (by decide) [(.iload 11, 2)] (pc' := 360) (Lv' := [some (.ref B), some (.int w), some (.long o), none, some (.int my), some (.int f), some (.int m), some (.int hd), some (.int ti), some (.int 1), some (.int q), some (.int br), some (.int fo), some (.int got)]) (st' := [.int br, .int (aIf (ρ 324) q)]) (by decide +kernel) rfl ?_
      refine jx_ic_ne (off := 7) (b := 367) (by decide) (by decide +kernel) (by decide) (fun e => absurd t44.1 e) (fun _ => ?_)
      have t49 := t44.2
      refine jx_blk (by decide) [(.iconst 1, 1)] (pc' := 364) (Lv' := [some (.ref B), some (.int w), some (.long o), none, some (.int my), some (.int f), some (.int m), some (.int hd), some (.int ti), some (.int 1), some (.int q), some (.int br), some (.int fo), some (.int got)]) (st' := [.int 1]) (by decide +kernel) rfl ?_
      refine jx_goto (off := 4) (b := 368) (by decide) (by decide +kernel) (by decide) ?_
      refine jx_blk (by decide) [(.istore 9, 2), (.iinc 10 1, 3)] (pc' := 373) (Lv' := [some (.ref B), some (.int w), some (.long o), none, some (.int my), some (.int f), some (.int m), some (.int hd), some (.int ti), some (.int 1), some (.int (q + 1)), some (.int br), some (.int fo), some (.int got)]) (st' := []) (by decide +kernel) rfl ?_
      refine jx_goto (off := (-138)) (b := 235) (by decide) (by decide +kernel) (by decide) ?_
      exact t49 _ hx47
    · have t45 := t42.2 e43
      refine jx_blk (by decide) [(.aload_n 0, 1)] (pc' := 346) (Lv' := [some (.ref B), some (.int w), some (.long o), none, some (.int my), some (.int f), some (.int m), some (.int hd), some (.int ti), some (.int 1), some (.int q), some (.int br), some (.int fo), some (.int got)]) (st' := [.ref B]) (by decide +kernel) rfl ?_
      refine lx_call (z := 122) (na := 1) (mL := 1) (v := .int (if ρ 323 6 = 0 then -1 else ρ 323 6 - 1)) (ρ' := (hUn ρ)) (r := []) [] (by decide +kernel) hx xr_undo hx.1.1 rfl rfl (fun _ => rfl) (Nat.le_of_ble_eq_true rfl) (fun h50 hx51 => ?_)
      refine jx_if_lt (off := 18) (b := 367) (by decide) (by decide +kernel) (by decide) (fun e => absurd e t45.1) (fun _ => ?_)
      have t53 := t45.2
      refine jx_blk (by decide) [(.aload_n 0, 1), (.iload 10, 2)] (pc' := 355) (Lv' := [some (.ref B), some (.int w), some (.long o), none, some (.int my), some (.int f), some (.int m), some (.int hd), some (.int ti), some (.int 1), some (.int q), some (.int br), some (.int fo), some (.int got)]) (st' := [.int q, .ref B]) (by decide +kernel) rfl ?_
      refine lx_call (z := 139) (na := 2) (mL := 2) (v := .int (aIf ((hUn ρ) 324) q)) (ρ' := (hUn ρ)) (r := []) [q] (by decide +kernel) hx51 xr_ifFirst hx51.1.1 rfl rfl (fun _ => rfl) (Nat.le_of_ble_eq_true rfl) (fun h54 hx55 => ?_)
      refine jx_blk (by decide) [(.iload 11, 2)] (pc' := 360) (Lv' := [some (.ref B), some (.int w), some (.long o), none, some (.int my), some (.int f), some (.int m), some (.int hd), some (.int ti), some (.int 1), some (.int q), some (.int br), some (.int fo), some (.int got)]) (st' := [.int br, .int (aIf ((hUn ρ) 324) q)]) (by decide +kernel) rfl ?_
      refine jx_ic_ne (off := 7) (b := 367) (by decide) (by decide +kernel) (by decide) (fun e => absurd t53.1 e) (fun _ => ?_)
      have t57 := t53.2
      refine jx_blk (by decide) [(.iconst 1, 1)] (pc' := 364) (Lv' := [some (.ref B), some (.int w), some (.long o), none, some (.int my), some (.int f), some (.int m), some (.int hd), some (.int ti), some (.int 1), some (.int q), some (.int br), some (.int fo), some (.int got)]) (st' := [.int 1]) (by decide +kernel) rfl ?_
      refine jx_goto (off := 4) (b := 368) (by decide) (by decide +kernel) (by decide) ?_
      refine jx_blk (by decide) [(.istore 9, 2), (.iinc 10 1, 3)] (pc' := 373) (Lv' := [some (.ref B), some (.int w), some (.long o), none, some (.int my), some (.int f), some (.int m), some (.int hd), some (.int ti), some (.int 1), some (.int (q + 1)), some (.int br), some (.int fo), some (.int got)]) (st' := []) (by decide +kernel) rfl ?_
      refine jx_goto (off := (-138)) (b := 235) (by decide) (by decide +kernel) (by decide) ?_
      exact t57 _ hx55
theorem cnt_or {P Q : Nat → Bool} : ∀ n, (∀ j, j < n → ¬ (P j = true ∧ Q j = true)) → cnt (fun j => P j || Q j) n = cnt P n + cnt Q n
  | 0, _ => rfl
  | n + 1, h => by
    have ih := cnt_or n (fun j hj => h j (by omega))
    have hn := h n (Nat.lt_succ_self _)
    show cnt _ n + (if (P n || Q n) = true then 1 else 0) = cnt P n + (if P n = true then 1 else 0) + (cnt Q n + (if Q n = true then 1 else 0))
    rw [ih]
    cases e1 : P n <;> cases e2 : Q n <;> simp [e1, e2] at hn ⊢ <;> omega
theorem cnt_zero {P : Nat → Bool} : ∀ n, cnt P n = 0 → ∀ j, j < n → P j = false
  | 0, _, j, hj => absurd hj (Nat.not_lt_zero _)
  | n + 1, h, j, hj => by
    have h2 : cnt P n + (if P n = true then 1 else 0) = 0 := h
    rcases Nat.lt_succ_iff_lt_or_eq.mp hj with z | z
    · exact cnt_zero n (by omega) j z
    · subst z
      cases e : P j with
      | false => rfl
      | true =>
        rw [e, if_pos rfl] at h2
        omega
theorem cnt_all {P : Nat → Bool} : ∀ n, (∀ j, j < n → P j = true) → cnt P n = n
  | 0, _ => rfl
  | n + 1, h => by
    show cnt P n + (if P n = true then 1 else 0) = n + 1
    rw [cnt_all n (fun j hj => h j (by omega)), if_pos (h n (Nat.lt_succ_self _))]
theorem cnt_none {P : Nat → Bool} : ∀ n, (∀ j, j < n → P j = false) → cnt P n = 0
  | 0, _ => rfl
  | n + 1, h => by
    show cnt P n + (if P n = true then 1 else 0) = 0
    rw [cnt_none n (fun j hj => h j (by omega)), if_neg (by rw [h n (Nat.lt_succ_self _)]; decide)]
/-- how many travellers have a stop of which Q holds -/
def cS (Q : Int32 → Bool) (R : gW) : Nat := cnt (fun t => Q (fld R t 8)) (nM R)
theorem off_n {R : gW} {t : Nat} (hb : bN R) (ht : t < nM R) : nM (fOff R t) = nM R - 1 := nM_iN (fOff_3 hb ht) (by have := (nM_of hb.1).2; omega)
theorem off_c {R : gW} {t : Nat} (Q : Int32 → Bool) (hb : bN R) (ht : t < nM R) : cS Q (fOff R t) + (if Q (fld R t 8) = true then 1 else 0) = cS Q R := by
  unfold cS
  rw [off_n hb ht]
  obtain ⟨m, hm⟩ : ∃ m, nM R = m + 1 := ⟨nM R - 1, by omega⟩
  have e : cnt (fun s => Q (fld (fOff R t) s 8)) (nM R - 1) = cnt (fun j => (fun s => Q (fld R s 8)) (if j < t then j else j + 1)) (nM R - 1) := by
    refine cnt_congr (fun j hj => ?_)
    rw [fOff_f hb ht hj (by decide)]
  rw [e, hm, Nat.add_sub_cancel]
  exact cnt_del (P := fun s => Q (fld R s 8)) (t := t) (by omega)
theorem stpN_c (Q : Int32 → Bool) : ∀ (k : Nat) (R : gW), bN R → k ≤ nM R → cS Q (stpN k R) + (if Q (R 2) = true then cnt (fun t => decide (fld R t 8 = R 2)) k else 0) = cS Q R ∧ stpN k R 2 = R 2
  | 0, R, _, _ => ⟨by show cS Q R + _ = _; split <;> rfl, rfl⟩
  | k + 1, R, hb, hk => by
    show cS Q (stpN k (stp1 R k)) + _ = _ ∧ stpN k (stp1 R k) 2 = R 2
    obtain ⟨b1, b2⟩ := stp1_b (k := k) hb (by omega)
    obtain ⟨i1, i2⟩ := stpN_c Q k (stp1 R k) b1 b2
    have ec : cnt (fun t => decide (fld R t 8 = R 2)) (k + 1) = cnt (fun t => decide (fld R t 8 = R 2)) k + (if decide (fld R k 8 = R 2) = true then 1 else 0) := rfl
    by_cases q : fld R k 8 = R 2
    · have e1 : stp1 R k = fOff R k := if_pos q
      rw [e1] at i1 i2 ⊢
      have e2 : fOff R k 2 = R 2 := fOff_2 hb
      rw [e2] at i1 i2
      have ef : cnt (fun t => decide (fld (fOff R k) t 8 = R 2)) k = cnt (fun t => decide (fld R t 8 = R 2)) k := by
        refine cnt_congr (fun j hj => ?_)
        rw [fOff_f hb (by omega) (by omega) (by decide), if_pos hj]
      rw [ef] at i1
      have o := off_c (t := k) Q hb (by omega)
      rw [q] at o
      refine ⟨?_, i2⟩
      rw [ec, if_pos (decide_eq_true q)]
      by_cases z : Q (R 2) = true
      · rw [if_pos z] at i1 o ⊢
        omega
      · rw [if_neg z] at i1 o ⊢
        omega
    · have e1 : stp1 R k = R := if_neg q
      rw [e1] at i1 i2 ⊢
      rw [ec, if_neg (fun z => q (of_decide_eq_true z)), Nat.add_zero]
      exact ⟨i1, i2⟩
theorem stp_c (Q : Int32 → Bool) {R : gW} (hb : bN R) : cS Q (fStp R) + (if Q (R 2 + 1) = true then cS (fun x => decide (x = R 2 + 1)) R else 0) = cS Q R ∧ fStp R 2 = R 2 + 1 := by
  have en : nM (radd R 2 1) = nM R := nM_radd2 R 1
  have ef : ∀ t, fld (radd R 2 1) t 8 = fld R t 8 := fun t => fld_radd (by decide)
  have e2 : radd R 2 1 2 = R 2 + 1 := radd_at _ _ _
  have hb' : bN (radd R 2 1) := by
    refine ⟨?_, ?_⟩
    · rw [radd_ne (by decide)]; exact hb.1
    · rw [radd_ne (by decide)]; exact hb.2
  obtain ⟨i1, i2⟩ := stpN_c Q (nM R) (radd R 2 1) hb' (by rw [en]; exact Nat.le_refl _)
  rw [e2] at i1 i2
  have ec : cS Q (radd R 2 1) = cS Q R := by
    unfold cS
    rw [en]
    exact cnt_congr (fun t ht => by rw [ef])
  have ed : cnt (fun t => decide (fld (radd R 2 1) t 8 = R 2 + 1)) (nM R) = cS (fun x => decide (x = R 2 + 1)) R := by
    unfold cS
    exact cnt_congr (fun t ht => by rw [ef])
  rw [ec, ed] at i1
  exact ⟨i1, i2⟩
def inr (T k : Nat) (x : Int32) : Bool := decide (iN T < x ∧ ¬ iN (T + k) < x)
theorem inr_s {T k : Nat} (h : T + k + 1 < 2147483648) (x : Int32) : inr T (k + 1) x = (inr T k x || decide (x = iN (T + k + 1))) := by
  have e1 := iN_int (k := T) (by omega)
  have e2 := iN_int (k := T + k) (by omega)
  have e3 := iN_int (k := T + k + 1) (by omega)
  unfold inr
  rw [← Bool.decide_or, decide_eq_decide, Int32.lt_iff_toInt_lt, Int32.lt_iff_toInt_lt, Int32.lt_iff_toInt_lt, e1, e2, show T + (k + 1) = T + k + 1 by omega, e3]
  have ex : x = iN (T + k + 1) ↔ x.toInt = (T + k + 1 : Nat) := by
    rw [← e3]
    exact Int32.toInt_inj.symm
  rw [ex]
  omega
theorem stm_c {R : gW} {T : Nat} (hb : bN R) (hT : R 2 = iN T) : ∀ k, T + k < 2147483648 → stm k R 2 = iN (T + k) ∧ ∀ Q : Int32 → Bool, cS Q (stm k R) + cS (fun x => Q x && inr T k x) R = cS Q R
  | 0, _ => by
    refine ⟨hT, fun Q => ?_⟩
    show cS Q R + _ = _
    have : cS (fun x => Q x && inr T 0 x) R = 0 := cnt_none _ (fun t ht => by
      show (Q (fld R t 8) && inr T 0 (fld R t 8)) = false
      have : inr T 0 (fld R t 8) = false := decide_eq_false (fun z => z.2 z.1)
      rw [this, Bool.and_false])
    rw [this, Nat.add_zero]
  | k + 1, h => by
    obtain ⟨i1, i2⟩ := stm_c hb hT k (by omega)
    have hbS := stm_b hb k
    have e1 : iN (T + k) + 1 = iN (T + k + 1) := iN_add (T + k) 1
    refine ⟨?_, fun Q => ?_⟩
    · show fStp (stm k R) 2 = _
      rw [(stp_c (fun _ => true) hbS).2, i1, e1]
      rfl
    · show cS Q (fStp (stm k R)) + _ = _
      have j1 := (stp_c Q hbS).1
      rw [i1, e1] at j1
      have j2 := i2 Q
      have j3 := i2 (fun x => decide (x = iN (T + k + 1)))
      have z0 : cS (fun x => decide (x = iN (T + k + 1)) && inr T k x) R = 0 := cnt_none _ (fun t ht => by
        show (decide (fld R t 8 = iN (T + k + 1)) && inr T k (fld R t 8)) = false
        by_cases q : fld R t 8 = iN (T + k + 1)
        · have : inr T k (fld R t 8) = false := decide_eq_false (fun z => z.2 (by rw [q]; exact (iN_lt (by omega) (by omega)).mpr (by omega)))
          rw [this, Bool.and_false]
        · rw [decide_eq_false q, Bool.false_and])
      rw [z0, Nat.add_zero] at j3
      have sp : cS (fun x => Q x && inr T (k + 1) x) R = cS (fun x => Q x && inr T k x) R + (if Q (iN (T + k + 1)) = true then cS (fun x => decide (x = iN (T + k + 1))) R else 0) := by
        have e2 : cS (fun x => Q x && inr T (k + 1) x) R = cnt (fun t => (fun t => Q (fld R t 8) && inr T k (fld R t 8)) t || (fun t => Q (fld R t 8) && decide (fld R t 8 = iN (T + k + 1))) t) (nM R) := by
          unfold cS
          refine cnt_congr (fun t ht => ?_)
          show (Q (fld R t 8) && inr T (k + 1) (fld R t 8)) = ((Q (fld R t 8) && inr T k (fld R t 8)) || (Q (fld R t 8) && decide (fld R t 8 = iN (T + k + 1))))
          rw [inr_s (by omega), Bool.and_or_distrib_left]
        rw [e2, cnt_or]
        · congr 1
          by_cases q : Q (iN (T + k + 1)) = true
          · rw [if_pos q]
            unfold cS
            refine cnt_congr (fun t ht => ?_)
            by_cases v : fld R t 8 = iN (T + k + 1)
            · rw [v, q, Bool.true_and]
            · show _ = decide (fld R t 8 = iN (T + k + 1))
              rw [decide_eq_false v, Bool.and_false]
          · rw [if_neg q]
            refine cnt_none _ (fun t ht => ?_)
            by_cases v : fld R t 8 = iN (T + k + 1)
            · rw [v, Bool.not_eq_true _ |>.mp q, Bool.false_and]
            · rw [decide_eq_false v, Bool.and_false]
        · intro t ht z
          obtain ⟨z1, z2⟩ := z
          rw [Bool.and_eq_true] at z1 z2
          have v := of_decide_eq_true z2.2
          have u := (of_decide_eq_true z1.2).2
          rw [v] at u
          exact u ((iN_lt (by omega) (by omega)).mpr (by omega))
      rw [sp]
      rw [j3] at j1
      by_cases q : Q (iN (T + k + 1)) = true
      · rw [if_pos q] at j1 ⊢
        omega
      · rw [if_neg q] at j1 ⊢
        omega
section SN
variable {B n c s : Nat} {ρ : gS} {h0 : jv_H} {K : jK} {o : Int64} {w my f m hd ti : Int32}
/-- who will get off -/
theorem sn_b {T k N : Nat} (hN : nM (ρ 324) = N) (h3 : 0 ≤ ρ 324 3 ∧ ρ 324 3 ≤ 20) (hT : ρ 324 2 = iN T) (hG : ∀ (h : jv_H) (w6 w7 w8 w9 w10 w11 w12 w13 : Option Value), LX B n ρ [] c s h0 h → jE 198 73 [some (.ref B), some (.int w), some (.long o), none, some (.int (iN k)), some (.int (iN (cS (inr T k) (ρ 324)))), w6, w7, w8, w9, w10, w11, w12, w13] [] h K) :
    ∀ (e t : Nat), t + e = N → ∀ {h : jv_H} {w7 w8 w9 w10 w11 w12 w13 : Option Value}, LX B n ρ [] c s h0 h → jE 198 19 [some (.ref B), some (.int w), some (.long o), none, some (.int (iN k)), some (.int (iN (cnt (fun t => inr T k (fld (ρ 324) t 8)) t))), some (.int (iN t)), w7, w8, w9, w10, w11, w12, w13] [] h K := by
  obtain ⟨e3, l20⟩ := nM_of h3
  rw [hN] at e3 l20
  intro e
  induction e with
  | zero =>
    intro t ht h w7 w8 w9 w10 w11 w12 w13 hx
    have ht : t = N := by omega
    refine sn_19 hx ?_
    rw [e3]
    refine ⟨fun _ h1 hx1 => ?_, fun z => absurd ((iN_lt (by omega) (by omega)).mp z) (by omega)⟩
    rw [ht, ← hN]
    exact hG h1 _ _ _ _ _ _ _ _ hx1
  | succ e ih =>
    intro t ht h w7 w8 w9 w10 w11 w12 w13 hx
    have et : iN t + 1 = iN (t + 1) := iN_add t 1
    have o8 : vO (ρ 324) (iN t) 8 = fld (ρ 324) t 8 := vO_i h3 (by omega) (by decide)
    have ek : ρ 324 2 + iN k = iN (T + k) := by rw [hT, iN_add]
    have ec : ∀ b : Nat, (if inr T k (fld (ρ 324) t 8) = true then 1 else 0) = b → cnt (fun t => inr T k (fld (ρ 324) t 8)) (t + 1) = cnt (fun t => inr T k (fld (ρ 324) t 8)) t + b := fun b hb => by rw [← hb]; rfl
    refine sn_19 hx ?_
    rw [e3, o8, ek, hT]
    refine ⟨fun z => absurd ((iN_lt (by omega) (by omega)).mpr (by omega)) z, fun _ => ⟨fun z h1 hx1 => ?_, fun z => ⟨fun y h1 hx1 => ?_, fun y h1 hx1 => ?_⟩⟩⟩
    · rw [et]
      have q := ih (t + 1) (by omega) (w7 := w7) (w8 := w8) (w9 := w9) (w10 := w10) (w11 := w11) (w12 := w12) (w13 := w13) hx1
      rw [ec 0 (if_neg (fun v => z (of_decide_eq_true v).1)), Nat.add_zero] at q
      exact q
    · rw [et]
      have q := ih (t + 1) (by omega) (w7 := w7) (w8 := w8) (w9 := w9) (w10 := w10) (w11 := w11) (w12 := w12) (w13 := w13) hx1
      rw [ec 0 (if_neg (fun v => (of_decide_eq_true v).2 y)), Nat.add_zero] at q
      exact q
    · rw [et, show iN (cnt (fun t => inr T k (fld (ρ 324) t 8)) t) + 1 = iN (cnt (fun t => inr T k (fld (ρ 324) t 8)) t + 1) from iN_add _ 1]
      have q := ih (t + 1) (by omega) (w7 := w7) (w8 := w8) (w9 := w9) (w10 := w10) (w11 := w11) (w12 := w12) (w13 := w13) hx1
      rw [ec 1 (if_pos (decide_eq_true ⟨z, y⟩))] at q
      exact q
/-- who is still there -/
theorem sn_c {T k N : Nat} (hN : nM (ρ 324) = N) (h3 : 0 ≤ ρ 324 3 ∧ ρ 324 3 ≤ 20) (hz : ∀ t, t < N → inr T k (fld (ρ 324) t 8) = false) (hu : ¬ (if ρ 323 6 = 0 then -1 else ρ 323 6 - 1) < 0)
    (hG : ∀ (h : jv_H) (w11 w12 w13 : Option Value), LX B n (hUn ρ) [] c s h0 h → jE 198 235 [some (.ref B), some (.int w), some (.long o), none, some (.int (iN k)), some (.int f), some (.int m), some (.int hd), some (.int (iN T)), some (.int 1), some (.int 0), w11, w12, w13] [] h K) :
    ∀ (e t : Nat), t + e = N → ∀ {h : jv_H} {w11 w12 w13 : Option Value}, LX B n ρ [] c s h0 h → jE 198 156 [some (.ref B), some (.int w), some (.long o), none, some (.int (iN k)), some (.int f), some (.int m), some (.int hd), some (.int (iN T)), some (.int 1), some (.int (iN t)), w11, w12, w13] [] h K := by
  obtain ⟨e3, l20⟩ := nM_of h3
  rw [hN] at e3 l20
  intro e
  induction e with
  | zero =>
    intro t ht h w11 w12 w13 hx
    refine sn_156 hx ?_
    rw [e3]
    exact ⟨fun _ => ⟨hu, fun h1 hx1 => hG h1 _ _ _ hx1⟩, fun z => absurd ((iN_lt (by omega) (by omega)).mp z) (by omega)⟩
  | succ e ih =>
    intro t ht h w11 w12 w13 hx
    have et : iN t + 1 = iN (t + 1) := iN_add t 1
    have o8 : vO (ρ 324) (iN t) 8 = fld (ρ 324) t 8 := vO_i h3 (by omega) (by decide)
    have zt := of_decide_eq_false (hz t (by omega))
    refine sn_156 hx ?_
    rw [e3, o8, iN_add T k, et]
    refine ⟨fun z => absurd ((iN_lt (by omega) (by omega)).mpr (by omega)) z, fun _ => ⟨fun z h1 hx1 => ih (t + 1) (by omega) hx1, fun z => ⟨?_, fun h1 hx1 => ih (t + 1) (by omega) hx1⟩⟩⟩
    exact Decidable.not_not.mp (fun y => zt ⟨z, y⟩)
theorem bar_i {R : gW} (hT : bT R) {t : Nat} (ht : t < nM R) (q : Int32) : decide (¬ (fld R t 1 = 1 ∨ q ≤ fld R t 0 / 4)) = decide (fld R t 1 = 0 ∧ fld R t 0 / 4 < q) := by
  rw [decide_eq_decide]
  constructor
  · intro z
    refine ⟨?_, Int32.not_le.mp (fun y => z (Or.inr y))⟩
    rcases (hT t ht).1 with y | y
    · exact y
    · exact absurd (Or.inl y) z
  · intro z y
    rcases y with y | y
    · rw [z.1] at y
      exact absurd y (by decide)
    · exact absurd z.2 (Int32.not_lt.mpr y)
/-- whom another FIRST would bar -/
theorem sn_d {N : Nat} {q : Int32} (hN : nM (ρ 324) = N) (h3 : 0 ≤ ρ 324 3 ∧ ρ 324 3 ≤ 20) (hT : bT (ρ 324)) (hG : ∀ (h : jv_H) (w12 w13 : Option Value), LX B n ρ [] c s h0 h → jE 198 296 [some (.ref B), some (.int w), some (.long o), none, some (.int my), some (.int f), some (.int (iN N)), some (.int hd), some (.int ti), some (.int 1), some (.int q), some (.int (fBar (ρ 324) q)), w12, w13] [] h K) :
    ∀ (e t : Nat), t + e = N → ∀ {h : jv_H} {w13 : Option Value}, LX B n ρ [] c s h0 h → jE 198 256 [some (.ref B), some (.int w), some (.long o), none, some (.int my), some (.int f), some (.int (iN N)), some (.int hd), some (.int ti), some (.int 1), some (.int q), some (.int (iN (cnt (fun t => decide (¬ (fld (ρ 324) t 1 = 1 ∨ q ≤ fld (ρ 324) t 0 / 4))) t))), some (.int (iN t)), w13] [] h K := by
  obtain ⟨e3, l20⟩ := nM_of h3
  rw [hN] at e3 l20
  intro e
  induction e with
  | zero =>
    intro t ht h w13 hx
    have ht : t = N := by omega
    refine sn_256 hx ⟨fun _ h1 hx1 => ?_, fun z => absurd ((iN_lt (by omega) (by omega)).mp z) (by omega)⟩
    have q := hG h1 (some (.int (iN t))) w13 hx1
    unfold fBar at q
    rw [hN] at q
    rw [ht] at q ⊢
    exact q
  | succ e ih =>
    intro t ht h w13 hx
    have et : iN t + 1 = iN (t + 1) := iN_add t 1
    have o1 : vO (ρ 324) (iN t) 1 = fld (ρ 324) t 1 := vO_i h3 (by omega) (by decide)
    have o0 : vO (ρ 324) (iN t) 0 = fld (ρ 324) t 0 := vO_i h3 (by omega) (by decide)
    have eb := bar_i hT (t := t) (by omega) q
    have ec : ∀ b : Nat, (if decide (¬ (fld (ρ 324) t 1 = 1 ∨ q ≤ fld (ρ 324) t 0 / 4)) = true then 1 else 0) = b → cnt (fun t => decide (¬ (fld (ρ 324) t 1 = 1 ∨ q ≤ fld (ρ 324) t 0 / 4))) (t + 1) = cnt (fun t => decide (¬ (fld (ρ 324) t 1 = 1 ∨ q ≤ fld (ρ 324) t 0 / 4))) t + b := fun b hb => by rw [← hb]; rfl
    rw [eb] at ec
    refine sn_256 hx ?_
    rw [o1, o0, et]
    refine ⟨fun z => absurd ((iN_lt (by omega) (by omega)).mpr (by omega)) z, fun _ => ⟨fun z h1 hx1 => ?_, fun z => ⟨fun y h1 hx1 => ?_, fun y h1 hx1 => ?_⟩⟩⟩
    · have v := ih (t + 1) (by omega) (w13 := w13) hx1
      rw [ec 0 (if_neg (fun u => z (of_decide_eq_true u).1)), Nat.add_zero] at v
      exact v
    · have v := ih (t + 1) (by omega) (w13 := w13) hx1
      rw [ec 0 (if_neg (fun u => y (of_decide_eq_true u).2)), Nat.add_zero] at v
      exact v
    · have v := ih (t + 1) (by omega) (w13 := w13) hx1
      rw [ec 1 (if_pos (decide_eq_true ⟨z, y⟩))] at v
      rw [show iN (cnt (fun t => decide (¬ (fld (ρ 324) t 1 = 1 ∨ q ≤ fld (ρ 324) t 0 / 4))) t) + 1 = iN (cnt (fun t => decide (¬ (fld (ρ 324) t 1 = 1 ∨ q ≤ fld (ρ 324) t 0 / 4))) t + 1) from iN_add _ 1]
      exact v
/-- another FIRST -/
theorem sn_e {N a k : Nat} (hN : nM (ρ 324) = N) (ha : ρ 324 0 = iN a) (ha10 : a ≤ 10) (hK : ∀ (τ : gS) (h : jv_H), Sm ρ τ → LX B n τ [] c s h0 h → K (some (.int 1)) h) (hO : o = hsh ρ) :
    ∀ (e k : Nat), k + e = a + 1 → ∀ {h : jv_H} {τ : gS} {w11 w12 w13 : Option Value}, Sm ρ τ → RQ τ → LX B n τ [] c s h0 h → jE 198 235 [some (.ref B), some (.int w), some (.long o), none, some (.int my), some (.int f), some (.int (iN N)), some (.int hd), some (.int ti), some (.int 1), some (.int (iN k)), w11, w12, w13] [] h K := by
  intro e
  induction e with
  | zero =>
    intro k hk h τ w11 w12 w13 hs hQ hx
    refine sn_235 hx ?_
    rw [hs.1, ha]
    refine ⟨fun _ => ⟨(lg_cmp_eq _ _).mpr (by rw [hO]; exact hsh_cg hs.1), fun h1 hx1 => hK τ h1 hs hx1⟩, fun z => absurd ((iN_lt (by omega) (by omega)).mpr (by omega)) z⟩
  | succ e ih =>
    intro k hk h τ w11 w12 w13 hs hQ hx
    have hi := hQ.1
    have h3 := hi.1.1.1
    have l20 := hi.n.2
    have eR := hs.1
    have f1 := hQ.2.1.1.2.2.2.1
    have hn : nM (τ 324) = N := by rw [eR]; exact hN
    have ha' : τ 324 0 = iN a := by rw [eR]; exact ha
    have ek : iN k + 1 = iN (k + 1) := iN_add k 1
    refine sn_235 hx ?_
    rw [ha']
    refine ⟨fun z => absurd ((iN_lt (by omega) (by omega)).mp z) (by omega), fun _ h1 hx1 => ?_⟩
    refine sn_d (q := iN k) hn h3 hi.2.2.2.2.2.1 (fun h2 v12 v13 hx2 => ?_) N 0 (by omega) hx1
    refine sn_296 hx2 (fun h4 hx4 => ?_)
    have inr0 : (0 : Int32) ≤ iN k ∧ iN k ≤ τ 324 0 := by
      rw [ha']
      exact ⟨(iN_le (k := 0) (by decide) (by omega)).mpr (Nat.zero_le _), (iN_le (by omega) (by omega)).mpr (by omega)⟩
    have ea : aFir (τ 324) (iN k) = if τ 324 1 = iN k then -2 else if 0 < fBar (τ 324) (iN k) then -4 else τ 324 1 := if_pos inr0
    have ei : aIf (τ 324) (iN k) = fBar (τ 324) (iN k) := if_pos inr0
    have nxt : ∀ (κ : gS) (h5 : jv_H) (u11 u12 u13 : Option Value), Sm τ κ → LX B n κ [] c s h0 h5 → jE 198 235 [some (.ref B), some (.int w), some (.long o), none, some (.int my), some (.int f), some (.int (iN N)), some (.int hd), some (.int ti), some (.int 1), some (.int (iN k + 1)), u11, u12, u13] [] h5 K := by
      intro κ h5 u11 u12 u13 hs5 hx5
      rw [ek]
      exact ih (k + 1) (by omega) (hs.trans hs5) (hQ.sm hs5 hx5.inf) hx5
    rw [ea]
    by_cases q1 : τ 324 1 = iN k
    · have ng : ¬ gFir (τ 324) (iN k) := fun z => z.2.1 q1
      rw [hOp_f ng] at hx4
      rw [if_pos q1]
      refine sn_309 hx4 ⟨fun z => absurd q1.symm z, fun _ => ⟨rfl, fun _ => ⟨ei, fun h5 hx5 => nxt τ h5 _ _ _ Sm.rf hx5⟩, fun z => absurd (by decide) z⟩⟩
    · rw [if_neg q1]
      by_cases q2 : 0 < fBar (τ 324) (iN k)
      · have ng : ¬ gFir (τ 324) (iN k) := fun z => z.2.2 q2
        rw [hOp_f ng] at hx4
        rw [if_pos q2]
        exact sn_309 hx4 ⟨fun _ => ⟨fun z => absurd q2 z, fun _ => ⟨rfl, fun _ => ⟨ei, fun h5 hx5 => nxt τ h5 _ _ _ Sm.rf hx5⟩, fun z => absurd (by decide) z⟩⟩, fun z => absurd z.symm q1⟩
      · have g : gFir (τ 324) (iN k) := ⟨inr0, q1, q2⟩
        rw [if_neg q2]
        obtain ⟨us, u0, u1⟩ := un_op (N := nFir (τ 324) (iN k)) hi.1 hi.2.2.1 g
        refine sn_309 hx4 ⟨fun _ => ⟨fun _ => ⟨rfl, fun z => absurd z (Int32.not_lt.mpr f1), fun _ => ⟨?_, ?_, fun h5 hx5 => nxt _ h5 _ _ _ us hx5⟩⟩, fun z => absurd z q2⟩, fun z => absurd z.symm q1⟩
        · rw [if_neg u0]
          exact Int32.not_lt.mpr u1
        · rw [us.1]
          exact ei
theorem lm_stations {b : Nat} (sp : SP ρ) (st : TI b (ρ 324)) (hb : b ≤ 900) : LMx 198 [some (.ref B), some (.int w), none, none, none, none, none, none, none, none, none, none, none, none] B n ρ c s (.int 1) c s := fun h hx => by
  have hi := hx.inf
  have h3 := hi.1.1.1
  obtain ⟨e3, l20⟩ := hi.n
  obtain ⟨T, hT, e2⟩ := st
  obtain ⟨a, ha10, ha, -⟩ := row_n hi.2.2.2.1
  obtain ⟨j, hj, ej⟩ := and_n w 15 (by decide)
  have em : 1 + (w &&& 15) = iN (1 + j) := by
    rw [show (15 : Int32) = iN 15 from rfl, ej, show (1 : Int32) = iN 1 from rfl, iN_add]
  obtain ⟨s2, sQ⟩ := stm_c hi.1.1 e2 (1 + j) (by omega)
  obtain ⟨ss, sb⟩ := stm_sum hi.1.1 (1 + j)
  have cT : ∀ S : gW, cS (fun _ => true) S = nM S := fun S => cnt_all _ (fun _ _ => rfl)
  have c1 := sQ (fun _ => true)
  rw [cT, cT] at c1
  have c1 : nM (stm (1 + j) (ρ 324)) + cS (inr T (1 + j)) (ρ 324) = nM (ρ 324) := c1
  have c2 := sQ (inr T (1 + j))
  have c3 : cS (fun x => inr T (1 + j) x && inr T (1 + j) x) (ρ 324) = cS (inr T (1 + j)) (ρ 324) := cnt_congr (fun t ht => Bool.and_self _)
  have c4 : cS (inr T (1 + j)) (stm (1 + j) (ρ 324)) = 0 := by omega
  obtain ⟨f, hf⟩ : ∃ f, cS (inr T (1 + j)) (ρ 324) = f := ⟨_, rfl⟩
  rw [hf] at c1
  have eS3 : stm (1 + j) (ρ 324) 3 = iN (nM (ρ 324) - f) := by
    have := (nM_of sb.1).1
    rw [this]
    congr 1
    omega
  have e30 : (ρ 324) 3 - iN f = iN (nM (ρ 324) - f) := by rw [e3, iN_sub (by omega) (by omega)]
  have eS8 : stm (1 + j) (ρ 324) 8 = ρ 324 8 + iN f := by
    rw [eS3, ← e30] at ss
    grind
  have hin : (1 : Int32) ≤ iN (1 + j) ∧ iN (1 + j) ≤ 50 := ⟨(iN_le (k := 1) (by decide) (by omega)).mpr (by omega), (iN_le (m := 50) (by omega) (by decide)).mpr (by omega)⟩
  have hfull : ¬ 999 < ρ 324 2 + iN (1 + j) := by
    rw [e2, iN_add]
    intro z
    have := (iN_lt (k := 999) (by decide) (by omega)).mp z
    omega
  have g : gSta (ρ 324) (iN (1 + j)) := ⟨hin, hfull⟩
  have ea : aSta (ρ 324) (iN (1 + j)) = iN f := by
    unfold aSta
    rw [if_pos hin, if_neg hfull, iN_nat (by omega), eS8]
    grind
  refine sn_0 hx (fun h1 hx1 => ?_)
  rw [em]
  refine sn_b (T := T) (k := 1 + j) rfl h3 e2 (fun h2 w6 w7 w8 w9 w10 w11 w12 w13 hx2 => ?_) (nM (ρ 324)) 0 (by omega) hx1
  rw [hf]
  refine sn_73 hx2 (fun h4 hx4 => ?_)
  rw [ea]
  rw [iN_nat (show 1 + j < 2147483648 by omega)] at hx4
  obtain ⟨us, u0, u1⟩ := un_op (N := stm (1 + j) (ρ 324)) hi.1 hi.2.2.1 g
  have eN : hOp ρ (gSta (ρ 324) (iN (1 + j))) (stm (1 + j) (ρ 324)) 324 = stm (1 + j) (ρ 324) := hOp_324 g
  refine sn_101 hx4 ?_
  rw [eN]
  refine ⟨rfl, by rw [eS3, e30], eS8, by rw [s2, e2, iN_add], fun h5 hx5 => ?_⟩
  rw [e2]
  refine sn_c (T := T) (k := 1 + j) (N := nM (stm (1 + j) (ρ 324))) (by rw [eN]) (by rw [eN]; exact sb.1) (fun t ht => ?_) (by rw [if_neg u0]; exact Int32.not_lt.mpr u1) (fun h6 w11 w12 w13 hx6 => ?_) (nM (stm (1 + j) (ρ 324))) 0 (by omega) hx5
  · rw [eN]
    exact cnt_zero _ c4 t ht
  · rw [e3]
    exact sn_e (a := a) (k := 0) rfl ha ha10 (fun τ h7 hs7 hx7 => ⟨rfl, τ, hs7, hx7⟩) rfl (a + 1) 0 (by omega) us ⟨hx6.inf, us.sp sp⟩ hx6
end SN
