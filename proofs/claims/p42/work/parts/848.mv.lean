/-! moves(x, t) -/
theorem mv_0 {B n c s : Nat} {ρ : gS} {h0 h : jv_H} {K : jK} {t : Int32} (hx : LX B n ρ [] c s h0 h) (T : (∀ h1, LX B n ρ [] c s h0 h1 → jE 195 8 [some (.ref B), some (.int t), some (.int (-2)), some (.int 1), some (.int 0), none, none, none, none, none, none] [] h1 K)) : jE 195 0 [some (.ref B), some (.int t), none, none, none, none, none, none, none, none, none] [] h K := by
  refine jx_blk (by decide) [(.bipush (-2), 2), (.istore_n 2, 1), (.iconst 1, 1), (.istore_n 3, 1), (.iconst 0, 1), (.istore 4, 2)] (pc' := 8) (Lv' := [some (.ref B), some (.int t), some (.int (-2)), some (.int 1), some (.int 0), none, none, none, none, none, none]) (st' := []) (by decide +kernel) rfl ?_
  exact T _ hx

theorem mv_8 {B n c s : Nat} {ρ : gS} {h0 h : jv_H} {K : jK} {t b k : Int32} {r5 r6 r7 r8 r9 r10 : Option Value} (hx : LX B n ρ [] c s h0 h) (T : ((¬ k < (4 * (ρ 324 0)) → ((vBs (ρ 324) t) = b ∧ (∀ h1, LX B n ρ [] c s h0 h1 → K (some (.int 1)) h1))) ∧ (k < (4 * (ρ 324 0)) → (((aAt (ρ 324) k) < 0 → ((¬ (vO (ρ 324) t 1) = 0 → ((¬ (aJa (ρ 324) t k) < (vO9 (ρ 324) t) → (∀ h1, LX B n ρ [] c s h0 h1 → jE 195 102 [some (.ref B), some (.int t), some (.int b), some (.int 1), some (.int k), some (.int (aWm (ρ 324) t k)), some (.int (vO9 (ρ 324) t)), some (.int (aJa (ρ 324) t k)), r8, r9, r10] [.int 0] h1 K)) ∧ ((aJa (ρ 324) t k) < (vO9 (ρ 324) t) → (∀ h1, LX B n ρ [] c s h0 h1 → jE 195 102 [some (.ref B), some (.int t), some (.int b), some (.int 1), some (.int k), some (.int (aWm (ρ 324) t k)), some (.int (vO9 (ρ 324) t)), some (.int (aJa (ρ 324) t k)), r8, r9, r10] [.int 6] h1 K)))) ∧ ((vO (ρ 324) t 1) = 0 → ((¬ (k / 4) < (ρ 324 1) → ((¬ (aJa (ρ 324) t k) < (vO9 (ρ 324) t) → (∀ h1, LX B n ρ [] c s h0 h1 → jE 195 102 [some (.ref B), some (.int t), some (.int b), some (.int 1), some (.int k), some (.int (aWm (ρ 324) t k)), some (.int (vO9 (ρ 324) t)), some (.int (aJa (ρ 324) t k)), r8, r9, r10] [.int 0] h1 K)) ∧ ((aJa (ρ 324) t k) < (vO9 (ρ 324) t) → (∀ h1, LX B n ρ [] c s h0 h1 → jE 195 102 [some (.ref B), some (.int t), some (.int b), some (.int 1), some (.int k), some (.int (aWm (ρ 324) t k)), some (.int (vO9 (ρ 324) t)), some (.int (aJa (ρ 324) t k)), r8, r9, r10] [.int 6] h1 K)))) ∧ ((k / 4) < (ρ 324 1) → (∀ h1, LX B n ρ [] c s h0 h1 → jE 195 102 [some (.ref B), some (.int t), some (.int b), some (.int 1), some (.int k), some (.int (aWm (ρ 324) t k)), some (.int (vO9 (ρ 324) t)), some (.int (aJa (ρ 324) t k)), r8, r9, r10] [.int 1] h1 K)))))) ∧ (¬ (aAt (ρ 324) k) < 0 → (∀ h1, LX B n ρ [] c s h0 h1 → jE 195 102 [some (.ref B), some (.int t), some (.int b), some (.int 1), some (.int k), some (.int (aWm (ρ 324) t k)), some (.int (vO9 (ρ 324) t)), some (.int (aJa (ρ 324) t k)), r8, r9, r10] [.int 5] h1 K)))))) : jE 195 8 [some (.ref B), some (.int t), some (.int b), some (.int 1), some (.int k), r5, r6, r7, r8, r9, r10] [] h K := by
  refine jx_blk (by decide) [(.iload 4, 2), (.iconst 4, 1), (.aload_n 0, 1), (.iconst 0, 1)] (pc' := 13) (Lv' := [some (.ref B), some (.int t), some (.int b), some (.int 1), some (.int k), r5, r6, r7, r8, r9, r10]) (st' := [.int 0, .ref B, .int 4, .int k]) (by decide +kernel) rfl ?_
  refine lx_call (z := 123) (na := 2) (mL := 2) (v := .int (ρ 324 0)) (ρ' := ρ) (r := [.int 4, .int k]) [0] (by decide +kernel) hx xr_v0 hx.1.1 rfl rfl (fun _ => rfl) (Nat.le_of_ble_eq_true rfl) (fun h1 hx2 => ?_)
  refine jx_blk (by decide) [(.imul, 1)] (pc' := 17) (Lv' := [some (.ref B), some (.int t), some (.int b), some (.int 1), some (.int k), r5, r6, r7, r8, r9, r10]) (st' := [.int (4 * (ρ 324 0)), .int k]) (by decide +kernel) rfl ?_
  refine jx_ic_ge (off := 214) (b := 231) (by decide) (by decide +kernel) (by decide) (fun e3 => ?_) (fun e3 => ?_)
  · have t4 := T.1 e3
    refine jx_blk (by decide) [(.iload_n 3, 1)] (pc' := 232) (Lv' := [some (.ref B), some (.int t), some (.int b), some (.int 1), some (.int k), r5, r6, r7, r8, r9, r10]) (st' := [.int 1]) (by decide +kernel) rfl ?_
    refine jx_if_eq (off := 16) (b := 248) (by decide) (by decide +kernel) (by decide) (fun e => absurd e (by decide)) (fun _ => ?_)
    refine jx_blk (by decide) [(.aload_n 0, 1), (.iload_n 1, 1)] (pc' := 237) (Lv' := [some (.ref B), some (.int t), some (.int b), some (.int 1), some (.int k), r5, r6, r7, r8, r9, r10]) (st' := [.int t, .ref B]) (by decide +kernel) rfl ?_
    refine lx_call (z := 135) (na := 2) (mL := 2) (v := .int (vBs (ρ 324) t)) (ρ' := ρ) (r := []) [t] (by decide +kernel) hx2 xr_bestSeat hx2.1.1 rfl rfl (fun _ => rfl) (Nat.le_of_ble_eq_true rfl) (fun h6 hx7 => ?_)
    refine jx_blk (by decide) [(.iload_n 2, 1)] (pc' := 241) (Lv' := [some (.ref B), some (.int t), some (.int b), some (.int 1), some (.int k), r5, r6, r7, r8, r9, r10]) (st' := [.int b, .int (vBs (ρ 324) t)]) (by decide +kernel) rfl ?_
    refine jx_ic_ne (off := 7) (b := 248) (by decide) (by decide +kernel) (by decide) (fun e => absurd t4.1 e) (fun _ => ?_)
    have t9 := t4.2
    refine jx_blk (by decide) [(.iconst 1, 1)] (pc' := 245) (Lv' := [some (.ref B), some (.int t), some (.int b), some (.int 1), some (.int k), r5, r6, r7, r8, r9, r10]) (st' := [.int 1]) (by decide +kernel) rfl ?_
    refine jx_goto (off := 4) (b := 249) (by decide) (by decide +kernel) (by decide) ?_
    exact jx_zret (by decide) (by decide +kernel) (by decide +kernel) (Or.inr rfl) (t9 _ hx7)
  · have t5 := T.2 e3
    refine jx_blk (by decide) [(.iload_n 3, 1)] (pc' := 21) (Lv' := [some (.ref B), some (.int t), some (.int b), some (.int 1), some (.int k), r5, r6, r7, r8, r9, r10]) (st' := [.int 1]) (by decide +kernel) rfl ?_
    refine jx_if_eq (off := 210) (b := 231) (by decide) (by decide +kernel) (by decide) (fun e => absurd e (by decide)) (fun _ => ?_)
    refine jx_blk (by decide) [(.aload_n 0, 1), (.iload_n 1, 1), (.iload 4, 2)] (pc' := 28) (Lv' := [some (.ref B), some (.int t), some (.int b), some (.int 1), some (.int k), r5, r6, r7, r8, r9, r10]) (st' := [.int k, .int t, .ref B]) (by decide +kernel) rfl ?_
    refine lx_call (z := 131) (na := 3) (mL := 3) (v := .int (aWm (ρ 324) t k)) (ρ' := ρ) (r := []) [k, t] (by decide +kernel) hx2 xr_whyMove hx2.1.1 rfl rfl (fun _ => rfl) (Nat.le_of_ble_eq_true rfl) (fun h10 hx11 => ?_)
    refine jx_blk (by decide) [(.istore 5, 2), (.aload_n 0, 1), (.iload_n 1, 1), (.bipush 9, 2)] (pc' := 37) (Lv' := [some (.ref B), some (.int t), some (.int b), some (.int 1), some (.int k), some (.int (aWm (ρ 324) t k)), r6, r7, r8, r9, r10]) (st' := [.int 9, .int t, .ref B]) (by decide +kernel) rfl ?_
    refine lx_call (z := 124) (na := 3) (mL := 4) (v := .int (vO9 (ρ 324) t)) (ρ' := ρ) (r := []) [9, t] (by decide +kernel) hx11 xr_o9 hx11.1.1 rfl rfl (fun _ => rfl) (Nat.le_of_ble_eq_true rfl) (fun h12 hx13 => ?_)
    refine jx_blk (by decide) [(.istore 6, 2), (.aload_n 0, 1), (.iload_n 1, 1), (.iload 4, 2)] (pc' := 46) (Lv' := [some (.ref B), some (.int t), some (.int b), some (.int 1), some (.int k), some (.int (aWm (ρ 324) t k)), some (.int (vO9 (ρ 324) t)), r7, r8, r9, r10]) (st' := [.int k, .int t, .ref B]) (by decide +kernel) rfl ?_
    refine lx_call (z := 132) (na := 3) (mL := 3) (v := .int (aJa (ρ 324) t k)) (ρ' := ρ) (r := []) [k, t] (by decide +kernel) hx13 xr_joyAt hx13.1.1 rfl rfl (fun _ => rfl) (Nat.le_of_ble_eq_true rfl) (fun h14 hx15 => ?_)
    refine jx_blk (by decide) [(.istore 7, 2), (.aload_n 0, 1), (.iload 4, 2)] (pc' := 54) (Lv' := [some (.ref B), some (.int t), some (.int b), some (.int 1), some (.int k), some (.int (aWm (ρ 324) t k)), some (.int (vO9 (ρ 324) t)), some (.int (aJa (ρ 324) t k)), r8, r9, r10]) (st' := [.int k, .ref B]) (by decide +kernel) rfl ?_
    refine lx_call (z := 126) (na := 2) (mL := 2) (v := .int (aAt (ρ 324) k)) (ρ' := ρ) (r := []) [k] (by decide +kernel) hx15 xr_at hx15.1.1 rfl rfl (fun _ => rfl) (Nat.le_of_ble_eq_true rfl) (fun h16 hx17 => ?_)
    refine jx_if_lt (off := 7) (b := 64) (by decide) (by decide +kernel) (by decide) (fun e18 => ?_) (fun e18 => ?_)
    · have t19 := t5.1 e18
      refine jx_blk (by decide) [(.aload_n 0, 1), (.iload_n 1, 1), (.iconst 1, 1)] (pc' := 67) (Lv' := [some (.ref B), some (.int t), some (.int b), some (.int 1), some (.int k), some (.int (aWm (ρ 324) t k)), some (.int (vO9 (ρ 324) t)), some (.int (aJa (ρ 324) t k)), r8, r9, r10]) (st' := [.int 1, .int t, .ref B]) (by decide +kernel) rfl ?_
      refine lx_call (z := 124) (na := 3) (mL := 4) (v := .int (vO (ρ 324) t 1)) (ρ' := ρ) (r := []) [1, t] (by decide +kernel) hx17 xr_o1 hx17.1.1 rfl rfl (fun _ => rfl) (Nat.le_of_ble_eq_true rfl) (fun h21 hx22 => ?_)
      refine jx_if_ne (off := 19) (b := 89) (by decide) (by decide +kernel) (by decide) (fun e23 => ?_) (fun e23 => ?_)
      · have t24 := t19.1 e23
        refine jx_blk (by decide) [(.iload 7, 2), (.iload 6, 2)] (pc' := 93) (Lv' := [some (.ref B), some (.int t), some (.int b), some (.int 1), some (.int k), some (.int (aWm (ρ 324) t k)), some (.int (vO9 (ρ 324) t)), some (.int (aJa (ρ 324) t k)), r8, r9, r10]) (st' := [.int (vO9 (ρ 324) t), .int (aJa (ρ 324) t k)]) (by decide +kernel) rfl ?_
        refine jx_ic_ge (off := 8) (b := 101) (by decide) (by decide +kernel) (by decide) (fun e26 => ?_) (fun e26 => ?_)
        · have t27 := t24.1 e26
          refine jx_blk (by decide) [(.iconst 0, 1)] (pc' := 102) (Lv' := [some (.ref B), some (.int t), some (.int b), some (.int 1), some (.int k), some (.int (aWm (ρ 324) t k)), some (.int (vO9 (ρ 324) t)), some (.int (aJa (ρ 324) t k)), r8, r9, r10]) (st' := [.int 0]) (by decide +kernel) rfl ?_
          exact t27 _ hx22
        · have t28 := t24.2 e26
          refine jx_blk (by decide) [(.bipush 6, 2)] (pc' := 98) (Lv' := [some (.ref B), some (.int t), some (.int b), some (.int 1), some (.int k), some (.int (aWm (ρ 324) t k)), some (.int (vO9 (ρ 324) t)), some (.int (aJa (ρ 324) t k)), r8, r9, r10]) (st' := [.int 6]) (by decide +kernel) rfl ?_
          refine jx_goto (off := 4) (b := 102) (by decide) (by decide +kernel) (by decide) ?_
          exact t28 _ hx22
      · have t25 := t19.2 e23
        refine jx_blk (by decide) [(.iload 4, 2), (.iconst 4, 1), (.idiv, 1), (.aload_n 0, 1), (.iconst 1, 1)] (pc' := 79) (Lv' := [some (.ref B), some (.int t), some (.int b), some (.int 1), some (.int k), some (.int (aWm (ρ 324) t k)), some (.int (vO9 (ρ 324) t)), some (.int (aJa (ρ 324) t k)), r8, r9, r10]) (st' := [.int 1, .ref B, .int (k / 4)]) (by decide +kernel) rfl ?_
        refine lx_call (z := 123) (na := 2) (mL := 2) (v := .int (ρ 324 1)) (ρ' := ρ) (r := [.int (k / 4)]) [1] (by decide +kernel) hx22 xr_v1 hx22.1.1 rfl rfl (fun _ => rfl) (Nat.le_of_ble_eq_true rfl) (fun h29 hx30 => ?_)
        refine jx_ic_ge (off := 7) (b := 89) (by decide) (by decide +kernel) (by decide) (fun e31 => ?_) (fun e31 => ?_)
        · have t32 := t25.1 e31
          refine jx_blk (by decide) [(.iload 7, 2), (.iload 6, 2)] (pc' := 93) (Lv' := [some (.ref B), some (.int t), some (.int b), some (.int 1), some (.int k), some (.int (aWm (ρ 324) t k)), some (.int (vO9 (ρ 324) t)), some (.int (aJa (ρ 324) t k)), r8, r9, r10]) (st' := [.int (vO9 (ρ 324) t), .int (aJa (ρ 324) t k)]) (by decide +kernel) rfl ?_
          refine jx_ic_ge (off := 8) (b := 101) (by decide) (by decide +kernel) (by decide) (fun e34 => ?_) (fun e34 => ?_)
          · have t35 := t32.1 e34
            refine jx_blk (by decide) [(.iconst 0, 1)] (pc' := 102) (Lv' := [some (.ref B), some (.int t), some (.int b), some (.int 1), some (.int k), some (.int (aWm (ρ 324) t k)), some (.int (vO9 (ρ 324) t)), some (.int (aJa (ρ 324) t k)), r8, r9, r10]) (st' := [.int 0]) (by decide +kernel) rfl ?_
            exact t35 _ hx30
          · have t36 := t32.2 e34
            refine jx_blk (by decide) [(.bipush 6, 2)] (pc' := 98) (Lv' := [some (.ref B), some (.int t), some (.int b), some (.int 1), some (.int k), some (.int (aWm (ρ 324) t k)), some (.int (vO9 (ρ 324) t)), some (.int (aJa (ρ 324) t k)), r8, r9, r10]) (st' := [.int 6]) (by decide +kernel) rfl ?_
            refine jx_goto (off := 4) (b := 102) (by decide) (by decide +kernel) (by decide) ?_
            exact t36 _ hx30
        · have t33 := t25.2 e31
          refine jx_blk (by decide) [(.iconst 1, 1)] (pc' := 86) (Lv' := [some (.ref B), some (.int t), some (.int b), some (.int 1), some (.int k), some (.int (aWm (ρ 324) t k)), some (.int (vO9 (ρ 324) t)), some (.int (aJa (ρ 324) t k)), r8, r9, r10]) (st' := [.int 1]) (by decide +kernel) rfl ?_
          refine jx_goto (off := 16) (b := 102) (by decide) (by decide +kernel) (by decide) ?_
          exact t33 _ hx30
    · have t20 := t5.2 e18
      refine jx_blk (by decide) [(.iconst 5, 1)] (pc' := 61) (Lv' := [some (.ref B), some (.int t), some (.int b), some (.int 1), some (.int k), some (.int (aWm (ρ 324) t k)), some (.int (vO9 (ρ 324) t)), some (.int (aJa (ρ 324) t k)), r8, r9, r10]) (st' := [.int 5]) (by decide +kernel) rfl ?_
      refine jx_goto (off := 41) (b := 102) (by decide) (by decide +kernel) (by decide) ?_
      exact t20 _ hx17

theorem mv_102 {B n c s : Nat} {ρ : gS} {h0 h : jv_H} {K : jK} {t b k wy jo th rs : Int32} {r8 r9 r10 : Option Value} (hx : LX B n ρ [] c s h0 h) (T : ((¬ wy = 0 → (∀ h1, LX B n ρ [] c s h0 h1 → jE 195 127 [some (.ref B), some (.int t), some (.int b), some (.int 1), some (.int k), some (.int wy), some (.int jo), some (.int th), some (.int rs), r9, r10] [] h1 K)) ∧ (wy = 0 → ((b < 0 → (∀ h1, LX B n ρ [] c s h0 h1 → jE 195 127 [some (.ref B), some (.int t), some (.int k), some (.int 1), some (.int k), some (.int wy), some (.int jo), some (.int th), some (.int rs), r9, r10] [] h1 K)) ∧ (¬ b < 0 → ((¬ (aJa (ρ 324) t b) < th → (∀ h1, LX B n ρ [] c s h0 h1 → jE 195 127 [some (.ref B), some (.int t), some (.int b), some (.int 1), some (.int k), some (.int wy), some (.int jo), some (.int th), some (.int rs), r9, r10] [] h1 K)) ∧ ((aJa (ρ 324) t b) < th → (∀ h1, LX B n ρ [] c s h0 h1 → jE 195 127 [some (.ref B), some (.int t), some (.int k), some (.int 1), some (.int k), some (.int wy), some (.int jo), some (.int th), some (.int rs), r9, r10] [] h1 K)))))))) : jE 195 102 [some (.ref B), some (.int t), some (.int b), some (.int 1), some (.int k), some (.int wy), some (.int jo), some (.int th), r8, r9, r10] [.int rs] h K := by
  refine jx_blk (by decide) [(.istore 8, 2), (.iload 5, 2)] (pc' := 106) (Lv' := [some (.ref B), some (.int t), some (.int b), some (.int 1), some (.int k), some (.int wy), some (.int jo), some (.int th), some (.int rs), r9, r10]) (st' := [.int wy]) (by decide +kernel) rfl ?_
  refine jx_if_ne (off := 21) (b := 127) (by decide) (by decide +kernel) (by decide) (fun e1 => ?_) (fun e1 => ?_)
  · have t2 := T.1 e1
    exact t2 _ hx
  · have t3 := T.2 e1
    refine jx_blk (by decide) [(.iload_n 2, 1)] (pc' := 110) (Lv' := [some (.ref B), some (.int t), some (.int b), some (.int 1), some (.int k), some (.int wy), some (.int jo), some (.int th), some (.int rs), r9, r10]) (st' := [.int b]) (by decide +kernel) rfl ?_
    refine jx_if_lt (off := 14) (b := 124) (by decide) (by decide +kernel) (by decide) (fun e4 => ?_) (fun e4 => ?_)
    · have t5 := t3.1 e4
      refine jx_blk (by decide) [(.iload 4, 2), (.istore_n 2, 1)] (pc' := 127) (Lv' := [some (.ref B), some (.int t), some (.int k), some (.int 1), some (.int k), some (.int wy), some (.int jo), some (.int th), some (.int rs), r9, r10]) (st' := []) (by decide +kernel) rfl ?_
      exact t5 _ hx
    · have t6 := t3.2 e4
      refine jx_blk (by decide) [(.iload 7, 2), (.aload_n 0, 1), (.iload_n 1, 1), (.iload_n 2, 1)] (pc' := 118) (Lv' := [some (.ref B), some (.int t), some (.int b), some (.int 1), some (.int k), some (.int wy), some (.int jo), some (.int th), some (.int rs), r9, r10]) (st' := [.int b, .int t, .ref B, .int th]) (by decide +kernel) rfl ?_
      refine lx_call (z := 132) (na := 3) (mL := 3) (v := .int (aJa (ρ 324) t b)) (ρ' := ρ) (r := [.int th]) [b, t] (by decide +kernel) hx xr_joyAt hx.1.1 rfl rfl (fun _ => rfl) (Nat.le_of_ble_eq_true rfl) (fun h7 hx8 => ?_)
      refine jx_ic_le (off := 6) (b := 127) (by decide) (by decide +kernel) (by decide) (fun e9 => ?_) (fun e9 => ?_)
      · have t10 := t6.1 e9
        exact t10 _ hx8
      · have t11 := t6.2 e9
        refine jx_blk (by decide) [(.iload 4, 2), (.istore_n 2, 1)] (pc' := 127) (Lv' := [some (.ref B), some (.int t), some (.int k), some (.int 1), some (.int k), some (.int wy), some (.int jo), some (.int th), some (.int rs), r9, r10]) (st' := []) (by decide +kernel) rfl ?_
        exact t11 _ hx8

theorem mv_127 {B n c s : Nat} {ρ : gS} {h0 h : jv_H} {K : jK} {t b k wy jo th rs : Int32} {r9 r10 : Option Value} (hx : LX B n ρ [] c s h0 h) (T : (∀ h1, LX B n (hOp ρ (gMov (ρ 324) t k) (nMov (ρ 324) t k)) [] c s h0 h1 → jE 195 142 [some (.ref B), some (.int t), some (.int b), some (.int 1), some (.int k), some (.int wy), some (.int jo), some (.int th), some (.int rs), some (.int (vO (ρ 324) t 0)), r10] [.int (aMov (ρ 324) t k)] h1 K)) : jE 195 127 [some (.ref B), some (.int t), some (.int b), some (.int 1), some (.int k), some (.int wy), some (.int jo), some (.int th), some (.int rs), r9, r10] [] h K := by
  refine jx_blk (by decide) [(.aload_n 0, 1), (.iload_n 1, 1), (.iconst 0, 1)] (pc' := 130) (Lv' := [some (.ref B), some (.int t), some (.int b), some (.int 1), some (.int k), some (.int wy), some (.int jo), some (.int th), some (.int rs), r9, r10]) (st' := [.int 0, .int t, .ref B]) (by decide +kernel) rfl ?_
  refine lx_call (z := 124) (na := 3) (mL := 4) (v := .int (vO (ρ 324) t 0)) (ρ' := ρ) (r := []) [0, t] (by decide +kernel) hx xr_o0 hx.1.1 rfl rfl (fun _ => rfl) (Nat.le_of_ble_eq_true rfl) (fun h1 hx2 => ?_)
  refine jx_blk (by decide) [(.istore 9, 2), (.aload_n 0, 1), (.iload_n 1, 1), (.iload 4, 2)] (pc' := 139) (Lv' := [some (.ref B), some (.int t), some (.int b), some (.int 1), some (.int k), some (.int wy), some (.int jo), some (.int th), some (.int rs), some (.int (vO (ρ 324) t 0)), r10]) (st' := [.int k, .int t, .ref B]) (by decide +kernel) rfl ?_
  refine lx_call (z := 116) (na := 3) (mL := 5) (v := .int (aMov (ρ 324) t k)) (ρ' := (hOp ρ (gMov (ρ 324) t k) (nMov (ρ 324) t k))) (r := []) [k, t] (by decide +kernel) hx2 xr_move hx2.1.1 rfl rfl (fun _ => rfl) (Nat.le_of_ble_eq_true rfl) (fun h3 hx4 => ?_)
  exact T _ hx4

theorem mv_142 {B n c s : Nat} {ρ : gS} {h0 h : jv_H} {K : jK} {t b k wy jo th rs f got : Int32} {r10 : Option Value} (hx : LX B n ρ [] c s h0 h) (T : (wy = rs ∧ ((¬ 0 < wy → (got = (th - jo) ∧ ((vO9 (ρ 324) t) = th ∧ ((aAt (ρ 324) f) = (-2) ∧ ((aAt (ρ 324) k) = t ∧ (¬ (if ρ 323 6 = 0 then -1 else ρ 323 6 - 1) < 0 ∧ (∀ h1, LX B n (hUn ρ) [] c s h0 h1 → jE 195 224 [some (.ref B), some (.int t), some (.int b), some (.int 1), some (.int k), some (.int wy), some (.int jo), some (.int th), some (.int rs), some (.int f), some (.int got)] [.int 1] h1 K))))))) ∧ (0 < wy → (got = ((-10) - wy) ∧ (∀ h1, LX B n ρ [] c s h0 h1 → jE 195 224 [some (.ref B), some (.int t), some (.int b), some (.int 1), some (.int k), some (.int wy), some (.int jo), some (.int th), some (.int rs), some (.int f), some (.int got)] [.int 1] h1 K)))))) : jE 195 142 [some (.ref B), some (.int t), some (.int b), some (.int 1), some (.int k), some (.int wy), some (.int jo), some (.int th), some (.int rs), some (.int f), r10] [.int got] h K := by
  refine jx_blk (by decide) [(.istore 10, 2), (.iload 5, 2), (.iload 8, 2)] (pc' := 148) (Lv' := [some (.ref B), some (.int t), some (.int b), some (.int 1), some (.int k), some (.int wy), some (.int jo), some (.int th), some (.int rs), some (.int f), some (.int got)]) (st' := [.int rs, .int wy]) (by decide +kernel) rfl ?_
  refine jx_ic_ne (off := 75) (b := 223) (by decide) (by decide +kernel) (by decide) (fun e => absurd T.1 e) (fun _ => ?_)
  have t2 := T.2
  refine jx_blk (by decide) [(.iload 5, 2)] (pc' := 153) (Lv' := [some (.ref B), some (.int t), some (.int b), some (.int 1), some (.int k), some (.int wy), some (.int jo), some (.int th), some (.int rs), some (.int f), some (.int got)]) (st' := [.int wy]) (by decide +kernel) rfl ?_
  refine jx_if_le (off := 16) (b := 169) (by decide) (by decide +kernel) (by decide) (fun e3 => ?_) (fun e3 => ?_)
  · have t4 := t2.1 e3
    refine jx_blk (by decide) [(.iload 10, 2), (.iload 7, 2), (.iload 6, 2), (.isub, 1)] (pc' := 176) (Lv' := [some (.ref B), some (.int t), some (.int b), some (.int 1), some (.int k), some (.int wy), some (.int jo), some (.int th), some (.int rs), some (.int f), some (.int got)]) (st' := [.int (th - jo), .int got]) (by decide +kernel) rfl ?_
    refine jx_ic_ne (off := 47) (b := 223) (by decide) (by decide +kernel) (by decide) (fun e => absurd t4.1 e) (fun _ => ?_)
    have t7 := t4.2
    refine jx_blk (by decide) [(.aload_n 0, 1), (.iload_n 1, 1), (.bipush 9, 2)] (pc' := 183) (Lv' := [some (.ref B), some (.int t), some (.int b), some (.int 1), some (.int k), some (.int wy), some (.int jo), some (.int th), some (.int rs), some (.int f), some (.int got)]) (st' := [.int 9, .int t, .ref B]) (by decide +kernel) rfl ?_
    refine lx_call (z := 124) (na := 3) (mL := 4) (v := .int (vO9 (ρ 324) t)) (ρ' := ρ) (r := []) [9, t] (by decide +kernel) hx xr_o9 hx.1.1 rfl rfl (fun _ => rfl) (Nat.le_of_ble_eq_true rfl) (fun h8 hx9 => ?_)
    refine jx_blk (by decide) [(.iload 7, 2)] (pc' := 188) (Lv' := [some (.ref B), some (.int t), some (.int b), some (.int 1), some (.int k), some (.int wy), some (.int jo), some (.int th), some (.int rs), some (.int f), some (.int got)]) (st' := [.int th, .int (vO9 (ρ 324) t)]) (by decide +kernel) rfl ?_
    refine jx_ic_ne (off := 35) (b := 223) (by decide) (by decide +kernel) (by decide) (fun e => absurd t7.1 e) (fun _ => ?_)
    have t11 := t7.2
    refine jx_blk (by decide) [(.aload_n 0, 1), (.iload 9, 2)] (pc' := 194) (Lv' := [some (.ref B), some (.int t), some (.int b), some (.int 1), some (.int k), some (.int wy), some (.int jo), some (.int th), some (.int rs), some (.int f), some (.int got)]) (st' := [.int f, .ref B]) (by decide +kernel) rfl ?_
    refine lx_call (z := 126) (na := 2) (mL := 2) (v := .int (aAt (ρ 324) f)) (ρ' := ρ) (r := []) [f] (by decide +kernel) hx9 xr_at hx9.1.1 rfl rfl (fun _ => rfl) (Nat.le_of_ble_eq_true rfl) (fun h12 hx13 => ?_)
    refine jx_blk (by decide) [(.bipush (-2), 2)] (pc' := 199) (Lv' := [some (.ref B), some (.int t), some (.int b), some (.int 1), some (.int k), some (.int wy), some (.int jo), some (.int th), some (.int rs), some (.int f), some (.int got)]) (st' := [.int (-2), .int (aAt (ρ 324) f)]) (by decide +kernel) rfl ?_
    refine jx_ic_ne (off := 24) (b := 223) (by decide) (by decide +kernel) (by decide) (fun e => absurd t11.1 e) (fun _ => ?_)
    have t15 := t11.2
    refine jx_blk (by decide) [(.aload_n 0, 1), (.iload 4, 2)] (pc' := 205) (Lv' := [some (.ref B), some (.int t), some (.int b), some (.int 1), some (.int k), some (.int wy), some (.int jo), some (.int th), some (.int rs), some (.int f), some (.int got)]) (st' := [.int k, .ref B]) (by decide +kernel) rfl ?_
    refine lx_call (z := 126) (na := 2) (mL := 2) (v := .int (aAt (ρ 324) k)) (ρ' := ρ) (r := []) [k] (by decide +kernel) hx13 xr_at hx13.1.1 rfl rfl (fun _ => rfl) (Nat.le_of_ble_eq_true rfl) (fun h16 hx17 => ?_)
    refine jx_blk (by decide) [(.iload_n 1, 1)] (pc' := 209) (Lv' := [some (.ref B), some (.int t), some (.int b), some (.int 1), some (.int k), some (.int wy), some (.int jo), some (.int th), some (.int rs), some (.int f), some (.int got)]) (st' := [.int t, .int (aAt (ρ 324) k)]) (by decide +kernel) rfl ?_
    refine jx_ic_ne (off := 14) (b := 223) (by decide) (by decide +kernel) (by decide) (fun e => absurd t15.1 e) (fun _ => ?_)
    have t19 := t15.2
    refine jx_blk (by decide) [(.aload_n 0, 1)] (pc' := 213) (Lv' := [some (.ref B), some (.int t), some (.int b), some (.int 1), some (.int k), some (.int wy), some (.int jo), some (.int th), some (.int rs), some (.int f), some (.int got)]) (st' := [.ref B]) (by decide +kernel) rfl ?_
    refine lx_call (z := 122) (na := 1) (mL := 1) (v := .int (if ρ 323 6 = 0 then -1 else ρ 323 6 - 1)) (ρ' := (hUn ρ)) (r := []) [] (by decide +kernel) hx17 xr_undo hx17.1.1 rfl rfl (fun _ => rfl) (Nat.le_of_ble_eq_true rfl) (fun h20 hx21 => ?_)
    refine jx_if_lt (off := 7) (b := 223) (by decide) (by decide +kernel) (by decide) (fun e => absurd e t19.1) (fun _ => ?_)
    have t23 := t19.2
    refine jx_blk (by decide) [(.iconst 1, 1)] (pc' := 220) (Lv' := [some (.ref B), some (.int t), some (.int b), some (.int 1), some (.int k), some (.int wy), some (.int jo), some (.int th), some (.int rs), some (.int f), some (.int got)]) (st' := [.int 1]) (by decide +kernel) rfl ?_
    refine jx_goto (off := 4) (b := 224) (by decide) (by decide +kernel) (by decide) ?_
    exact t23 _ hx21
  · have t5 := t2.2 e3
    refine jx_blk (by decide) [(.iload 10, 2), (.bipush (-10), 2), (.iload 5, 2), (.isub, 1)] (pc' := 163) (Lv' := [some (.ref B), some (.int t), some (.int b), some (.int 1), some (.int k), some (.int wy), some (.int jo), some (.int th), some (.int rs), some (.int f), some (.int got)]) (st' := [.int ((-10) - wy), .int got]) (by decide +kernel) rfl ?_
    refine jx_ic_ne (off := 60) (b := 223) (by decide) (by decide +kernel) (by decide) (fun e => absurd t5.1 e) (fun _ => ?_)
    have t25 := t5.2
    refine jx_goto (off := 53) (b := 219) (by decide) (by decide +kernel) (by decide) ?_
    refine jx_blk (by decide) [(.iconst 1, 1)] (pc' := 220) (Lv' := [some (.ref B), some (.int t), some (.int b), some (.int 1), some (.int k), some (.int wy), some (.int jo), some (.int th), some (.int rs), some (.int f), some (.int got)]) (st' := [.int 1]) (by decide +kernel) rfl ?_
    refine jx_goto (off := 4) (b := 224) (by decide) (by decide +kernel) (by decide) ?_
    exact t25 _ hx

theorem mv_224 {B n c s : Nat} {ρ : gS} {h0 h : jv_H} {K : jK} {t b k : Int32} {r5 r6 r7 r8 r9 r10 : Option Value} (hx : LX B n ρ [] c s h0 h) (T : (∀ h1, LX B n ρ [] c s h0 h1 → jE 195 8 [some (.ref B), some (.int t), some (.int b), some (.int 1), some (.int (k + 1)), r5, r6, r7, r8, r9, r10] [] h1 K)) : jE 195 224 [some (.ref B), some (.int t), some (.int b), some (.int 1), some (.int k), r5, r6, r7, r8, r9, r10] [.int 1] h K := by
  refine jx_blk (by decide) [(.istore_n 3, 1), (.iinc 4 1, 3)] (pc' := 228) (Lv' := [some (.ref B), some (.int t), some (.int b), some (.int 1), some (.int (k + 1)), r5, r6, r7, r8, r9, r10]) (st' := []) (by decide +kernel) rfl ?_
  refine jx_goto (off := (-220)) (b := 8) (by decide) (by decide +kernel) (by decide) ?_
  exact T _ hx
section MV
variable {B n c s : Nat} {ρ : gS} {h0 : jv_H} {K : jK} {t m : Nat}
/-- what moves needs of the row -/
def MR (ρ : gS) (t m : Nat) : Prop := RI ρ ∧ SP ρ ∧ t < nM (ρ 324) ∧ ρ 324 0 = iN m ∧ m ≤ 10
theorem MR.sm {τ : gS} (h : MR ρ t m) (q : Sm ρ τ) (hi : RI τ) : MR τ t m := by
  obtain ⟨h1, h2, h3, h4, h5⟩ := h
  have e := q.1
  exact ⟨hi, q.sp h2, by rw [e]; exact h3, by rw [e]; exact h4, h5⟩
/-- the best seat among the first k -/
noncomputable def mvB (R : gW) (t k : Nat) : Int32 := nfold (brS R t) k (-2)
theorem mvB_b (R : gW) (t : Nat) : ∀ k, k ≤ 1000 → mvB R t k = -2 ∨ ∃ j, j < k ∧ mvB R t k = iN j
  | 0, _ => Or.inl rfl
  | k + 1, hk => by
    have ih := mvB_b R t k (by omega)
    have e : mvB R t (k + 1) = brS R t k (mvB R t k) := rfl
    rw [e]
    unfold brS
    have old : mvB R t k = -2 ∨ ∃ j, j < k + 1 ∧ mvB R t k = iN j := ih.imp id (fun ⟨j, a, b⟩ => ⟨j, by omega, b⟩)
    split
    · exact old
    · split
      · exact Or.inr ⟨k, by omega, rfl⟩
      · split
        · exact Or.inr ⟨k, by omega, rfl⟩
        · exact old
/-- the reason as the law works it out -/
theorem mv_why {R : gW} {x : Int32} (h20 : nM R ≤ 20) (h3 : 0 ≤ R 3 ∧ R 3 ≤ 20) (hF : bF R) (hT : bT R) (ht : t < nM R) (hx : 0 ≤ x ∧ x < 40) :
    (¬ fWho R x < 0 → fWhyM R t x = 5) ∧ (fWho R x < 0 → ((fld R t 1 = 0 ∧ x / 4 < R 1) → fWhyM R t x = 1) ∧ (¬ (fld R t 1 = 0 ∧ x / 4 < R 1) → ((fJoy R t x + 100 < fJo R t + 100 → fWhyM R t x = 6) ∧ (¬ fJoy R t x + 100 < fJo R t + 100 → fWhyM R t x = 0)))) := by
  have ej := j100 (j200 (fJoy_b h3 hF ht hx)) (j200 (fJo_b h3 hT hF ht))
  unfold fWhyM
  refine ⟨fun q => if_pos (Int32.not_lt.mp q), fun q => ?_⟩
  have q0 : ¬ 0 ≤ fWho R x := Int32.not_le.mpr q
  rw [if_neg q0]
  have em : fMay R t x ↔ ¬ (fld R t 1 = 0 ∧ x / 4 < R 1) := by
    unfold fMay
    constructor
    · intro z w
      rcases z with z | z
      · rw [w.1] at z
        exact absurd z (by decide)
      · exact absurd w.2 (Int32.not_lt.mpr z)
    · intro z
      by_cases q1 : fld R t 1 = 0
      · exact Or.inr (Int32.not_lt.mp (fun w => z ⟨q1, w⟩))
      · rcases (hT t ht).1 with w | w
        · exact absurd w q1
        · exact Or.inl w
  refine ⟨fun z => if_pos (fun w => em.mp w z), fun z => ?_⟩
  rw [if_neg (fun w => w (em.mpr z))]
  refine ⟨fun w => if_pos (ej.mp w), fun w => if_neg (fun v => w (ej.mpr v))⟩
theorem mv_0le (R : gW) (t : Nat) (x : Int32) : ¬ 0 < fWhyM R t x ↔ fWhyM R t x = 0 := by
  have := why_0 R t x
  constructor
  · intro h
    exact Decidable.not_not.mp (fun z => h (this.mpr z))
  · intro h z
    exact this.mp z h
/-- what the seat k's turn comes to -/
def mvG (B n c s : Nat) (h0 : jv_H) (K : jK) (t k : Nat) (ρ : gS) : Prop := ∀ (h : jv_H) (τ : gS) (b : Int32) (r5 r6 r7 r8 r9 r10 : Option Value), Sm ρ τ → b = mvB (ρ 324) t (k + 1) → LX B n τ [] c s h0 h → jE 195 8 [some (.ref B), some (.int (iN t)), some (.int b), some (.int 1), some (.int (iN (k + 1))), r5, r6, r7, r8, r9, r10] [] h K
theorem mv_e {h : jv_H} {k : Nat} {τ : gS} (M : MR ρ t m) (hk : k < 4 * m) (hG : mvG B n c s h0 K t k ρ) {b : Int32} (hb : b = mvB (ρ 324) t (k + 1)) (hs : Sm ρ τ) (hx : LX B n τ [] c s h0 h) {w5 w6 w7 w8 w9 w10 : Option Value} : jE 195 224 [some (.ref B), some (.int (iN t)), some (.int b), some (.int 1), some (.int (iN k)), w5, w6, w7, w8, w9, w10] [.int 1] h K := by
  refine mv_224 hx (fun h1 hx1 => ?_)
  rw [show iN k + 1 = iN (k + 1) from iN_add k 1]
  exact hG h1 τ b _ _ _ _ _ _ hs hb hx1
theorem mv_d {h : jv_H} {k : Nat} (M : MR ρ t m) (hk : k < 4 * m) (hG : mvG B n c s h0 K t k ρ) {b : Int32} (hb : b = mvB (ρ 324) t (k + 1)) (hx : LX B n ρ [] c s h0 h) {w9 w10 : Option Value} : jE 195 127 [some (.ref B), some (.int (iN t)), some (.int b), some (.int 1), some (.int (iN k)), some (.int (fWhyM (ρ 324) t (iN k))), some (.int (fJo (ρ 324) t + 100)), some (.int (fJoy (ρ 324) t (iN k) + 100)), some (.int (fWhyM (ρ 324) t (iN k))), w9, w10] [] h K := by
  have M0 := M
  obtain ⟨hi, sp, ht, hm, hm10⟩ := M
  have h3 := hi.1.1.1
  obtain ⟨e3, l20⟩ := nM_of h3
  have hS := isS_i hm hm10 hk
  refine mv_127 hx (fun h1 hx1 => ?_)
  rw [vO_i h3 ht (by decide)]
  have eg : gMov (ρ 324) (iN t) (iN k) ↔ fWhyM (ρ 324) t (iN k) = 0 := by
    rw [← mv_0le]
    unfold gMov
    rw [iN_nat (by omega)]
    exact ⟨fun z => z.2, fun z => ⟨⟨isT_i h3 ht, hS⟩, z⟩⟩
  have ea : aMov (ρ 324) (iN t) (iN k) = if 0 < fWhyM (ρ 324) t (iN k) then -10 - fWhyM (ρ 324) t (iN k) else fJoy (ρ 324) t (iN k) - fJo (ρ 324) t := by
    unfold aMov
    rw [if_pos ⟨isT_i h3 ht, hS⟩, iN_nat (by omega)]
  rw [ea]
  by_cases q : fWhyM (ρ 324) t (iN k) = 0
  · have g : gMov (ρ 324) (iN t) (iN k) := eg.mpr q
    have n0 := (mv_0le (ρ 324) t (iN k)).mpr q
    rw [if_neg n0]
    obtain ⟨us, u0, u1⟩ := un_op (N := nMov (ρ 324) (iN t) (iN k)) hi.1 hi.2.2.1 g
    have af := agf_mov (x := iN k) hi.1.1.2 l20 ht
    have eN : hOp ρ (gMov (ρ 324) (iN t) (iN k)) (nMov (ρ 324) (iN t) (iN k)) 324 = nMov (ρ 324) (iN t) (iN k) := hOp_324 g
    have en : nM (nMov (ρ 324) (iN t) (iN k)) = nM (ρ 324) := (agf_n af).trans nM_rup
    have hfree : fWho (ρ 324) (iN k) < 0 := by
      refine Decidable.not_not.mp (fun z => ?_)
      have := (mv_why l20 h3 hi.2.2.2.2.1 hi.2.2.2.2.2.1 ht (isS_of hi.2.2.2.1 hS)).1 z
      rw [q] at this
      exact absurd this (by decide)
    have hfr : ∀ o, o < nM (ρ 324) → ¬ fld (ρ 324) o 0 = iN k := by
      rcases who_c l20 (iN k) with ⟨-, h⟩ | ⟨o, ho, e, -⟩
      · exact h
      · rw [e] at hfree
        exact absurd ((iN_lt (m := 0) (by omega) (by decide)).mp hfree) (Nat.not_lt_zero _)
    obtain ⟨N, hN⟩ : ∃ N, nMov (ρ 324) (iN t) (iN k) = N := ⟨_, rfl⟩
    rw [hN] at eN af en hx1 us u0 u1
    have h3N : 0 ≤ N 3 ∧ N 3 ≤ 20 := by
      rw [af.1 3 (by decide) (by decide), rup_ne (by omega)]
      exact h3
    have e0N : N 0 = iN m := by
      rw [af.1 0 (by decide) (by decide), rup_ne (by omega)]
      exact hm
    have fN : ∀ o, o < nM (ρ 324) → fld N o 0 = if o = t then iN k else fld (ρ 324) o 0 := fun o ho => by
      rw [af.2 o (by rw [en]; exact ho) 0 (by decide)]
      by_cases z : o = t
      · rw [if_pos z, z, fld_rup (by decide) (by decide), if_pos ⟨rfl, rfl⟩]
      · rw [if_neg z, fld_sea0 z]
    have dN : ∀ a b, a < nM N → b < nM N → fld N a 0 = fld N b 0 → a = b := fun a b ha hb w => by
      rw [en] at ha hb
      rw [fN a ha, fN b hb] at w
      by_cases z1 : a = t
      · by_cases z2 : b = t
        · rw [z1, z2]
        · rw [if_pos z1, if_neg z2] at w
          exact absurd w.symm (hfr b hb)
      · by_cases z2 : b = t
        · rw [if_neg z1, if_pos z2] at w
          exact absurd w (hfr a ha)
        · rw [if_neg z1, if_neg z2] at w
          exact sp.1.1.2.1 a b ha hb w
    have c1 : fJoy (ρ 324) t (iN k) - fJo (ρ 324) t = fJoy (ρ 324) t (iN k) + 100 - (fJo (ρ 324) t + 100) := by grind
    have c2 : vO9 N (iN t) = fJoy (ρ 324) t (iN k) + 100 := by rw [vO9_i h3N (by rw [en]; exact ht), agf_Jo af (by rw [en]; exact ht), jo_seat]
    have c3 : aAt N (fld (ρ 324) t 0) = -2 := by
      have hsf : isS N (fld (ρ 324) t 0) := by
        obtain ⟨s1, s2⟩ := sp.1.1.1 t ht
        refine ⟨s1, ?_⟩
        rw [e0N, ← hm]
        have := hi.2.2.2.1
        grind
      rw [aAt_i hsf]
      refine who_n (fun o ho => ?_)
      rw [en] at ho
      rw [fN o ho]
      by_cases z : o = t
      · rw [if_pos z]
        intro w
        exact hfr t ht w.symm
      · rw [if_neg z]
        exact fun w => z (sp.1.1.2.1 o t ho ht w)
    have c4 : aAt N (iN k) = iN t := by
      rw [aAt_i (isS_i e0N hm10 hk)]
      have e1 := fN t ht
      rw [if_pos rfl] at e1
      rw [← e1]
      exact who_t dN (by rw [en]; exact l20) (by rw [en]; exact ht)
    refine mv_142 hx1 ?_
    rw [eN, if_neg u0]
    exact ⟨rfl, fun _ => ⟨c1, c2, c3, c4, Int32.not_lt.mpr u1, fun h2 hx2 => mv_e M0 hk hG hb us hx2⟩, fun z => absurd z n0⟩
  · have g : ¬ gMov (ρ 324) (iN t) (iN k) := fun z => q (eg.mp z)
    have p0 := (why_0 (ρ 324) t (iN k)).mpr q
    rw [if_pos p0]
    rw [hOp_f g] at hx1
    exact mv_142 hx1 ⟨rfl, fun z => absurd p0 z, fun _ => ⟨rfl, fun h2 hx2 => mv_e M0 hk hG hb Sm.rf hx2⟩⟩
theorem mv_c {h : jv_H} {k : Nat} (M : MR ρ t m) (hk : k < 4 * m) (hG : mvG B n c s h0 K t k ρ) (hx : LX B n ρ [] c s h0 h) {rs : Int32} (hr : fWhyM (ρ 324) t (iN k) = rs) {w8 w9 w10 : Option Value} : jE 195 102 [some (.ref B), some (.int (iN t)), some (.int (mvB (ρ 324) t k)), some (.int 1), some (.int (iN k)), some (.int (aWm (ρ 324) (iN t) (iN k))), some (.int (vO9 (ρ 324) (iN t))), some (.int (aJa (ρ 324) (iN t) (iN k))), w8, w9, w10] [.int rs] h K := by
  have M0 := M
  obtain ⟨hi, sp, ht, hm, hm10⟩ := M
  have h3 := hi.1.1.1
  obtain ⟨e3, l20⟩ := nM_of h3
  have hS := isS_i hm hm10 hk
  subst hr
  rw [aWm_i h3 ht hS, vO9_i h3 ht, aJa_i h3 ht hS]
  have eb : mvB (ρ 324) t (k + 1) = brS (ρ 324) t k (mvB (ρ 324) t k) := rfl
  refine mv_102 hx ⟨fun z h1 hx1 => ?_, fun z => ⟨fun y h1 hx1 => ?_, fun y => ⟨fun v h1 hx1 => ?_, fun v h1 hx1 => ?_⟩⟩⟩
  · refine mv_d M0 hk hG ?_ hx1
    rw [eb]
    unfold brS
    rw [if_pos ((why_0 _ _ _).mpr z)]
  · refine mv_d M0 hk hG ?_ hx1
    rw [eb]
    unfold brS
    rw [if_neg ((mv_0le _ _ _).mpr z), if_pos y]
  · have hbj : ∃ j, j < k ∧ mvB (ρ 324) t k = iN j := by
      rcases mvB_b (ρ 324) t k (by omega) with e | e
      · rw [e] at y
        exact absurd (by decide) y
      · exact e
    obtain ⟨j, hj, ej⟩ := hbj
    have hSj := isS_i hm hm10 (k := j) (by omega)
    refine mv_d M0 hk hG ?_ hx1
    rw [eb]
    unfold brS
    rw [if_neg ((mv_0le _ _ _).mpr z), if_neg y, if_neg (fun w => v ?_)]
    rw [ej, aJa_i h3 ht hSj]
    rw [ej] at w
    exact (j100 (j200 (fJoy_b h3 hi.2.2.2.2.1 ht (isS_of hi.2.2.2.1 hSj))) (j200 (fJoy_b h3 hi.2.2.2.2.1 ht (isS_of hi.2.2.2.1 hS)))).mpr w
  · have hbj : ∃ j, j < k ∧ mvB (ρ 324) t k = iN j := by
      rcases mvB_b (ρ 324) t k (by omega) with e | e
      · rw [e] at y
        exact absurd (by decide) y
      · exact e
    obtain ⟨j, hj, ej⟩ := hbj
    have hSj := isS_i hm hm10 (k := j) (by omega)
    refine mv_d M0 hk hG ?_ hx1
    rw [eb]
    unfold brS
    rw [if_neg ((mv_0le _ _ _).mpr z), if_neg y, if_pos ?_]
    rw [ej, aJa_i h3 ht hSj] at v
    rw [ej]
    exact (j100 (j200 (fJoy_b h3 hi.2.2.2.2.1 ht (isS_of hi.2.2.2.1 hSj))) (j200 (fJoy_b h3 hi.2.2.2.2.1 ht (isS_of hi.2.2.2.1 hS)))).mp v
theorem mv_b (hK : ∀ (τ : gS) h1, Sm ρ τ → LX B n τ [] c s h0 h1 → K (some (.int 1)) h1) : ∀ (d k : Nat), k + d = 4 * m → ∀ {h : jv_H} {τ : gS} {b : Int32} {w5 w6 w7 w8 w9 w10 : Option Value}, Sm ρ τ → MR τ t m → b = mvB (ρ 324) t k → LX B n τ [] c s h0 h → jE 195 8 [some (.ref B), some (.int (iN t)), some (.int b), some (.int 1), some (.int (iN k)), w5, w6, w7, w8, w9, w10] [] h K := by
  intro d
  induction d with
  | zero =>
    intro k hk h τ b w5 w6 w7 w8 w9 w10 hs M hb hx
    have hk : k = 4 * m := by omega
    have M0 := M
    obtain ⟨hi, sp, ht, hm, hm10⟩ := M
    have h3 := hi.1.1.1
    have e4 : 4 * τ 324 0 = iN (4 * m) := by rw [hm, show (4 : Int32) = iN 4 from rfl, iN_mul]
    refine mv_8 hx ⟨fun _ => ⟨?_, fun h1 hx1 => hK τ h1 hs hx1⟩, fun z => ?_⟩
    · rw [vBs_i h3 ht, hb, hk, ← hs.1]
      unfold rBs mvB
      rw [hm, iN_nat (by omega)]
    · rw [e4, hk] at z
      exact absurd ((iN_lt (by omega) (by omega)).mp z) (Nat.lt_irrefl _)
  | succ d ih =>
    intro k hk h τ b w5 w6 w7 w8 w9 w10 hs M hb hx
    have hk4 : k < 4 * m := by omega
    have M0 := M
    obtain ⟨hi, sp, ht, hm, hm10⟩ := M
    have h3 := hi.1.1.1
    obtain ⟨e3, l20⟩ := nM_of h3
    have hS := isS_i hm hm10 hk4
    have e4 : 4 * τ 324 0 = iN (4 * m) := by rw [hm, show (4 : Int32) = iN 4 from rfl, iN_mul]
    have eR := hs.1
    rw [← eR] at hb
    subst hb
    have hG : mvG B n c s h0 K t k τ := fun h1 κ b1 r5 r6 r7 r8 r9 r10 hs1 hb1 hx1 => ih (k + 1) (by omega) (hs.trans hs1) (M0.sm hs1 hx1.inf) (by rw [hb1, eR]) hx1
    obtain ⟨y1, y2⟩ := mv_why l20 h3 hi.2.2.2.2.1 hi.2.2.2.2.2.1 ht (isS_of hi.2.2.2.1 hS)
    have ew : aAt (τ 324) (iN k) = fWho (τ 324) (iN k) := aAt_i hS
    have e1 : vO (τ 324) (iN t) 1 = fld (τ 324) t 1 := vO_i h3 ht (by decide)
    have ej : aJa (τ 324) (iN t) (iN k) < vO9 (τ 324) (iN t) ↔ fJoy (τ 324) t (iN k) + 100 < fJo (τ 324) t + 100 := by rw [aJa_i h3 ht hS, vO9_i h3 ht]
    refine mv_8 hx ⟨fun z => ?_, fun _ => ⟨fun z => ⟨fun y => ⟨fun v h1 hx1 => ?_, fun v h1 hx1 => ?_⟩, fun y => ⟨fun u => ⟨fun v h1 hx1 => ?_, fun v h1 hx1 => ?_⟩, fun u h1 hx1 => ?_⟩⟩, fun z h1 hx1 => ?_⟩⟩
    · rw [e4] at z
      exact absurd ((iN_lt (by omega) (by omega)).mpr hk4) z
    · rw [ew] at z
      rw [e1] at y
      exact mv_c M0 hk4 hG hx1 (((y2 z).2 (fun w => y w.1)).2 (fun w => v (ej.mpr w)))
    · rw [ew] at z
      rw [e1] at y
      exact mv_c M0 hk4 hG hx1 (((y2 z).2 (fun w => y w.1)).1 (ej.mp v))
    · rw [ew] at z
      exact mv_c M0 hk4 hG hx1 (((y2 z).2 (fun w => u w.2)).2 (fun w => v (ej.mpr w)))
    · rw [ew] at z
      exact mv_c M0 hk4 hG hx1 (((y2 z).2 (fun w => u w.2)).1 (ej.mp v))
    · rw [ew] at z
      rw [e1] at y
      exact mv_c M0 hk4 hG hx1 ((y2 z).1 ⟨y, u⟩)
    · rw [ew] at z
      exact mv_c M0 hk4 hG hx1 (y1 z)
theorem lm_moves (sp : SP ρ) (ht : t < nM (ρ 324)) : LMx 195 [some (.ref B), some (.int (iN t)), none, none, none, none, none, none, none, none, none] B n ρ c s (.int 1) c s := fun h hx => by
  have hi := hx.inf
  obtain ⟨m, hm10, hm, -⟩ := row_n hi.2.2.2.1
  exact mv_0 hx (fun h1 hx1 => mv_b (m := m) (fun τ h2 hs hx2 => ⟨rfl, τ, hs, hx2⟩) (4 * m) 0 (Nat.zero_add _) Sm.rf ⟨hi, sp, ht, hm, hm10⟩ rfl hx1)
end MV
