/-! seats(x) -/
theorem se_0 {B n c s : Nat} {ρ : gS} {h0 h : jv_H} {K : jK} (hx : LX B n ρ [] c s h0 h) (T : ((vO (ρ 324) (ρ 324 3) 0) = (-1) ∧ ((aAt (ρ 324) (4 * (ρ 324 0))) = (-1) ∧ (∀ h1, LX B n ρ [] c s h0 h1 → jE 193 55 [some (.ref B), some (.int (ρ 324 0)), some (.int (ρ 324 3)), some (.int 0), some (.int 1), some (.int 0), none, none, none, none, none, none, none, none, none, none, none, none, none] [] h1 K)))) : jE 193 0 [some (.ref B), none, none, none, none, none, none, none, none, none, none, none, none, none, none, none, none, none, none] [] h K := by
  refine jx_blk (by decide) [(.aload_n 0, 1), (.iconst 0, 1)] (pc' := 2) (Lv' := [some (.ref B), none, none, none, none, none, none, none, none, none, none, none, none, none, none, none, none, none, none]) (st' := [.int 0, .ref B]) (by decide +kernel) rfl ?_
  refine lx_call (z := 123) (na := 2) (mL := 2) (v := .int (ρ 324 0)) (ρ' := ρ) (r := []) [0] (by decide +kernel) hx xr_v0 hx.1.1 rfl rfl (fun _ => rfl) (Nat.le_of_ble_eq_true rfl) (fun h1 hx2 => ?_)
  refine jx_blk (by decide) [(.istore_n 1, 1), (.aload_n 0, 1), (.iconst 3, 1)] (pc' := 8) (Lv' := [some (.ref B), some (.int (ρ 324 0)), none, none, none, none, none, none, none, none, none, none, none, none, none, none, none, none, none]) (st' := [.int 3, .ref B]) (by decide +kernel) rfl ?_
  refine lx_call (z := 123) (na := 2) (mL := 2) (v := .int (ρ 324 3)) (ρ' := ρ) (r := []) [3] (by decide +kernel) hx2 xr_v3 hx2.1.1 rfl rfl (fun _ => rfl) (Nat.le_of_ble_eq_true rfl) (fun h3 hx4 => ?_)
  refine jx_blk (by decide) [(.istore_n 2, 1), (.iconst 0, 1), (.istore_n 3, 1), (.aload_n 0, 1), (.iload_n 2, 1), (.iconst 0, 1)] (pc' := 17) (Lv' := [some (.ref B), some (.int (ρ 324 0)), some (.int (ρ 324 3)), some (.int 0), none, none, none, none, none, none, none, none, none, none, none, none, none, none, none]) (st' := [.int 0, .int (ρ 324 3), .ref B]) (by decide +kernel) rfl ?_
  refine lx_call (z := 124) (na := 3) (mL := 4) (v := .int (vO (ρ 324) (ρ 324 3) 0)) (ρ' := ρ) (r := []) [0, (ρ 324 3)] (by decide +kernel) hx4 xr_o0 hx4.1.1 rfl rfl (fun _ => rfl) (Nat.le_of_ble_eq_true rfl) (fun h5 hx6 => ?_)
  refine jx_blk (by decide) [(.iconst (-1), 1)] (pc' := 21) (Lv' := [some (.ref B), some (.int (ρ 324 0)), some (.int (ρ 324 3)), some (.int 0), none, none, none, none, none, none, none, none, none, none, none, none, none, none, none]) (st' := [.int (-1), .int (vO (ρ 324) (ρ 324 3) 0)]) (by decide +kernel) rfl ?_
  refine jx_ic_ne (off := 28) (b := 49) (by decide) (by decide +kernel) (by decide) (fun e => absurd T.1 e) (fun _ => ?_)
  have t8 := T.2
  refine jx_blk (by decide) [(.aload_n 0, 1), (.iconst 4, 1), (.iload_n 1, 1), (.imul, 1)] (pc' := 28) (Lv' := [some (.ref B), some (.int (ρ 324 0)), some (.int (ρ 324 3)), some (.int 0), none, none, none, none, none, none, none, none, none, none, none, none, none, none, none]) (st' := [.int (4 * (ρ 324 0)), .ref B]) (by decide +kernel) rfl ?_
  refine lx_call (z := 126) (na := 2) (mL := 2) (v := .int (aAt (ρ 324) (4 * (ρ 324 0)))) (ρ' := ρ) (r := []) [(4 * (ρ 324 0))] (by decide +kernel) hx6 xr_at hx6.1.1 rfl rfl (fun _ => rfl) (Nat.le_of_ble_eq_true rfl) (fun h9 hx10 => ?_)
  refine jx_blk (by decide) [(.iconst (-1), 1)] (pc' := 32) (Lv' := [some (.ref B), some (.int (ρ 324 0)), some (.int (ρ 324 3)), some (.int 0), none, none, none, none, none, none, none, none, none, none, none, none, none, none, none]) (st' := [.int (-1), .int (aAt (ρ 324) (4 * (ρ 324 0)))]) (by decide +kernel) rfl ?_
  refine jx_ic_ne (off := 17) (b := 49) (by decide) (by decide +kernel) (by decide) (fun e => absurd t8.1 e) (fun _ => ?_)
  have t12 := t8.2
  refine jx_blk (by decide) [(.aload_n 0, 1), (.bipush 17, 2)] (pc' := 38) (Lv' := [some (.ref B), some (.int (ρ 324 0)), some (.int (ρ 324 3)), some (.int 0), none, none, none, none, none, none, none, none, none, none, none, none, none, none, none]) (st' := [.int 17, .ref B]) (by decide +kernel) rfl ?_
  refine lx_call (z := 123) (na := 2) (mL := 2) (v := .int (-1)) (ρ' := ρ) (r := []) [17] (by decide +kernel) hx10 xr_v17 hx10.1.1 rfl rfl (fun _ => rfl) (Nat.le_of_ble_eq_true rfl) (fun h13 hx14 => ?_)
  refine jx_blk (by decide) [(.iconst (-1), 1)] (pc' := 42) (Lv' := [some (.ref B), some (.int (ρ 324 0)), some (.int (ρ 324 3)), some (.int 0), none, none, none, none, none, none, none, none, none, none, none, none, none, none, none]) (st' := [.int (-1), .int (-1)]) (by decide +kernel) rfl ?_
  refine jx_ic_ne (off := 7) (b := 49) (by decide) (by decide +kernel) (by decide) (fun e => absurd e (by decide)) (fun _ => ?_)
  refine jx_blk (by decide) [(.iconst 1, 1)] (pc' := 46) (Lv' := [some (.ref B), some (.int (ρ 324 0)), some (.int (ρ 324 3)), some (.int 0), none, none, none, none, none, none, none, none, none, none, none, none, none, none, none]) (st' := [.int 1]) (by decide +kernel) rfl ?_
  refine jx_goto (off := 4) (b := 50) (by decide) (by decide +kernel) (by decide) ?_
  refine jx_blk (by decide) [(.istore 4, 2), (.iconst 0, 1), (.istore 5, 2)] (pc' := 55) (Lv' := [some (.ref B), some (.int (ρ 324 0)), some (.int (ρ 324 3)), some (.int 0), some (.int 1), some (.int 0), none, none, none, none, none, none, none, none, none, none, none, none, none]) (st' := []) (by decide +kernel) rfl ?_
  exact t12 _ hx14

theorem se_55 {B n c s : Nat} {ρ : gS} {h0 h : jv_H} {K : jK} {ro m fr k : Int32} {r6 : Option Value} (hx : LX B n ρ [] c s h0 h) (T : ((¬ k < (4 * ro) → (∀ h1, LX B n ρ [] c s h0 h1 → jE 193 137 [some (.ref B), some (.int ro), some (.int m), some (.int fr), some (.int 1), some (.int k), r6, none, none, none, none, none, none, none, none, none, none, none, none] [] h1 K)) ∧ (k < (4 * ro) → ((¬ (aAt (ρ 324) k) = (-2) → ((vO (ρ 324) (aAt (ρ 324) k) 0) = k ∧ (((vO (ρ 324) (aAt (ρ 324) k) 1) = 1 → (∀ h1, LX B n ρ [] c s h0 h1 → jE 193 55 [some (.ref B), some (.int ro), some (.int m), some (.int fr), some (.int 1), some (.int (k + 1)), some (.int (aAt (ρ 324) k)), none, none, none, none, none, none, none, none, none, none, none, none] [] h1 K)) ∧ (¬ (vO (ρ 324) (aAt (ρ 324) k) 1) = 1 → (¬ (k / 4) < (ρ 324 1) ∧ (∀ h1, LX B n ρ [] c s h0 h1 → jE 193 55 [some (.ref B), some (.int ro), some (.int m), some (.int fr), some (.int 1), some (.int (k + 1)), some (.int (aAt (ρ 324) k)), none, none, none, none, none, none, none, none, none, none, none, none] [] h1 K)))))) ∧ ((aAt (ρ 324) k) = (-2) → (∀ h1, LX B n ρ [] c s h0 h1 → jE 193 55 [some (.ref B), some (.int ro), some (.int m), some (.int (fr + 1)), some (.int 1), some (.int (k + 1)), some (.int (aAt (ρ 324) k)), none, none, none, none, none, none, none, none, none, none, none, none] [] h1 K)))))) : jE 193 55 [some (.ref B), some (.int ro), some (.int m), some (.int fr), some (.int 1), some (.int k), r6, none, none, none, none, none, none, none, none, none, none, none, none] [] h K := by
  refine jx_blk (by decide) [(.iload 5, 2), (.iconst 4, 1), (.iload_n 1, 1), (.imul, 1)] (pc' := 60) (Lv' := [some (.ref B), some (.int ro), some (.int m), some (.int fr), some (.int 1), some (.int k), r6, none, none, none, none, none, none, none, none, none, none, none, none]) (st' := [.int (4 * ro), .int k]) (by decide +kernel) rfl ?_
  refine jx_ic_ge (off := 77) (b := 137) (by decide) (by decide +kernel) (by decide) (fun e1 => ?_) (fun e1 => ?_)
  · have t2 := T.1 e1
    exact t2 _ hx
  · have t3 := T.2 e1
    refine jx_blk (by decide) [(.iload 4, 2)] (pc' := 65) (Lv' := [some (.ref B), some (.int ro), some (.int m), some (.int fr), some (.int 1), some (.int k), r6, none, none, none, none, none, none, none, none, none, none, none, none]) (st' := [.int 1]) (by decide +kernel) rfl ?_
    refine jx_if_eq (off := 72) (b := 137) (by decide) (by decide +kernel) (by decide) (fun e => absurd e (by decide)) (fun _ => ?_)
    refine jx_blk (by decide) [(.aload_n 0, 1), (.iload 5, 2)] (pc' := 71) (Lv' := [some (.ref B), some (.int ro), some (.int m), some (.int fr), some (.int 1), some (.int k), r6, none, none, none, none, none, none, none, none, none, none, none, none]) (st' := [.int k, .ref B]) (by decide +kernel) rfl ?_
    refine lx_call (z := 126) (na := 2) (mL := 2) (v := .int (aAt (ρ 324) k)) (ρ' := ρ) (r := []) [k] (by decide +kernel) hx xr_at hx.1.1 rfl rfl (fun _ => rfl) (Nat.le_of_ble_eq_true rfl) (fun h4 hx5 => ?_)
    refine jx_blk (by decide) [(.istore 6, 2), (.iload 6, 2), (.bipush (-2), 2)] (pc' := 80) (Lv' := [some (.ref B), some (.int ro), some (.int m), some (.int fr), some (.int 1), some (.int k), some (.int (aAt (ρ 324) k)), none, none, none, none, none, none, none, none, none, none, none, none]) (st' := [.int (-2), .int (aAt (ρ 324) k)]) (by decide +kernel) rfl ?_
    refine jx_ic_ne (off := 9) (b := 89) (by decide) (by decide +kernel) (by decide) (fun e6 => ?_) (fun e6 => ?_)
    · have t7 := t3.1 e6
      refine jx_blk (by decide) [(.aload_n 0, 1), (.iload 6, 2), (.iconst 0, 1)] (pc' := 93) (Lv' := [some (.ref B), some (.int ro), some (.int m), some (.int fr), some (.int 1), some (.int k), some (.int (aAt (ρ 324) k)), none, none, none, none, none, none, none, none, none, none, none, none]) (st' := [.int 0, .int (aAt (ρ 324) k), .ref B]) (by decide +kernel) rfl ?_
      refine lx_call (z := 124) (na := 3) (mL := 4) (v := .int (vO (ρ 324) (aAt (ρ 324) k) 0)) (ρ' := ρ) (r := []) [0, (aAt (ρ 324) k)] (by decide +kernel) hx5 xr_o0 hx5.1.1 rfl rfl (fun _ => rfl) (Nat.le_of_ble_eq_true rfl) (fun h9 hx10 => ?_)
      refine jx_blk (by decide) [(.iload 5, 2)] (pc' := 98) (Lv' := [some (.ref B), some (.int ro), some (.int m), some (.int fr), some (.int 1), some (.int k), some (.int (aAt (ρ 324) k)), none, none, none, none, none, none, none, none, none, none, none, none]) (st' := [.int k, .int (vO (ρ 324) (aAt (ρ 324) k) 0)]) (by decide +kernel) rfl ?_
      refine jx_ic_ne (off := 30) (b := 128) (by decide) (by decide +kernel) (by decide) (fun e => absurd t7.1 e) (fun _ => ?_)
      have t12 := t7.2
      refine jx_blk (by decide) [(.aload_n 0, 1), (.iload 6, 2), (.iconst 1, 1)] (pc' := 105) (Lv' := [some (.ref B), some (.int ro), some (.int m), some (.int fr), some (.int 1), some (.int k), some (.int (aAt (ρ 324) k)), none, none, none, none, none, none, none, none, none, none, none, none]) (st' := [.int 1, .int (aAt (ρ 324) k), .ref B]) (by decide +kernel) rfl ?_
      refine lx_call (z := 124) (na := 3) (mL := 4) (v := .int (vO (ρ 324) (aAt (ρ 324) k) 1)) (ρ' := ρ) (r := []) [1, (aAt (ρ 324) k)] (by decide +kernel) hx10 xr_o1 hx10.1.1 rfl rfl (fun _ => rfl) (Nat.le_of_ble_eq_true rfl) (fun h13 hx14 => ?_)
      refine jx_blk (by decide) [(.iconst 1, 1)] (pc' := 109) (Lv' := [some (.ref B), some (.int ro), some (.int m), some (.int fr), some (.int 1), some (.int k), some (.int (aAt (ρ 324) k)), none, none, none, none, none, none, none, none, none, none, none, none]) (st' := [.int 1, .int (vO (ρ 324) (aAt (ρ 324) k) 1)]) (by decide +kernel) rfl ?_
      refine jx_ic_eq (off := 15) (b := 124) (by decide) (by decide +kernel) (by decide) (fun e15 => ?_) (fun e15 => ?_)
      · have t16 := t12.1 e15
        refine jx_blk (by decide) [(.iconst 1, 1)] (pc' := 125) (Lv' := [some (.ref B), some (.int ro), some (.int m), some (.int fr), some (.int 1), some (.int k), some (.int (aAt (ρ 324) k)), none, none, none, none, none, none, none, none, none, none, none, none]) (st' := [.int 1]) (by decide +kernel) rfl ?_
        refine jx_goto (off := 4) (b := 129) (by decide) (by decide +kernel) (by decide) ?_
        refine jx_blk (by decide) [(.istore 4, 2), (.iinc 5 1, 3)] (pc' := 134) (Lv' := [some (.ref B), some (.int ro), some (.int m), some (.int fr), some (.int 1), some (.int (k + 1)), some (.int (aAt (ρ 324) k)), none, none, none, none, none, none, none, none, none, none, none, none]) (st' := []) (by decide +kernel) rfl ?_
        refine jx_goto (off := (-79)) (b := 55) (by decide) (by decide +kernel) (by decide) ?_
        exact t16 _ hx14
      · have t17 := t12.2 e15
        refine jx_blk (by decide) [(.iload 5, 2), (.iconst 4, 1), (.idiv, 1), (.aload_n 0, 1), (.iconst 1, 1)] (pc' := 118) (Lv' := [some (.ref B), some (.int ro), some (.int m), some (.int fr), some (.int 1), some (.int k), some (.int (aAt (ρ 324) k)), none, none, none, none, none, none, none, none, none, none, none, none]) (st' := [.int 1, .ref B, .int (k / 4)]) (by decide +kernel) rfl ?_
        refine lx_call (z := 123) (na := 2) (mL := 2) (v := .int (ρ 324 1)) (ρ' := ρ) (r := [.int (k / 4)]) [1] (by decide +kernel) hx14 xr_v1 hx14.1.1 rfl rfl (fun _ => rfl) (Nat.le_of_ble_eq_true rfl) (fun h18 hx19 => ?_)
        refine jx_ic_lt (off := 7) (b := 128) (by decide) (by decide +kernel) (by decide) (fun e => absurd e t17.1) (fun _ => ?_)
        have t21 := t17.2
        refine jx_blk (by decide) [(.iconst 1, 1)] (pc' := 125) (Lv' := [some (.ref B), some (.int ro), some (.int m), some (.int fr), some (.int 1), some (.int k), some (.int (aAt (ρ 324) k)), none, none, none, none, none, none, none, none, none, none, none, none]) (st' := [.int 1]) (by decide +kernel) rfl ?_
        refine jx_goto (off := 4) (b := 129) (by decide) (by decide +kernel) (by decide) ?_
        refine jx_blk (by decide) [(.istore 4, 2), (.iinc 5 1, 3)] (pc' := 134) (Lv' := [some (.ref B), some (.int ro), some (.int m), some (.int fr), some (.int 1), some (.int (k + 1)), some (.int (aAt (ρ 324) k)), none, none, none, none, none, none, none, none, none, none, none, none]) (st' := []) (by decide +kernel) rfl ?_
        refine jx_goto (off := (-79)) (b := 55) (by decide) (by decide +kernel) (by decide) ?_
        exact t21 _ hx19
    · have t8 := t3.2 e6
      refine jx_blk (by decide) [(.iinc 3 1, 3)] (pc' := 86) (Lv' := [some (.ref B), some (.int ro), some (.int m), some (.int (fr + 1)), some (.int 1), some (.int k), some (.int (aAt (ρ 324) k)), none, none, none, none, none, none, none, none, none, none, none, none]) (st' := []) (by decide +kernel) rfl ?_
      refine jx_goto (off := 45) (b := 131) (by decide) (by decide +kernel) (by decide) ?_
      refine jx_blk (by decide) [(.iinc 5 1, 3)] (pc' := 134) (Lv' := [some (.ref B), some (.int ro), some (.int m), some (.int (fr + 1)), some (.int 1), some (.int (k + 1)), some (.int (aAt (ρ 324) k)), none, none, none, none, none, none, none, none, none, none, none, none]) (st' := []) (by decide +kernel) rfl ?_
      refine jx_goto (off := (-79)) (b := 55) (by decide) (by decide +kernel) (by decide) ?_
      exact t8 _ hx5

theorem se_137 {B n c s : Nat} {ρ : gS} {h0 h : jv_H} {K : jK} {ro m fr : Int32} {r5 r6 : Option Value} (hx : LX B n ρ [] (c + 12) (s + 104) h0 h) (T : (∀ q1 : Nat, (∀ q5 : Nat, (∀ q9 : Nat, (∀ q13 : Nat, (∀ q17 : Nat, (∀ p21 : Nat, (∀ h1, LY B n ρ [(q17, 10, fun _ => 0), (q13, 10, fun _ => 0), (q9, 6, fun _ => 0), (q5, 6, fun _ => 0), (q1, 6, fun _ => 0)] p21 (fun _ _ => 0) c s h0 h1 → jE 193 189 [some (.ref B), some (.int ro), some (.int m), some (.int fr), some (.int 1), some (.int 0), some (.int 0), some (.int 0), some (.ref q1), some (.ref q5), some (.ref q9), some (.ref q13), some (.ref q17), some (.ref p21), some (.int 0), none, none, none, none] [] h1 K)))))))) : jE 193 137 [some (.ref B), some (.int ro), some (.int m), some (.int fr), some (.int 1), r5, r6, none, none, none, none, none, none, none, none, none, none, none, none] [] h K := by
  refine jx_blk (by decide) [(.iconst 0, 1), (.istore 5, 2), (.iconst 0, 1), (.istore 6, 2), (.iconst 0, 1), (.istore 7, 2), (.bipush 6, 2)] (pc' := 148) (Lv' := [some (.ref B), some (.int ro), some (.int m), some (.int fr), some (.int 1), some (.int 0), some (.int 0), some (.int 0), none, none, none, none, none, none, none, none, none, none, none]) (st' := [.int 6]) (by decide +kernel) rfl ?_
  refine lx_newi (k := 6) (by decide) (by decide +kernel) (by decide) hx (fun q1 h2 hx3 => ?_)
  have t4 := T q1
  refine jx_blk (by decide) [(.astore 8, 2), (.bipush 6, 2)] (pc' := 154) (Lv' := [some (.ref B), some (.int ro), some (.int m), some (.int fr), some (.int 1), some (.int 0), some (.int 0), some (.int 0), some (.ref q1), none, none, none, none, none, none, none, none, none, none]) (st' := [.int 6]) (by decide +kernel) rfl ?_
  refine lx_newi (k := 6) (by decide) (by decide +kernel) (by decide) hx3 (fun q5 h6 hx7 => ?_)
  have t8 := t4 q5
  refine jx_blk (by decide) [(.astore 9, 2), (.bipush 6, 2)] (pc' := 160) (Lv' := [some (.ref B), some (.int ro), some (.int m), some (.int fr), some (.int 1), some (.int 0), some (.int 0), some (.int 0), some (.ref q1), some (.ref q5), none, none, none, none, none, none, none, none, none]) (st' := [.int 6]) (by decide +kernel) rfl ?_
  refine lx_newi (k := 6) (by decide) (by decide +kernel) (by decide) hx7 (fun q9 h10 hx11 => ?_)
  have t12 := t8 q9
  refine jx_blk (by decide) [(.astore 10, 2), (.bipush 10, 2)] (pc' := 166) (Lv' := [some (.ref B), some (.int ro), some (.int m), some (.int fr), some (.int 1), some (.int 0), some (.int 0), some (.int 0), some (.ref q1), some (.ref q5), some (.ref q9), none, none, none, none, none, none, none, none]) (st' := [.int 10]) (by decide +kernel) rfl ?_
  refine lx_newi (k := 10) (by decide) (by decide +kernel) (by decide) hx11 (fun q13 h14 hx15 => ?_)
  have t16 := t12 q13
  refine jx_blk (by decide) [(.astore 11, 2), (.bipush 10, 2)] (pc' := 172) (Lv' := [some (.ref B), some (.int ro), some (.int m), some (.int fr), some (.int 1), some (.int 0), some (.int 0), some (.int 0), some (.ref q1), some (.ref q5), some (.ref q9), some (.ref q13), none, none, none, none, none, none, none]) (st' := [.int 10]) (by decide +kernel) rfl ?_
  refine lx_newi (k := 10) (by decide) (by decide +kernel) (by decide) hx15 (fun q17 h18 hx19 => ?_)
  have t20 := t16 q17
  refine jx_blk (by decide) [(.astore 12, 2), (.bipush 6, 2), (.bipush 10, 2)] (pc' := 180) (Lv' := [some (.ref B), some (.int ro), some (.int m), some (.int fr), some (.int 1), some (.int 0), some (.int 0), some (.int 0), some (.ref q1), some (.ref q5), some (.ref q9), some (.ref q13), some (.ref q17), none, none, none, none, none, none]) (st' := [.int 10, .int 6]) (by decide +kernel) rfl ?_
  refine ly_new (by decide) (by decide) (by decide +kernel) hx19 (fun p21 h22 hx23 => ?_)
  have t24 := t20 p21
  refine jx_blk (by decide) [(.astore 13, 2), (.iconst 0, 1), (.istore 14, 2)] (pc' := 189) (Lv' := [some (.ref B), some (.int ro), some (.int m), some (.int fr), some (.int 1), some (.int 0), some (.int 0), some (.int 0), some (.ref q1), some (.ref q5), some (.ref q9), some (.ref q13), some (.ref q17), some (.ref p21), some (.int 0), none, none, none, none]) (st' := []) (by decide +kernel) rfl ?_
  exact t24 _ hx23

theorem se_189 {B n c s : Nat} {ρ : gS} {h0 h : jv_H} {K : jK} {ro m fr su gr sw t : Int32} {p aT aS aJ aF aG : Nat} {g : Nat → Nat → Int32} {fT fS fJ fF fG : Nat → Int32} {r15 r16 r17 r18 : Option Value} (hx : LY B n ρ [(aG, 10, fG), (aF, 10, fF), (aJ, 6, fJ), (aS, 6, fS), (aT, 6, fT)] p g c s h0 h) (T : ((¬ t < m → (∀ h1, LY B n ρ [(aG, 10, fG), (aF, 10, fF), (aJ, 6, fJ), (aS, 6, fS), (aT, 6, fT)] p g c s h0 h1 → jE 193 567 [some (.ref B), some (.int ro), some (.int m), some (.int fr), some (.int 1), some (.int su), some (.int gr), some (.int sw), some (.ref aT), some (.ref aS), some (.ref aJ), some (.ref aF), some (.ref aG), some (.ref p), some (.int t), r15, r16, r17, r18] [] h1 K)) ∧ (t < m → (∀ h1, LY B n ρ [(aG, 10, fG), (aF, 10, fF), (aJ, 6, fJ), (aS, 6, fS), (aT, 6, fT)] p g c s h0 h1 → jE 193 224 [some (.ref B), some (.int ro), some (.int m), some (.int fr), some (.int 1), some (.int su), some (.int gr), some (.int sw), some (.ref aT), some (.ref aS), some (.ref aJ), some (.ref aF), some (.ref aG), some (.ref p), some (.int t), some (.int (vO (ρ 324) t 0)), some (.int (vO (ρ 324) t 2)), some (.int 0), some (.int 0)] [] h1 K)))) : jE 193 189 [some (.ref B), some (.int ro), some (.int m), some (.int fr), some (.int 1), some (.int su), some (.int gr), some (.int sw), some (.ref aT), some (.ref aS), some (.ref aJ), some (.ref aF), some (.ref aG), some (.ref p), some (.int t), r15, r16, r17, r18] [] h K := by
  refine jx_blk (by decide) [(.iload 14, 2), (.iload_n 2, 1)] (pc' := 192) (Lv' := [some (.ref B), some (.int ro), some (.int m), some (.int fr), some (.int 1), some (.int su), some (.int gr), some (.int sw), some (.ref aT), some (.ref aS), some (.ref aJ), some (.ref aF), some (.ref aG), some (.ref p), some (.int t), r15, r16, r17, r18]) (st' := [.int m, .int t]) (by decide +kernel) rfl ?_
  refine jx_ic_ge (off := 375) (b := 567) (by decide) (by decide +kernel) (by decide) (fun e1 => ?_) (fun e1 => ?_)
  · have t2 := T.1 e1
    exact t2 _ hx
  · have t3 := T.2 e1
    refine jx_blk (by decide) [(.iload 4, 2)] (pc' := 197) (Lv' := [some (.ref B), some (.int ro), some (.int m), some (.int fr), some (.int 1), some (.int su), some (.int gr), some (.int sw), some (.ref aT), some (.ref aS), some (.ref aJ), some (.ref aF), some (.ref aG), some (.ref p), some (.int t), r15, r16, r17, r18]) (st' := [.int 1]) (by decide +kernel) rfl ?_
    refine jx_if_eq (off := 370) (b := 567) (by decide) (by decide +kernel) (by decide) (fun e => absurd e (by decide)) (fun _ => ?_)
    refine jx_blk (by decide) [(.aload_n 0, 1), (.iload 14, 2), (.iconst 0, 1)] (pc' := 204) (Lv' := [some (.ref B), some (.int ro), some (.int m), some (.int fr), some (.int 1), some (.int su), some (.int gr), some (.int sw), some (.ref aT), some (.ref aS), some (.ref aJ), some (.ref aF), some (.ref aG), some (.ref p), some (.int t), r15, r16, r17, r18]) (st' := [.int 0, .int t, .ref B]) (by decide +kernel) rfl ?_
    refine ly_call (z := 124) (na := 3) (mL := 4) (v := .int (vO (ρ 324) t 0)) (r := []) [0, t] (by decide +kernel) hx xr_o0 rfl rfl (fun _ => rfl) (Nat.le_of_ble_eq_true rfl) (fun h4 hx5 => ?_)
    refine jx_blk (by decide) [(.istore 15, 2), (.aload_n 0, 1), (.iload 14, 2), (.iconst 2, 1)] (pc' := 213) (Lv' := [some (.ref B), some (.int ro), some (.int m), some (.int fr), some (.int 1), some (.int su), some (.int gr), some (.int sw), some (.ref aT), some (.ref aS), some (.ref aJ), some (.ref aF), some (.ref aG), some (.ref p), some (.int t), some (.int (vO (ρ 324) t 0)), r16, r17, r18]) (st' := [.int 2, .int t, .ref B]) (by decide +kernel) rfl ?_
    refine ly_call (z := 124) (na := 3) (mL := 4) (v := .int (vO (ρ 324) t 2)) (r := []) [2, t] (by decide +kernel) hx5 xr_o2 rfl rfl (fun _ => rfl) (Nat.le_of_ble_eq_true rfl) (fun h6 hx7 => ?_)
    refine jx_blk (by decide) [(.istore 16, 2), (.iconst 0, 1), (.istore 17, 2), (.iconst 0, 1), (.istore 18, 2)] (pc' := 224) (Lv' := [some (.ref B), some (.int ro), some (.int m), some (.int fr), some (.int 1), some (.int su), some (.int gr), some (.int sw), some (.ref aT), some (.ref aS), some (.ref aJ), some (.ref aF), some (.ref aG), some (.ref p), some (.int t), some (.int (vO (ρ 324) t 0)), some (.int (vO (ρ 324) t 2)), some (.int 0), some (.int 0)]) (st' := []) (by decide +kernel) rfl ?_
    exact t3 _ hx7

theorem se_224 {B n c s : Nat} {ρ : gS} {h0 h : jv_H} {K : jK} {ro m fr su gr sw t se ow ki u : Int32} {p aT aS aJ aF aG : Nat} {g : Nat → Nat → Int32} {fT fS fJ fF fG : Nat → Int32} (hx : LY B n ρ [(aG, 10, fG), (aF, 10, fF), (aJ, 6, fJ), (aS, 6, fS), (aT, 6, fT)] p g c s h0 h) (T : ((¬ u < m → (∀ h1, LY B n ρ [(aG, 10, fG), (aF, 10, fF), (aJ, 6, fJ), (aS, 6, fS), (aT, 6, fT)] p g c s h0 h1 → jE 193 281 [some (.ref B), some (.int ro), some (.int m), some (.int fr), some (.int 1), some (.int su), some (.int gr), some (.int sw), some (.ref aT), some (.ref aS), some (.ref aJ), some (.ref aF), some (.ref aG), some (.ref p), some (.int t), some (.int se), some (.int ow), some (.int ki), some (.int u)] [] h1 K)) ∧ (u < m → ((u = t → (∀ h1, LY B n ρ [(aG, 10, fG), (aF, 10, fF), (aJ, 6, fJ), (aS, 6, fS), (aT, 6, fT)] p g c s h0 h1 → jE 193 224 [some (.ref B), some (.int ro), some (.int m), some (.int fr), some (.int 1), some (.int su), some (.int gr), some (.int sw), some (.ref aT), some (.ref aS), some (.ref aJ), some (.ref aF), some (.ref aG), some (.ref p), some (.int t), some (.int se), some (.int ow), some (.int ki), some (.int (u + 1))] [] h1 K)) ∧ (¬ u = t → ((¬ 0 < ow → (∀ h1, LY B n ρ [(aG, 10, fG), (aF, 10, fF), (aJ, 6, fJ), (aS, 6, fS), (aT, 6, fT)] p g c s h0 h1 → jE 193 224 [some (.ref B), some (.int ro), some (.int m), some (.int fr), some (.int 1), some (.int su), some (.int gr), some (.int sw), some (.ref aT), some (.ref aS), some (.ref aJ), some (.ref aF), some (.ref aG), some (.ref p), some (.int t), some (.int se), some (.int ow), some (.int ki), some (.int (u + 1))] [] h1 K)) ∧ (0 < ow → ((¬ (vO (ρ 324) u 2) = ow → (∀ h1, LY B n ρ [(aG, 10, fG), (aF, 10, fF), (aJ, 6, fJ), (aS, 6, fS), (aT, 6, fT)] p g c s h0 h1 → jE 193 224 [some (.ref B), some (.int ro), some (.int m), some (.int fr), some (.int 1), some (.int su), some (.int gr), some (.int sw), some (.ref aT), some (.ref aS), some (.ref aJ), some (.ref aF), some (.ref aG), some (.ref p), some (.int t), some (.int se), some (.int ow), some (.int ki), some (.int (u + 1))] [] h1 K)) ∧ ((vO (ρ 324) u 2) = ow → ((¬ ((vO (ρ 324) u 0) / 8) = (se / 8) → (∀ h1, LY B n ρ [(aG, 10, fG), (aF, 10, fF), (aJ, 6, fJ), (aS, 6, fS), (aT, 6, fT)] p g c s h0 h1 → jE 193 224 [some (.ref B), some (.int ro), some (.int m), some (.int fr), some (.int 1), some (.int su), some (.int gr), some (.int sw), some (.ref aT), some (.ref aS), some (.ref aJ), some (.ref aF), some (.ref aG), some (.ref p), some (.int t), some (.int se), some (.int ow), some (.int ki), some (.int (u + 1))] [] h1 K)) ∧ (((vO (ρ 324) u 0) / 8) = (se / 8) → (∀ h1, LY B n ρ [(aG, 10, fG), (aF, 10, fF), (aJ, 6, fJ), (aS, 6, fS), (aT, 6, fT)] p g c s h0 h1 → jE 193 224 [some (.ref B), some (.int ro), some (.int m), some (.int fr), some (.int 1), some (.int su), some (.int gr), some (.int sw), some (.ref aT), some (.ref aS), some (.ref aJ), some (.ref aF), some (.ref aG), some (.ref p), some (.int t), some (.int se), some (.int ow), some (.int (ki + 1)), some (.int (u + 1))] [] h1 K)))))))))))) : jE 193 224 [some (.ref B), some (.int ro), some (.int m), some (.int fr), some (.int 1), some (.int su), some (.int gr), some (.int sw), some (.ref aT), some (.ref aS), some (.ref aJ), some (.ref aF), some (.ref aG), some (.ref p), some (.int t), some (.int se), some (.int ow), some (.int ki), some (.int u)] [] h K := by
  refine jx_blk (by decide) [(.iload 18, 2), (.iload_n 2, 1)] (pc' := 227) (Lv' := [some (.ref B), some (.int ro), some (.int m), some (.int fr), some (.int 1), some (.int su), some (.int gr), some (.int sw), some (.ref aT), some (.ref aS), some (.ref aJ), some (.ref aF), some (.ref aG), some (.ref p), some (.int t), some (.int se), some (.int ow), some (.int ki), some (.int u)]) (st' := [.int m, .int u]) (by decide +kernel) rfl ?_
  refine jx_ic_ge (off := 54) (b := 281) (by decide) (by decide +kernel) (by decide) (fun e1 => ?_) (fun e1 => ?_)
  · have t2 := T.1 e1
    exact t2 _ hx
  · have t3 := T.2 e1
    refine jx_blk (by decide) [(.iload 18, 2), (.iload 14, 2)] (pc' := 234) (Lv' := [some (.ref B), some (.int ro), some (.int m), some (.int fr), some (.int 1), some (.int su), some (.int gr), some (.int sw), some (.ref aT), some (.ref aS), some (.ref aJ), some (.ref aF), some (.ref aG), some (.ref p), some (.int t), some (.int se), some (.int ow), some (.int ki), some (.int u)]) (st' := [.int t, .int u]) (by decide +kernel) rfl ?_
    refine jx_ic_eq (off := 41) (b := 275) (by decide) (by decide +kernel) (by decide) (fun e4 => ?_) (fun e4 => ?_)
    · have t5 := t3.1 e4
      refine jx_blk (by decide) [(.iinc 18 1, 3)] (pc' := 278) (Lv' := [some (.ref B), some (.int ro), some (.int m), some (.int fr), some (.int 1), some (.int su), some (.int gr), some (.int sw), some (.ref aT), some (.ref aS), some (.ref aJ), some (.ref aF), some (.ref aG), some (.ref p), some (.int t), some (.int se), some (.int ow), some (.int ki), some (.int (u + 1))]) (st' := []) (by decide +kernel) rfl ?_
      refine jx_goto (off := (-54)) (b := 224) (by decide) (by decide +kernel) (by decide) ?_
      exact t5 _ hx
    · have t6 := t3.2 e4
      refine jx_blk (by decide) [(.iload 16, 2)] (pc' := 239) (Lv' := [some (.ref B), some (.int ro), some (.int m), some (.int fr), some (.int 1), some (.int su), some (.int gr), some (.int sw), some (.ref aT), some (.ref aS), some (.ref aJ), some (.ref aF), some (.ref aG), some (.ref p), some (.int t), some (.int se), some (.int ow), some (.int ki), some (.int u)]) (st' := [.int ow]) (by decide +kernel) rfl ?_
      refine jx_if_le (off := 36) (b := 275) (by decide) (by decide +kernel) (by decide) (fun e7 => ?_) (fun e7 => ?_)
      · have t8 := t6.1 e7
        refine jx_blk (by decide) [(.iinc 18 1, 3)] (pc' := 278) (Lv' := [some (.ref B), some (.int ro), some (.int m), some (.int fr), some (.int 1), some (.int su), some (.int gr), some (.int sw), some (.ref aT), some (.ref aS), some (.ref aJ), some (.ref aF), some (.ref aG), some (.ref p), some (.int t), some (.int se), some (.int ow), some (.int ki), some (.int (u + 1))]) (st' := []) (by decide +kernel) rfl ?_
        refine jx_goto (off := (-54)) (b := 224) (by decide) (by decide +kernel) (by decide) ?_
        exact t8 _ hx
      · have t9 := t6.2 e7
        refine jx_blk (by decide) [(.aload_n 0, 1), (.iload 18, 2), (.iconst 2, 1)] (pc' := 246) (Lv' := [some (.ref B), some (.int ro), some (.int m), some (.int fr), some (.int 1), some (.int su), some (.int gr), some (.int sw), some (.ref aT), some (.ref aS), some (.ref aJ), some (.ref aF), some (.ref aG), some (.ref p), some (.int t), some (.int se), some (.int ow), some (.int ki), some (.int u)]) (st' := [.int 2, .int u, .ref B]) (by decide +kernel) rfl ?_
        refine ly_call (z := 124) (na := 3) (mL := 4) (v := .int (vO (ρ 324) u 2)) (r := []) [2, u] (by decide +kernel) hx xr_o2 rfl rfl (fun _ => rfl) (Nat.le_of_ble_eq_true rfl) (fun h10 hx11 => ?_)
        refine jx_blk (by decide) [(.iload 16, 2)] (pc' := 251) (Lv' := [some (.ref B), some (.int ro), some (.int m), some (.int fr), some (.int 1), some (.int su), some (.int gr), some (.int sw), some (.ref aT), some (.ref aS), some (.ref aJ), some (.ref aF), some (.ref aG), some (.ref p), some (.int t), some (.int se), some (.int ow), some (.int ki), some (.int u)]) (st' := [.int ow, .int (vO (ρ 324) u 2)]) (by decide +kernel) rfl ?_
        refine jx_ic_ne (off := 24) (b := 275) (by decide) (by decide +kernel) (by decide) (fun e12 => ?_) (fun e12 => ?_)
        · have t13 := t9.1 e12
          refine jx_blk (by decide) [(.iinc 18 1, 3)] (pc' := 278) (Lv' := [some (.ref B), some (.int ro), some (.int m), some (.int fr), some (.int 1), some (.int su), some (.int gr), some (.int sw), some (.ref aT), some (.ref aS), some (.ref aJ), some (.ref aF), some (.ref aG), some (.ref p), some (.int t), some (.int se), some (.int ow), some (.int ki), some (.int (u + 1))]) (st' := []) (by decide +kernel) rfl ?_
          refine jx_goto (off := (-54)) (b := 224) (by decide) (by decide +kernel) (by decide) ?_
          exact t13 _ hx11
        · have t14 := t9.2 e12
          refine jx_blk (by decide) [(.aload_n 0, 1), (.iload 18, 2), (.iconst 0, 1)] (pc' := 258) (Lv' := [some (.ref B), some (.int ro), some (.int m), some (.int fr), some (.int 1), some (.int su), some (.int gr), some (.int sw), some (.ref aT), some (.ref aS), some (.ref aJ), some (.ref aF), some (.ref aG), some (.ref p), some (.int t), some (.int se), some (.int ow), some (.int ki), some (.int u)]) (st' := [.int 0, .int u, .ref B]) (by decide +kernel) rfl ?_
          refine ly_call (z := 124) (na := 3) (mL := 4) (v := .int (vO (ρ 324) u 0)) (r := []) [0, u] (by decide +kernel) hx11 xr_o0 rfl rfl (fun _ => rfl) (Nat.le_of_ble_eq_true rfl) (fun h15 hx16 => ?_)
          refine jx_blk (by decide) [(.bipush 8, 2), (.idiv, 1), (.iload 15, 2), (.bipush 8, 2), (.idiv, 1)] (pc' := 269) (Lv' := [some (.ref B), some (.int ro), some (.int m), some (.int fr), some (.int 1), some (.int su), some (.int gr), some (.int sw), some (.ref aT), some (.ref aS), some (.ref aJ), some (.ref aF), some (.ref aG), some (.ref p), some (.int t), some (.int se), some (.int ow), some (.int ki), some (.int u)]) (st' := [.int (se / 8), .int ((vO (ρ 324) u 0) / 8)]) (by decide +kernel) rfl ?_
          refine jx_ic_ne (off := 6) (b := 275) (by decide) (by decide +kernel) (by decide) (fun e17 => ?_) (fun e17 => ?_)
          · have t18 := t14.1 e17
            refine jx_blk (by decide) [(.iinc 18 1, 3)] (pc' := 278) (Lv' := [some (.ref B), some (.int ro), some (.int m), some (.int fr), some (.int 1), some (.int su), some (.int gr), some (.int sw), some (.ref aT), some (.ref aS), some (.ref aJ), some (.ref aF), some (.ref aG), some (.ref p), some (.int t), some (.int se), some (.int ow), some (.int ki), some (.int (u + 1))]) (st' := []) (by decide +kernel) rfl ?_
            refine jx_goto (off := (-54)) (b := 224) (by decide) (by decide +kernel) (by decide) ?_
            exact t18 _ hx16
          · have t19 := t14.2 e17
            refine jx_blk (by decide) [(.iinc 17 1, 3), (.iinc 18 1, 3)] (pc' := 278) (Lv' := [some (.ref B), some (.int ro), some (.int m), some (.int fr), some (.int 1), some (.int su), some (.int gr), some (.int sw), some (.ref aT), some (.ref aS), some (.ref aJ), some (.ref aF), some (.ref aG), some (.ref p), some (.int t), some (.int se), some (.int ow), some (.int (ki + 1)), some (.int (u + 1))]) (st' := []) (by decide +kernel) rfl ?_
            refine jx_goto (off := (-54)) (b := 224) (by decide) (by decide +kernel) (by decide) ?_
            exact t19 _ hx16

theorem se_281 {B n c s : Nat} {ρ : gS} {h0 h : jv_H} {K : jK} {ro m fr su gr sw t se ow ki u : Int32} {p aT aS aJ aF aG : Nat} {g : Nat → Nat → Int32} {fT fS fJ fF fG : Nat → Int32} (hx : LY B n ρ [(aG, 10, fG), (aF, 10, fF), (aJ, 6, fJ), (aS, 6, fS), (aT, 6, fT)] p g c s h0 h) (T : (((se - se / 4 * 4) = 0 → (∀ h1, LY B n ρ [(aG, 10, fG), (aF, 10, fF), (aJ, 6, fJ), (aS, 6, fS), (aT, 6, fT)] p g c s h0 h1 → jE 193 342 [some (.ref B), some (.int ro), some (.int m), some (.int fr), some (.int 1), some (.int su), some (.int gr), some (.int sw), some (.ref aT), some (.ref aS), some (.ref aJ), some (.ref aF), some (.ref aG), some (.ref p), some (.int t), some (.int se), some (.int ow), some (.int ki), some (.int (((4 * ki) - ((vO (ρ 324) t 6) * (if ((se / 4) - (vO (ρ 324) t 5)) < 0 then -((se / 4) - (vO (ρ 324) t 5)) else ((se / 4) - (vO (ρ 324) t 5))))) + ((vO (ρ 324) t 3) - 9)))] [] h1 K)) ∧ (¬ (se - se / 4 * 4) = 0 → ((¬ (se - se / 4 * 4) = 3 → (∀ h1, LY B n ρ [(aG, 10, fG), (aF, 10, fF), (aJ, 6, fJ), (aS, 6, fS), (aT, 6, fT)] p g c s h0 h1 → jE 193 342 [some (.ref B), some (.int ro), some (.int m), some (.int fr), some (.int 1), some (.int su), some (.int gr), some (.int sw), some (.ref aT), some (.ref aS), some (.ref aJ), some (.ref aF), some (.ref aG), some (.ref p), some (.int t), some (.int se), some (.int ow), some (.int ki), some (.int ((4 * ki) - ((vO (ρ 324) t 6) * (if ((se / 4) - (vO (ρ 324) t 5)) < 0 then -((se / 4) - (vO (ρ 324) t 5)) else ((se / 4) - (vO (ρ 324) t 5))))))] [] h1 K)) ∧ ((se - se / 4 * 4) = 3 → (∀ h1, LY B n ρ [(aG, 10, fG), (aF, 10, fF), (aJ, 6, fJ), (aS, 6, fS), (aT, 6, fT)] p g c s h0 h1 → jE 193 342 [some (.ref B), some (.int ro), some (.int m), some (.int fr), some (.int 1), some (.int su), some (.int gr), some (.int sw), some (.ref aT), some (.ref aS), some (.ref aJ), some (.ref aF), some (.ref aG), some (.ref p), some (.int t), some (.int se), some (.int ow), some (.int ki), some (.int (((4 * ki) - ((vO (ρ 324) t 6) * (if ((se / 4) - (vO (ρ 324) t 5)) < 0 then -((se / 4) - (vO (ρ 324) t 5)) else ((se / 4) - (vO (ρ 324) t 5))))) + ((vO (ρ 324) t 3) - 9)))] [] h1 K)))))) : jE 193 281 [some (.ref B), some (.int ro), some (.int m), some (.int fr), some (.int 1), some (.int su), some (.int gr), some (.int sw), some (.ref aT), some (.ref aS), some (.ref aJ), some (.ref aF), some (.ref aG), some (.ref p), some (.int t), some (.int se), some (.int ow), some (.int ki), some (.int u)] [] h K := by
  refine jx_blk (by decide) [(.iconst 4, 1), (.iload 17, 2), (.imul, 1), (.aload_n 0, 1), (.iload 14, 2), (.bipush 6, 2)] (pc' := 290) (Lv' := [some (.ref B), some (.int ro), some (.int m), some (.int fr), some (.int 1), some (.int su), some (.int gr), some (.int sw), some (.ref aT), some (.ref aS), some (.ref aJ), some (.ref aF), some (.ref aG), some (.ref p), some (.int t), some (.int se), some (.int ow), some (.int ki), some (.int u)]) (st' := [.int 6, .int t, .ref B, .int (4 * ki)]) (by decide +kernel) rfl ?_
  refine ly_call (z := 124) (na := 3) (mL := 4) (v := .int (vO (ρ 324) t 6)) (r := [.int (4 * ki)]) [6, t] (by decide +kernel) hx xr_o6 rfl rfl (fun _ => rfl) (Nat.le_of_ble_eq_true rfl) (fun h1 hx2 => ?_)
  refine jx_blk (by decide) [(.iload 15, 2), (.iconst 4, 1), (.idiv, 1), (.aload_n 0, 1), (.iload 14, 2), (.iconst 5, 1)] (pc' := 301) (Lv' := [some (.ref B), some (.int ro), some (.int m), some (.int fr), some (.int 1), some (.int su), some (.int gr), some (.int sw), some (.ref aT), some (.ref aS), some (.ref aJ), some (.ref aF), some (.ref aG), some (.ref p), some (.int t), some (.int se), some (.int ow), some (.int ki), some (.int u)]) (st' := [.int 5, .int t, .ref B, .int (se / 4), .int (vO (ρ 324) t 6), .int (4 * ki)]) (by decide +kernel) rfl ?_
  refine ly_call (z := 124) (na := 3) (mL := 4) (v := .int (vO (ρ 324) t 5)) (r := [.int (se / 4), .int (vO (ρ 324) t 6), .int (4 * ki)]) [5, t] (by decide +kernel) hx2 xr_o5 rfl rfl (fun _ => rfl) (Nat.le_of_ble_eq_true rfl) (fun h3 hx4 => ?_)
  refine jx_blk (by decide) [(.isub, 1)] (pc' := 305) (Lv' := [some (.ref B), some (.int ro), some (.int m), some (.int fr), some (.int 1), some (.int su), some (.int gr), some (.int sw), some (.ref aT), some (.ref aS), some (.ref aJ), some (.ref aF), some (.ref aG), some (.ref p), some (.int t), some (.int se), some (.int ow), some (.int ki), some (.int u)]) (st' := [.int ((se / 4) - (vO (ρ 324) t 5)), .int (vO (ρ 324) t 6), .int (4 * ki)]) (by decide +kernel) rfl ?_
  refine jl_abs (r := [.int (vO (ρ 324) t 6), .int (4 * ki)]) (by decide +kernel) (Nat.le_of_ble_eq_true rfl) ?_
  refine jx_blk (by decide) [(.imul, 1), (.isub, 1), (.istore 18, 2), (.iload 15, 2), (.iconst 4, 1), (.irem, 1)] (pc' := 316) (Lv' := [some (.ref B), some (.int ro), some (.int m), some (.int fr), some (.int 1), some (.int su), some (.int gr), some (.int sw), some (.ref aT), some (.ref aS), some (.ref aJ), some (.ref aF), some (.ref aG), some (.ref p), some (.int t), some (.int se), some (.int ow), some (.int ki), some (.int ((4 * ki) - ((vO (ρ 324) t 6) * (if ((se / 4) - (vO (ρ 324) t 5)) < 0 then -((se / 4) - (vO (ρ 324) t 5)) else ((se / 4) - (vO (ρ 324) t 5))))))]) (st' := [.int (se - se / 4 * 4)]) (by decide +kernel) rfl ?_
  refine jx_if_eq (off := 11) (b := 327) (by decide) (by decide +kernel) (by decide) (fun e5 => ?_) (fun e5 => ?_)
  · have t6 := T.1 e5
    refine jx_blk (by decide) [(.iload 18, 2), (.aload_n 0, 1), (.iload 14, 2), (.iconst 3, 1)] (pc' := 333) (Lv' := [some (.ref B), some (.int ro), some (.int m), some (.int fr), some (.int 1), some (.int su), some (.int gr), some (.int sw), some (.ref aT), some (.ref aS), some (.ref aJ), some (.ref aF), some (.ref aG), some (.ref p), some (.int t), some (.int se), some (.int ow), some (.int ki), some (.int ((4 * ki) - ((vO (ρ 324) t 6) * (if ((se / 4) - (vO (ρ 324) t 5)) < 0 then -((se / 4) - (vO (ρ 324) t 5)) else ((se / 4) - (vO (ρ 324) t 5))))))]) (st' := [.int 3, .int t, .ref B, .int ((4 * ki) - ((vO (ρ 324) t 6) * (if ((se / 4) - (vO (ρ 324) t 5)) < 0 then -((se / 4) - (vO (ρ 324) t 5)) else ((se / 4) - (vO (ρ 324) t 5)))))]) (by decide +kernel) rfl ?_
    refine ly_call (z := 124) (na := 3) (mL := 4) (v := .int (vO (ρ 324) t 3)) (r := [.int ((4 * ki) - ((vO (ρ 324) t 6) * (if ((se / 4) - (vO (ρ 324) t 5)) < 0 then -((se / 4) - (vO (ρ 324) t 5)) else ((se / 4) - (vO (ρ 324) t 5)))))]) [3, t] (by decide +kernel) hx4 xr_o3 rfl rfl (fun _ => rfl) (Nat.le_of_ble_eq_true rfl) (fun h8 hx9 => ?_)
    refine jx_blk (by decide) [(.bipush 9, 2), (.isub, 1), (.iadd, 1), (.istore 18, 2)] (pc' := 342) (Lv' := [some (.ref B), some (.int ro), some (.int m), some (.int fr), some (.int 1), some (.int su), some (.int gr), some (.int sw), some (.ref aT), some (.ref aS), some (.ref aJ), some (.ref aF), some (.ref aG), some (.ref p), some (.int t), some (.int se), some (.int ow), some (.int ki), some (.int (((4 * ki) - ((vO (ρ 324) t 6) * (if ((se / 4) - (vO (ρ 324) t 5)) < 0 then -((se / 4) - (vO (ρ 324) t 5)) else ((se / 4) - (vO (ρ 324) t 5))))) + ((vO (ρ 324) t 3) - 9)))]) (st' := []) (by decide +kernel) rfl ?_
    exact t6 _ hx9
  · have t7 := T.2 e5
    refine jx_blk (by decide) [(.iload 15, 2), (.iconst 4, 1), (.irem, 1), (.iconst 3, 1)] (pc' := 324) (Lv' := [some (.ref B), some (.int ro), some (.int m), some (.int fr), some (.int 1), some (.int su), some (.int gr), some (.int sw), some (.ref aT), some (.ref aS), some (.ref aJ), some (.ref aF), some (.ref aG), some (.ref p), some (.int t), some (.int se), some (.int ow), some (.int ki), some (.int ((4 * ki) - ((vO (ρ 324) t 6) * (if ((se / 4) - (vO (ρ 324) t 5)) < 0 then -((se / 4) - (vO (ρ 324) t 5)) else ((se / 4) - (vO (ρ 324) t 5))))))]) (st' := [.int 3, .int (se - se / 4 * 4)]) (by decide +kernel) rfl ?_
    refine jx_ic_ne (off := 18) (b := 342) (by decide) (by decide +kernel) (by decide) (fun e10 => ?_) (fun e10 => ?_)
    · have t11 := t7.1 e10
      exact t11 _ hx4
    · have t12 := t7.2 e10
      refine jx_blk (by decide) [(.iload 18, 2), (.aload_n 0, 1), (.iload 14, 2), (.iconst 3, 1)] (pc' := 333) (Lv' := [some (.ref B), some (.int ro), some (.int m), some (.int fr), some (.int 1), some (.int su), some (.int gr), some (.int sw), some (.ref aT), some (.ref aS), some (.ref aJ), some (.ref aF), some (.ref aG), some (.ref p), some (.int t), some (.int se), some (.int ow), some (.int ki), some (.int ((4 * ki) - ((vO (ρ 324) t 6) * (if ((se / 4) - (vO (ρ 324) t 5)) < 0 then -((se / 4) - (vO (ρ 324) t 5)) else ((se / 4) - (vO (ρ 324) t 5))))))]) (st' := [.int 3, .int t, .ref B, .int ((4 * ki) - ((vO (ρ 324) t 6) * (if ((se / 4) - (vO (ρ 324) t 5)) < 0 then -((se / 4) - (vO (ρ 324) t 5)) else ((se / 4) - (vO (ρ 324) t 5)))))]) (by decide +kernel) rfl ?_
      refine ly_call (z := 124) (na := 3) (mL := 4) (v := .int (vO (ρ 324) t 3)) (r := [.int ((4 * ki) - ((vO (ρ 324) t 6) * (if ((se / 4) - (vO (ρ 324) t 5)) < 0 then -((se / 4) - (vO (ρ 324) t 5)) else ((se / 4) - (vO (ρ 324) t 5)))))]) [3, t] (by decide +kernel) hx4 xr_o3 rfl rfl (fun _ => rfl) (Nat.le_of_ble_eq_true rfl) (fun h13 hx14 => ?_)
      refine jx_blk (by decide) [(.bipush 9, 2), (.isub, 1), (.iadd, 1), (.istore 18, 2)] (pc' := 342) (Lv' := [some (.ref B), some (.int ro), some (.int m), some (.int fr), some (.int 1), some (.int su), some (.int gr), some (.int sw), some (.ref aT), some (.ref aS), some (.ref aJ), some (.ref aF), some (.ref aG), some (.ref p), some (.int t), some (.int se), some (.int ow), some (.int ki), some (.int (((4 * ki) - ((vO (ρ 324) t 6) * (if ((se / 4) - (vO (ρ 324) t 5)) < 0 then -((se / 4) - (vO (ρ 324) t 5)) else ((se / 4) - (vO (ρ 324) t 5))))) + ((vO (ρ 324) t 3) - 9)))]) (st' := []) (by decide +kernel) rfl ?_
      exact t12 _ hx14

theorem se_342 {B n c s : Nat} {ρ : gS} {h0 h : jv_H} {K : jK} {ro m fr su gr sw t se ow ki jo : Int32} {p aT aS aJ aF aG : Nat} {g : Nat → Nat → Int32} {fT fS fJ fF fG : Nat → Int32} (hx : LY B n ρ [(aG, 10, fG), (aF, 10, fF), (aJ, 6, fJ), (aS, 6, fS), (aT, 6, fT)] p g c s h0 h) (T : ((¬ ((se / 4) - (se / 4) / 2 * 2) = 1 → (∀ h1, LY B n ρ [(aG, 10, fG), (aF, 10, fF), (aJ, 6, fJ), (aS, 6, fS), (aT, 6, fT)] p g c s h0 h1 → jE 193 367 [some (.ref B), some (.int ro), some (.int m), some (.int fr), some (.int 1), some (.int su), some (.int gr), some (.int sw), some (.ref aT), some (.ref aS), some (.ref aJ), some (.ref aF), some (.ref aG), some (.ref p), some (.int t), some (.int se), some (.int ow), some (.int ki), some (.int jo)] [] h1 K)) ∧ (((se / 4) - (se / 4) / 2 * 2) = 1 → (∀ h1, LY B n ρ [(aG, 10, fG), (aF, 10, fF), (aJ, 6, fJ), (aS, 6, fS), (aT, 6, fT)] p g c s h0 h1 → jE 193 367 [some (.ref B), some (.int ro), some (.int m), some (.int fr), some (.int 1), some (.int su), some (.int gr), some (.int sw), some (.ref aT), some (.ref aS), some (.ref aJ), some (.ref aF), some (.ref aG), some (.ref p), some (.int t), some (.int se), some (.int ow), some (.int ki), some (.int (jo + ((vO (ρ 324) t 4) - 9)))] [] h1 K)))) : jE 193 342 [some (.ref B), some (.int ro), some (.int m), some (.int fr), some (.int 1), some (.int su), some (.int gr), some (.int sw), some (.ref aT), some (.ref aS), some (.ref aJ), some (.ref aF), some (.ref aG), some (.ref p), some (.int t), some (.int se), some (.int ow), some (.int ki), some (.int jo)] [] h K := by
  refine jx_blk (by decide) [(.iload 15, 2), (.iconst 4, 1), (.idiv, 1), (.iconst 2, 1), (.irem, 1), (.iconst 1, 1)] (pc' := 349) (Lv' := [some (.ref B), some (.int ro), some (.int m), some (.int fr), some (.int 1), some (.int su), some (.int gr), some (.int sw), some (.ref aT), some (.ref aS), some (.ref aJ), some (.ref aF), some (.ref aG), some (.ref p), some (.int t), some (.int se), some (.int ow), some (.int ki), some (.int jo)]) (st' := [.int 1, .int ((se / 4) - (se / 4) / 2 * 2)]) (by decide +kernel) rfl ?_
  refine jx_ic_ne (off := 18) (b := 367) (by decide) (by decide +kernel) (by decide) (fun e1 => ?_) (fun e1 => ?_)
  · have t2 := T.1 e1
    exact t2 _ hx
  · have t3 := T.2 e1
    refine jx_blk (by decide) [(.iload 18, 2), (.aload_n 0, 1), (.iload 14, 2), (.iconst 4, 1)] (pc' := 358) (Lv' := [some (.ref B), some (.int ro), some (.int m), some (.int fr), some (.int 1), some (.int su), some (.int gr), some (.int sw), some (.ref aT), some (.ref aS), some (.ref aJ), some (.ref aF), some (.ref aG), some (.ref p), some (.int t), some (.int se), some (.int ow), some (.int ki), some (.int jo)]) (st' := [.int 4, .int t, .ref B, .int jo]) (by decide +kernel) rfl ?_
    refine ly_call (z := 124) (na := 3) (mL := 4) (v := .int (vO (ρ 324) t 4)) (r := [.int jo]) [4, t] (by decide +kernel) hx xr_o4 rfl rfl (fun _ => rfl) (Nat.le_of_ble_eq_true rfl) (fun h4 hx5 => ?_)
    refine jx_blk (by decide) [(.bipush 9, 2), (.isub, 1), (.iadd, 1), (.istore 18, 2)] (pc' := 367) (Lv' := [some (.ref B), some (.int ro), some (.int m), some (.int fr), some (.int 1), some (.int su), some (.int gr), some (.int sw), some (.ref aT), some (.ref aS), some (.ref aJ), some (.ref aF), some (.ref aG), some (.ref p), some (.int t), some (.int se), some (.int ow), some (.int ki), some (.int (jo + ((vO (ρ 324) t 4) - 9)))]) (st' := []) (by decide +kernel) rfl ?_
    exact t3 _ hx5

theorem se_367 {B n c s : Nat} {ρ : gS} {h0 h : jv_H} {K : jK} {ro m fr su gr sw t se ow ki jo : Int32} {p aT aS aJ aF aG : Nat} {g : Nat → Nat → Int32} {fT fS fJ fF fG : Nat → Int32} (hx : LY B n ρ [(aG, 10, fG), (aF, 10, fF), (aJ, 6, fJ), (aS, 6, fS), (aT, 6, fT)] p g c s h0 h) (T : ((vO9 (ρ 324) t) = (jo + 100) ∧ ((aJa (ρ 324) t se) = (jo + 100) ∧ ((vO10 (ρ 324) t) = ki ∧ ((aAt (ρ 324) se) = t ∧ ((vRk (ρ 324) (vO11 (ρ 324) t)) = t ∧ ((aWm (ρ 324) t se) = 5 ∧ (∀ h1, LY B n ρ [(aG, 10, fG), (aF, 10, fF), (aJ, 6, fJ), (aS, 6, fS), (aT, 6, fT)] p g c s h0 h1 → jE 193 459 [some (.ref B), some (.int ro), some (.int m), some (.int fr), some (.int 1), some (.int su), some (.int gr), some (.int sw), some (.ref aT), some (.ref aS), some (.ref aJ), some (.ref aF), some (.ref aG), some (.ref p), some (.int t), some (.int se), some (.int ow), some (.int ki), some (.int jo)] [] h1 K)))))))) : jE 193 367 [some (.ref B), some (.int ro), some (.int m), some (.int fr), some (.int 1), some (.int su), some (.int gr), some (.int sw), some (.ref aT), some (.ref aS), some (.ref aJ), some (.ref aF), some (.ref aG), some (.ref p), some (.int t), some (.int se), some (.int ow), some (.int ki), some (.int jo)] [] h K := by
  refine jx_blk (by decide) [(.aload_n 0, 1), (.iload 14, 2), (.bipush 9, 2)] (pc' := 372) (Lv' := [some (.ref B), some (.int ro), some (.int m), some (.int fr), some (.int 1), some (.int su), some (.int gr), some (.int sw), some (.ref aT), some (.ref aS), some (.ref aJ), some (.ref aF), some (.ref aG), some (.ref p), some (.int t), some (.int se), some (.int ow), some (.int ki), some (.int jo)]) (st' := [.int 9, .int t, .ref B]) (by decide +kernel) rfl ?_
  refine ly_call (z := 124) (na := 3) (mL := 4) (v := .int (vO9 (ρ 324) t)) (r := []) [9, t] (by decide +kernel) hx xr_o9 rfl rfl (fun _ => rfl) (Nat.le_of_ble_eq_true rfl) (fun h1 hx2 => ?_)
  refine jx_blk (by decide) [(.iload 18, 2), (.bipush 100, 2), (.iadd, 1)] (pc' := 380) (Lv' := [some (.ref B), some (.int ro), some (.int m), some (.int fr), some (.int 1), some (.int su), some (.int gr), some (.int sw), some (.ref aT), some (.ref aS), some (.ref aJ), some (.ref aF), some (.ref aG), some (.ref p), some (.int t), some (.int se), some (.int ow), some (.int ki), some (.int jo)]) (st' := [.int (jo + 100), .int (vO9 (ρ 324) t)]) (by decide +kernel) rfl ?_
  refine jx_ic_ne (off := 76) (b := 456) (by decide) (by decide +kernel) (by decide) (fun e => absurd T.1 e) (fun _ => ?_)
  have t4 := T.2
  refine jx_blk (by decide) [(.aload_n 0, 1), (.iload 14, 2), (.iload 15, 2)] (pc' := 388) (Lv' := [some (.ref B), some (.int ro), some (.int m), some (.int fr), some (.int 1), some (.int su), some (.int gr), some (.int sw), some (.ref aT), some (.ref aS), some (.ref aJ), some (.ref aF), some (.ref aG), some (.ref p), some (.int t), some (.int se), some (.int ow), some (.int ki), some (.int jo)]) (st' := [.int se, .int t, .ref B]) (by decide +kernel) rfl ?_
  refine ly_call (z := 132) (na := 3) (mL := 3) (v := .int (aJa (ρ 324) t se)) (r := []) [se, t] (by decide +kernel) hx2 xr_joyAt rfl rfl (fun _ => rfl) (Nat.le_of_ble_eq_true rfl) (fun h5 hx6 => ?_)
  refine jx_blk (by decide) [(.iload 18, 2), (.bipush 100, 2), (.iadd, 1)] (pc' := 396) (Lv' := [some (.ref B), some (.int ro), some (.int m), some (.int fr), some (.int 1), some (.int su), some (.int gr), some (.int sw), some (.ref aT), some (.ref aS), some (.ref aJ), some (.ref aF), some (.ref aG), some (.ref p), some (.int t), some (.int se), some (.int ow), some (.int ki), some (.int jo)]) (st' := [.int (jo + 100), .int (aJa (ρ 324) t se)]) (by decide +kernel) rfl ?_
  refine jx_ic_ne (off := 60) (b := 456) (by decide) (by decide +kernel) (by decide) (fun e => absurd t4.1 e) (fun _ => ?_)
  have t8 := t4.2
  refine jx_blk (by decide) [(.aload_n 0, 1), (.iload 14, 2), (.bipush 10, 2)] (pc' := 404) (Lv' := [some (.ref B), some (.int ro), some (.int m), some (.int fr), some (.int 1), some (.int su), some (.int gr), some (.int sw), some (.ref aT), some (.ref aS), some (.ref aJ), some (.ref aF), some (.ref aG), some (.ref p), some (.int t), some (.int se), some (.int ow), some (.int ki), some (.int jo)]) (st' := [.int 10, .int t, .ref B]) (by decide +kernel) rfl ?_
  refine ly_call (z := 124) (na := 3) (mL := 4) (v := .int (vO10 (ρ 324) t)) (r := []) [10, t] (by decide +kernel) hx6 xr_o10 rfl rfl (fun _ => rfl) (Nat.le_of_ble_eq_true rfl) (fun h9 hx10 => ?_)
  refine jx_blk (by decide) [(.iload 17, 2)] (pc' := 409) (Lv' := [some (.ref B), some (.int ro), some (.int m), some (.int fr), some (.int 1), some (.int su), some (.int gr), some (.int sw), some (.ref aT), some (.ref aS), some (.ref aJ), some (.ref aF), some (.ref aG), some (.ref p), some (.int t), some (.int se), some (.int ow), some (.int ki), some (.int jo)]) (st' := [.int ki, .int (vO10 (ρ 324) t)]) (by decide +kernel) rfl ?_
  refine jx_ic_ne (off := 47) (b := 456) (by decide) (by decide +kernel) (by decide) (fun e => absurd t8.1 e) (fun _ => ?_)
  have t12 := t8.2
  refine jx_blk (by decide) [(.aload_n 0, 1), (.iload 15, 2)] (pc' := 415) (Lv' := [some (.ref B), some (.int ro), some (.int m), some (.int fr), some (.int 1), some (.int su), some (.int gr), some (.int sw), some (.ref aT), some (.ref aS), some (.ref aJ), some (.ref aF), some (.ref aG), some (.ref p), some (.int t), some (.int se), some (.int ow), some (.int ki), some (.int jo)]) (st' := [.int se, .ref B]) (by decide +kernel) rfl ?_
  refine ly_call (z := 126) (na := 2) (mL := 2) (v := .int (aAt (ρ 324) se)) (r := []) [se] (by decide +kernel) hx10 xr_at rfl rfl (fun _ => rfl) (Nat.le_of_ble_eq_true rfl) (fun h13 hx14 => ?_)
  refine jx_blk (by decide) [(.iload 14, 2)] (pc' := 420) (Lv' := [some (.ref B), some (.int ro), some (.int m), some (.int fr), some (.int 1), some (.int su), some (.int gr), some (.int sw), some (.ref aT), some (.ref aS), some (.ref aJ), some (.ref aF), some (.ref aG), some (.ref p), some (.int t), some (.int se), some (.int ow), some (.int ki), some (.int jo)]) (st' := [.int t, .int (aAt (ρ 324) se)]) (by decide +kernel) rfl ?_
  refine jx_ic_ne (off := 36) (b := 456) (by decide) (by decide +kernel) (by decide) (fun e => absurd t12.1 e) (fun _ => ?_)
  have t16 := t12.2
  refine jx_blk (by decide) [(.aload_n 0, 1), (.aload_n 0, 1), (.iload 14, 2), (.bipush 11, 2)] (pc' := 429) (Lv' := [some (.ref B), some (.int ro), some (.int m), some (.int fr), some (.int 1), some (.int su), some (.int gr), some (.int sw), some (.ref aT), some (.ref aS), some (.ref aJ), some (.ref aF), some (.ref aG), some (.ref p), some (.int t), some (.int se), some (.int ow), some (.int ki), some (.int jo)]) (st' := [.int 11, .int t, .ref B, .ref B]) (by decide +kernel) rfl ?_
  refine ly_call (z := 124) (na := 3) (mL := 4) (v := .int (vO11 (ρ 324) t)) (r := [.ref B]) [11, t] (by decide +kernel) hx14 xr_o11 rfl rfl (fun _ => rfl) (Nat.le_of_ble_eq_true rfl) (fun h17 hx18 => ?_)
  refine ly_call (z := 129) (na := 2) (mL := 2) (v := .int (vRk (ρ 324) (vO11 (ρ 324) t))) (r := []) [(vO11 (ρ 324) t)] (by decide +kernel) hx18 xr_ranked rfl rfl (fun _ => rfl) (Nat.le_of_ble_eq_true rfl) (fun h19 hx20 => ?_)
  refine jx_blk (by decide) [(.iload 14, 2)] (pc' := 437) (Lv' := [some (.ref B), some (.int ro), some (.int m), some (.int fr), some (.int 1), some (.int su), some (.int gr), some (.int sw), some (.ref aT), some (.ref aS), some (.ref aJ), some (.ref aF), some (.ref aG), some (.ref p), some (.int t), some (.int se), some (.int ow), some (.int ki), some (.int jo)]) (st' := [.int t, .int (vRk (ρ 324) (vO11 (ρ 324) t))]) (by decide +kernel) rfl ?_
  refine jx_ic_ne (off := 19) (b := 456) (by decide) (by decide +kernel) (by decide) (fun e => absurd t16.1 e) (fun _ => ?_)
  have t22 := t16.2
  refine jx_blk (by decide) [(.aload_n 0, 1), (.iload 14, 2), (.iload 15, 2)] (pc' := 445) (Lv' := [some (.ref B), some (.int ro), some (.int m), some (.int fr), some (.int 1), some (.int su), some (.int gr), some (.int sw), some (.ref aT), some (.ref aS), some (.ref aJ), some (.ref aF), some (.ref aG), some (.ref p), some (.int t), some (.int se), some (.int ow), some (.int ki), some (.int jo)]) (st' := [.int se, .int t, .ref B]) (by decide +kernel) rfl ?_
  refine ly_call (z := 131) (na := 3) (mL := 3) (v := .int (aWm (ρ 324) t se)) (r := []) [se, t] (by decide +kernel) hx20 xr_whyMove rfl rfl (fun _ => rfl) (Nat.le_of_ble_eq_true rfl) (fun h23 hx24 => ?_)
  refine jx_blk (by decide) [(.iconst 5, 1)] (pc' := 449) (Lv' := [some (.ref B), some (.int ro), some (.int m), some (.int fr), some (.int 1), some (.int su), some (.int gr), some (.int sw), some (.ref aT), some (.ref aS), some (.ref aJ), some (.ref aF), some (.ref aG), some (.ref p), some (.int t), some (.int se), some (.int ow), some (.int ki), some (.int jo)]) (st' := [.int 5, .int (aWm (ρ 324) t se)]) (by decide +kernel) rfl ?_
  refine jx_ic_ne (off := 7) (b := 456) (by decide) (by decide +kernel) (by decide) (fun e => absurd t22.1 e) (fun _ => ?_)
  have t26 := t22.2
  refine jx_blk (by decide) [(.iconst 1, 1)] (pc' := 453) (Lv' := [some (.ref B), some (.int ro), some (.int m), some (.int fr), some (.int 1), some (.int su), some (.int gr), some (.int sw), some (.ref aT), some (.ref aS), some (.ref aJ), some (.ref aF), some (.ref aG), some (.ref p), some (.int t), some (.int se), some (.int ow), some (.int ki), some (.int jo)]) (st' := [.int 1]) (by decide +kernel) rfl ?_
  refine jx_goto (off := 4) (b := 457) (by decide) (by decide +kernel) (by decide) ?_
  refine jx_blk (by decide) [(.istore 4, 2)] (pc' := 459) (Lv' := [some (.ref B), some (.int ro), some (.int m), some (.int fr), some (.int 1), some (.int su), some (.int gr), some (.int sw), some (.ref aT), some (.ref aS), some (.ref aJ), some (.ref aF), some (.ref aG), some (.ref p), some (.int t), some (.int se), some (.int ow), some (.int ki), some (.int jo)]) (st' := []) (by decide +kernel) rfl ?_
  exact t26 _ hx24

theorem se_459 {B n c s : Nat} {ρ : gS} {h0 h : jv_H} {K : jK} {ro m fr su gr sw t se ow ki jo : Int32} {p aT aS aJ aF aG : Nat} {g : Nat → Nat → Int32} {fT fS fJ fF fG : Nat → Int32} (hx : LY B n ρ [(aG, 10, fG), (aF, 10, fF), (aJ, 6, fJ), (aS, 6, fS), (aT, 6, fT)] p g c s h0 h) (T : ((0 ≤ (se / 8) ∧ (se / 8).toNatClampNeg < 6) ∧ ((0 ≤ (se / 8) ∧ (se / 8).toNatClampNeg < 6) ∧ ((0 ≤ (se / 8) ∧ (se / 8).toNatClampNeg < 6) ∧ ((0 ≤ (se / 8) ∧ (se / 8).toNatClampNeg < 6) ∧ ((0 ≤ ow ∧ ow.toNatClampNeg < 10) ∧ ((0 ≤ ow ∧ ow.toNatClampNeg < 10) ∧ ((0 ≤ ow ∧ ow.toNatClampNeg < 10) ∧ ((0 ≤ ow ∧ ow.toNatClampNeg < 10) ∧ ((0 ≤ (se / 8) ∧ (se / 8).toNatClampNeg < 6) ∧ ((0 ≤ ow ∧ ow.toNatClampNeg < 10) ∧ ((0 ≤ ow ∧ ow.toNatClampNeg < 10) ∧ (∀ h1, LY B n ρ [(aG, 10, (upd fG ow.toNatClampNeg ((fG ow.toNatClampNeg) + jo))), (aF, 10, (upd fF ow.toNatClampNeg ((fF ow.toNatClampNeg) + 1))), (aJ, 6, (upd fJ ((se / 8).toNatClampNeg) ((fJ (se / 8).toNatClampNeg) + jo))), (aS, 6, fS), (aT, 6, (upd fT ((se / 8).toNatClampNeg) ((fT (se / 8).toNatClampNeg) + 1)))] p (fun q => if q = (se / 8).toNatClampNeg then upd (g ((se / 8).toNatClampNeg)) ow.toNatClampNeg ((g ((se / 8).toNatClampNeg) ow.toNatClampNeg) + 1) else g q) c s h0 h1 → jE 193 538 [some (.ref B), some (.int ro), some (.int m), some (.int fr), some (.int 1), some (.int (su + jo)), some (.int gr), some (.int (sw + (vO (ρ 324) t 7))), some (.ref aT), some (.ref aS), some (.ref aJ), some (.ref aF), some (.ref aG), some (.ref p), some (.int t), some (.int se), some (.int ow), some (.int ki), some (.int jo)] [] h1 K))))))))))))) : jE 193 459 [some (.ref B), some (.int ro), some (.int m), some (.int fr), some (.int 1), some (.int su), some (.int gr), some (.int sw), some (.ref aT), some (.ref aS), some (.ref aJ), some (.ref aF), some (.ref aG), some (.ref p), some (.int t), some (.int se), some (.int ow), some (.int ki), some (.int jo)] [] h K := by
  refine jx_blk (by decide) [(.iload 5, 2), (.iload 18, 2), (.iadd, 1), (.istore 5, 2), (.iload 7, 2), (.aload_n 0, 1), (.iload 14, 2), (.bipush 7, 2)] (pc' := 473) (Lv' := [some (.ref B), some (.int ro), some (.int m), some (.int fr), some (.int 1), some (.int (su + jo)), some (.int gr), some (.int sw), some (.ref aT), some (.ref aS), some (.ref aJ), some (.ref aF), some (.ref aG), some (.ref p), some (.int t), some (.int se), some (.int ow), some (.int ki), some (.int jo)]) (st' := [.int 7, .int t, .ref B, .int sw]) (by decide +kernel) rfl ?_
  refine ly_call (z := 124) (na := 3) (mL := 4) (v := .int (vO (ρ 324) t 7)) (r := [.int sw]) [7, t] (by decide +kernel) hx xr_o7 rfl rfl (fun _ => rfl) (Nat.le_of_ble_eq_true rfl) (fun h1 hx2 => ?_)
  refine jx_blk (by decide) [(.iadd, 1), (.istore 7, 2), (.aload 8, 2), (.iload 15, 2), (.bipush 8, 2), (.idiv, 1), (.dup2, 1)] (pc' := 487) (Lv' := [some (.ref B), some (.int ro), some (.int m), some (.int fr), some (.int 1), some (.int (su + jo)), some (.int gr), some (.int (sw + (vO (ρ 324) t 7))), some (.ref aT), some (.ref aS), some (.ref aJ), some (.ref aF), some (.ref aG), some (.ref p), some (.int t), some (.int se), some (.int ow), some (.int ki), some (.int jo)]) (st' := [.int (se / 8), .ref aT, .int (se / 8), .ref aT]) (by decide +kernel) rfl ?_
  obtain ⟨et3, t3⟩ := T
  refine ly_ld (j := ((se / 8).toNatClampNeg)) (by decide) (by decide +kernel) hx2 (i := 4) rfl ⟨rfl, et3.1⟩ et3.2 ?_
  show jE 193 488 [some (.ref B), some (.int ro), some (.int m), some (.int fr), some (.int 1), some (.int (su + jo)), some (.int gr), some (.int (sw + (vO (ρ 324) t 7))), some (.ref aT), some (.ref aS), some (.ref aJ), some (.ref aF), some (.ref aG), some (.ref p), some (.int t), some (.int se), some (.int ow), some (.int ki), some (.int jo)] [.int (fT (se / 8).toNatClampNeg), .int (se / 8), .ref aT] _ K
  refine jx_blk (by decide) [(.iconst 1, 1), (.iadd, 1)] (pc' := 490) (Lv' := [some (.ref B), some (.int ro), some (.int m), some (.int fr), some (.int 1), some (.int (su + jo)), some (.int gr), some (.int (sw + (vO (ρ 324) t 7))), some (.ref aT), some (.ref aS), some (.ref aJ), some (.ref aF), some (.ref aG), some (.ref p), some (.int t), some (.int se), some (.int ow), some (.int ki), some (.int jo)]) (st' := [.int ((fT (se / 8).toNatClampNeg) + 1), .int (se / 8), .ref aT]) (by decide +kernel) rfl ?_
  obtain ⟨et4, t4⟩ := t3
  refine ly_st (j := ((se / 8).toNatClampNeg)) (by decide) (by decide +kernel) hx2 (i := 4) rfl ⟨rfl, et4.1⟩ et4.2 (A' := [(aG, 10, fG), (aF, 10, fF), (aJ, 6, fJ), (aS, 6, fS), (aT, 6, (upd fT ((se / 8).toNatClampNeg) ((fT (se / 8).toNatClampNeg) + 1)))]) rfl (fun h5 hx6 => ?_)
  refine jx_blk (by decide) [(.aload 10, 2), (.iload 15, 2), (.bipush 8, 2), (.idiv, 1), (.dup2, 1)] (pc' := 499) (Lv' := [some (.ref B), some (.int ro), some (.int m), some (.int fr), some (.int 1), some (.int (su + jo)), some (.int gr), some (.int (sw + (vO (ρ 324) t 7))), some (.ref aT), some (.ref aS), some (.ref aJ), some (.ref aF), some (.ref aG), some (.ref p), some (.int t), some (.int se), some (.int ow), some (.int ki), some (.int jo)]) (st' := [.int (se / 8), .ref aJ, .int (se / 8), .ref aJ]) (by decide +kernel) rfl ?_
  obtain ⟨et7, t7⟩ := t4
  refine ly_ld (j := ((se / 8).toNatClampNeg)) (by decide) (by decide +kernel) hx6 (i := 2) rfl ⟨rfl, et7.1⟩ et7.2 ?_
  show jE 193 500 [some (.ref B), some (.int ro), some (.int m), some (.int fr), some (.int 1), some (.int (su + jo)), some (.int gr), some (.int (sw + (vO (ρ 324) t 7))), some (.ref aT), some (.ref aS), some (.ref aJ), some (.ref aF), some (.ref aG), some (.ref p), some (.int t), some (.int se), some (.int ow), some (.int ki), some (.int jo)] [.int (fJ (se / 8).toNatClampNeg), .int (se / 8), .ref aJ] _ K
  refine jx_blk (by decide) [(.iload 18, 2), (.iadd, 1)] (pc' := 503) (Lv' := [some (.ref B), some (.int ro), some (.int m), some (.int fr), some (.int 1), some (.int (su + jo)), some (.int gr), some (.int (sw + (vO (ρ 324) t 7))), some (.ref aT), some (.ref aS), some (.ref aJ), some (.ref aF), some (.ref aG), some (.ref p), some (.int t), some (.int se), some (.int ow), some (.int ki), some (.int jo)]) (st' := [.int ((fJ (se / 8).toNatClampNeg) + jo), .int (se / 8), .ref aJ]) (by decide +kernel) rfl ?_
  obtain ⟨et8, t8⟩ := t7
  refine ly_st (j := ((se / 8).toNatClampNeg)) (by decide) (by decide +kernel) hx6 (i := 2) rfl ⟨rfl, et8.1⟩ et8.2 (A' := [(aG, 10, fG), (aF, 10, fF), (aJ, 6, (upd fJ ((se / 8).toNatClampNeg) ((fJ (se / 8).toNatClampNeg) + jo))), (aS, 6, fS), (aT, 6, (upd fT ((se / 8).toNatClampNeg) ((fT (se / 8).toNatClampNeg) + 1)))]) rfl (fun h9 hx10 => ?_)
  refine jx_blk (by decide) [(.aload 11, 2), (.iload 16, 2), (.dup2, 1)] (pc' := 509) (Lv' := [some (.ref B), some (.int ro), some (.int m), some (.int fr), some (.int 1), some (.int (su + jo)), some (.int gr), some (.int (sw + (vO (ρ 324) t 7))), some (.ref aT), some (.ref aS), some (.ref aJ), some (.ref aF), some (.ref aG), some (.ref p), some (.int t), some (.int se), some (.int ow), some (.int ki), some (.int jo)]) (st' := [.int ow, .ref aF, .int ow, .ref aF]) (by decide +kernel) rfl ?_
  obtain ⟨et11, t11⟩ := t8
  refine ly_ld (j := ow.toNatClampNeg) (by decide) (by decide +kernel) hx10 (i := 1) rfl ⟨rfl, et11.1⟩ et11.2 ?_
  show jE 193 510 [some (.ref B), some (.int ro), some (.int m), some (.int fr), some (.int 1), some (.int (su + jo)), some (.int gr), some (.int (sw + (vO (ρ 324) t 7))), some (.ref aT), some (.ref aS), some (.ref aJ), some (.ref aF), some (.ref aG), some (.ref p), some (.int t), some (.int se), some (.int ow), some (.int ki), some (.int jo)] [.int (fF ow.toNatClampNeg), .int ow, .ref aF] _ K
  refine jx_blk (by decide) [(.iconst 1, 1), (.iadd, 1)] (pc' := 512) (Lv' := [some (.ref B), some (.int ro), some (.int m), some (.int fr), some (.int 1), some (.int (su + jo)), some (.int gr), some (.int (sw + (vO (ρ 324) t 7))), some (.ref aT), some (.ref aS), some (.ref aJ), some (.ref aF), some (.ref aG), some (.ref p), some (.int t), some (.int se), some (.int ow), some (.int ki), some (.int jo)]) (st' := [.int ((fF ow.toNatClampNeg) + 1), .int ow, .ref aF]) (by decide +kernel) rfl ?_
  obtain ⟨et12, t12⟩ := t11
  refine ly_st (j := ow.toNatClampNeg) (by decide) (by decide +kernel) hx10 (i := 1) rfl ⟨rfl, et12.1⟩ et12.2 (A' := [(aG, 10, fG), (aF, 10, (upd fF ow.toNatClampNeg ((fF ow.toNatClampNeg) + 1))), (aJ, 6, (upd fJ ((se / 8).toNatClampNeg) ((fJ (se / 8).toNatClampNeg) + jo))), (aS, 6, fS), (aT, 6, (upd fT ((se / 8).toNatClampNeg) ((fT (se / 8).toNatClampNeg) + 1)))]) rfl (fun h13 hx14 => ?_)
  refine jx_blk (by decide) [(.aload 12, 2), (.iload 16, 2), (.dup2, 1)] (pc' := 518) (Lv' := [some (.ref B), some (.int ro), some (.int m), some (.int fr), some (.int 1), some (.int (su + jo)), some (.int gr), some (.int (sw + (vO (ρ 324) t 7))), some (.ref aT), some (.ref aS), some (.ref aJ), some (.ref aF), some (.ref aG), some (.ref p), some (.int t), some (.int se), some (.int ow), some (.int ki), some (.int jo)]) (st' := [.int ow, .ref aG, .int ow, .ref aG]) (by decide +kernel) rfl ?_
  obtain ⟨et15, t15⟩ := t12
  refine ly_ld (j := ow.toNatClampNeg) (by decide) (by decide +kernel) hx14 (i := 0) rfl ⟨rfl, et15.1⟩ et15.2 ?_
  show jE 193 519 [some (.ref B), some (.int ro), some (.int m), some (.int fr), some (.int 1), some (.int (su + jo)), some (.int gr), some (.int (sw + (vO (ρ 324) t 7))), some (.ref aT), some (.ref aS), some (.ref aJ), some (.ref aF), some (.ref aG), some (.ref p), some (.int t), some (.int se), some (.int ow), some (.int ki), some (.int jo)] [.int (fG ow.toNatClampNeg), .int ow, .ref aG] _ K
  refine jx_blk (by decide) [(.iload 18, 2), (.iadd, 1)] (pc' := 522) (Lv' := [some (.ref B), some (.int ro), some (.int m), some (.int fr), some (.int 1), some (.int (su + jo)), some (.int gr), some (.int (sw + (vO (ρ 324) t 7))), some (.ref aT), some (.ref aS), some (.ref aJ), some (.ref aF), some (.ref aG), some (.ref p), some (.int t), some (.int se), some (.int ow), some (.int ki), some (.int jo)]) (st' := [.int ((fG ow.toNatClampNeg) + jo), .int ow, .ref aG]) (by decide +kernel) rfl ?_
  obtain ⟨et16, t16⟩ := t15
  refine ly_st (j := ow.toNatClampNeg) (by decide) (by decide +kernel) hx14 (i := 0) rfl ⟨rfl, et16.1⟩ et16.2 (A' := [(aG, 10, (upd fG ow.toNatClampNeg ((fG ow.toNatClampNeg) + jo))), (aF, 10, (upd fF ow.toNatClampNeg ((fF ow.toNatClampNeg) + 1))), (aJ, 6, (upd fJ ((se / 8).toNatClampNeg) ((fJ (se / 8).toNatClampNeg) + jo))), (aS, 6, fS), (aT, 6, (upd fT ((se / 8).toNatClampNeg) ((fT (se / 8).toNatClampNeg) + 1)))]) rfl (fun h17 hx18 => ?_)
  refine jx_blk (by decide) [(.aload 13, 2), (.iload 15, 2), (.bipush 8, 2), (.idiv, 1)] (pc' := 530) (Lv' := [some (.ref B), some (.int ro), some (.int m), some (.int fr), some (.int 1), some (.int (su + jo)), some (.int gr), some (.int (sw + (vO (ρ 324) t 7))), some (.ref aT), some (.ref aS), some (.ref aJ), some (.ref aF), some (.ref aG), some (.ref p), some (.int t), some (.int se), some (.int ow), some (.int ki), some (.int jo)]) (st' := [.int (se / 8), .ref p]) (by decide +kernel) rfl ?_
  obtain ⟨et19, t19⟩ := t16
  refine ly_aa (k := (se / 8).toNatClampNeg) (by decide) (by decide +kernel) hx18 ⟨rfl, et19.1⟩ et19.2 ?_
  refine jx_blk (by decide) [(.iload 16, 2), (.dup2, 1)] (pc' := 534) (Lv' := [some (.ref B), some (.int ro), some (.int m), some (.int fr), some (.int 1), some (.int (su + jo)), some (.int gr), some (.int (sw + (vO (ρ 324) t 7))), some (.ref aT), some (.ref aS), some (.ref aJ), some (.ref aF), some (.ref aG), some (.ref p), some (.int t), some (.int se), some (.int ow), some (.int ki), some (.int jo)]) (st' := [.int ow, .ref (p + 1 + (se / 8).toNatClampNeg), .int ow, .ref (p + 1 + (se / 8).toNatClampNeg)]) (by decide +kernel) rfl ?_
  obtain ⟨et20, t20⟩ := t19
  refine ly_ml (i := ((se / 8).toNatClampNeg)) (j := ow.toNatClampNeg) (by decide) (by decide +kernel) hx18 et19.2 ⟨rfl, et20.1⟩ et20.2 ?_
  refine jx_blk (by decide) [(.iconst 1, 1), (.iadd, 1)] (pc' := 537) (Lv' := [some (.ref B), some (.int ro), some (.int m), some (.int fr), some (.int 1), some (.int (su + jo)), some (.int gr), some (.int (sw + (vO (ρ 324) t 7))), some (.ref aT), some (.ref aS), some (.ref aJ), some (.ref aF), some (.ref aG), some (.ref p), some (.int t), some (.int se), some (.int ow), some (.int ki), some (.int jo)]) (st' := [.int ((g ((se / 8).toNatClampNeg) ow.toNatClampNeg) + 1), .int ow, .ref (p + 1 + (se / 8).toNatClampNeg)]) (by decide +kernel) rfl ?_
  obtain ⟨et21, t21⟩ := t20
  refine ly_ms (i := ((se / 8).toNatClampNeg)) (j := ow.toNatClampNeg) (by decide) (by decide +kernel) hx18 et19.2 ⟨rfl, et21.1⟩ et21.2 (fun h22 hx23 => ?_)
  exact t21 _ hx23

theorem se_538 {B n c s : Nat} {ρ : gS} {h0 h : jv_H} {K : jK} {ro m fr su gr sw t se ow ki jo : Int32} {p aT aS aJ aF aG : Nat} {g : Nat → Nat → Int32} {fT fS fJ fF fG : Nat → Int32} (hx : LY B n ρ [(aG, 10, fG), (aF, 10, fF), (aJ, 6, fJ), (aS, 6, fS), (aT, 6, fT)] p g c s h0 h) (T : ((jo < 0 → ((0 ≤ (se / 8) ∧ (se / 8).toNatClampNeg < 6) ∧ ((0 ≤ (se / 8) ∧ (se / 8).toNatClampNeg < 6) ∧ (∀ h1, LY B n ρ [(aG, 10, fG), (aF, 10, fF), (aJ, 6, fJ), (aS, 6, (upd fS ((se / 8).toNatClampNeg) ((fS (se / 8).toNatClampNeg) + 1))), (aT, 6, fT)] p g c s h0 h1 → jE 193 189 [some (.ref B), some (.int ro), some (.int m), some (.int fr), some (.int 1), some (.int su), some (.int (gr + 1)), some (.int sw), some (.ref aT), some (.ref aS), some (.ref aJ), some (.ref aF), some (.ref aG), some (.ref p), some (.int (t + 1)), some (.int se), some (.int ow), some (.int ki), some (.int jo)] [] h1 K)))) ∧ (¬ jo < 0 → (∀ h1, LY B n ρ [(aG, 10, fG), (aF, 10, fF), (aJ, 6, fJ), (aS, 6, fS), (aT, 6, fT)] p g c s h0 h1 → jE 193 189 [some (.ref B), some (.int ro), some (.int m), some (.int fr), some (.int 1), some (.int su), some (.int gr), some (.int sw), some (.ref aT), some (.ref aS), some (.ref aJ), some (.ref aF), some (.ref aG), some (.ref p), some (.int (t + 1)), some (.int se), some (.int ow), some (.int ki), some (.int jo)] [] h1 K)))) : jE 193 538 [some (.ref B), some (.int ro), some (.int m), some (.int fr), some (.int 1), some (.int su), some (.int gr), some (.int sw), some (.ref aT), some (.ref aS), some (.ref aJ), some (.ref aF), some (.ref aG), some (.ref p), some (.int t), some (.int se), some (.int ow), some (.int ki), some (.int jo)] [] h K := by
  refine jx_blk (by decide) [(.iload 18, 2)] (pc' := 540) (Lv' := [some (.ref B), some (.int ro), some (.int m), some (.int fr), some (.int 1), some (.int su), some (.int gr), some (.int sw), some (.ref aT), some (.ref aS), some (.ref aJ), some (.ref aF), some (.ref aG), some (.ref p), some (.int t), some (.int se), some (.int ow), some (.int ki), some (.int jo)]) (st' := [.int jo]) (by decide +kernel) rfl ?_
  refine jx_if_lt (off := 6) (b := 546) (by decide) (by decide +kernel) (by decide) (fun e1 => ?_) (fun e1 => ?_)
  · have t2 := T.1 e1
    refine jx_blk (by decide) [(.iinc 6 1, 3), (.aload 9, 2), (.iload 15, 2), (.bipush 8, 2), (.idiv, 1), (.dup2, 1)] (pc' := 557) (Lv' := [some (.ref B), some (.int ro), some (.int m), some (.int fr), some (.int 1), some (.int su), some (.int (gr + 1)), some (.int sw), some (.ref aT), some (.ref aS), some (.ref aJ), some (.ref aF), some (.ref aG), some (.ref p), some (.int t), some (.int se), some (.int ow), some (.int ki), some (.int jo)]) (st' := [.int (se / 8), .ref aS, .int (se / 8), .ref aS]) (by decide +kernel) rfl ?_
    obtain ⟨et4, t4⟩ := t2
    refine ly_ld (j := ((se / 8).toNatClampNeg)) (by decide) (by decide +kernel) hx (i := 3) rfl ⟨rfl, et4.1⟩ et4.2 ?_
    show jE 193 558 [some (.ref B), some (.int ro), some (.int m), some (.int fr), some (.int 1), some (.int su), some (.int (gr + 1)), some (.int sw), some (.ref aT), some (.ref aS), some (.ref aJ), some (.ref aF), some (.ref aG), some (.ref p), some (.int t), some (.int se), some (.int ow), some (.int ki), some (.int jo)] [.int (fS (se / 8).toNatClampNeg), .int (se / 8), .ref aS] _ K
    refine jx_blk (by decide) [(.iconst 1, 1), (.iadd, 1)] (pc' := 560) (Lv' := [some (.ref B), some (.int ro), some (.int m), some (.int fr), some (.int 1), some (.int su), some (.int (gr + 1)), some (.int sw), some (.ref aT), some (.ref aS), some (.ref aJ), some (.ref aF), some (.ref aG), some (.ref p), some (.int t), some (.int se), some (.int ow), some (.int ki), some (.int jo)]) (st' := [.int ((fS (se / 8).toNatClampNeg) + 1), .int (se / 8), .ref aS]) (by decide +kernel) rfl ?_
    obtain ⟨et5, t5⟩ := t4
    refine ly_st (j := ((se / 8).toNatClampNeg)) (by decide) (by decide +kernel) hx (i := 3) rfl ⟨rfl, et5.1⟩ et5.2 (A' := [(aG, 10, fG), (aF, 10, fF), (aJ, 6, fJ), (aS, 6, (upd fS ((se / 8).toNatClampNeg) ((fS (se / 8).toNatClampNeg) + 1))), (aT, 6, fT)]) rfl (fun h6 hx7 => ?_)
    refine jx_blk (by decide) [(.iinc 14 1, 3)] (pc' := 564) (Lv' := [some (.ref B), some (.int ro), some (.int m), some (.int fr), some (.int 1), some (.int su), some (.int (gr + 1)), some (.int sw), some (.ref aT), some (.ref aS), some (.ref aJ), some (.ref aF), some (.ref aG), some (.ref p), some (.int (t + 1)), some (.int se), some (.int ow), some (.int ki), some (.int jo)]) (st' := []) (by decide +kernel) rfl ?_
    refine jx_goto (off := (-375)) (b := 189) (by decide) (by decide +kernel) (by decide) ?_
    exact t5 _ hx7
  · have t3 := T.2 e1
    refine jx_goto (off := 18) (b := 561) (by decide) (by decide +kernel) (by decide) ?_
    refine jx_blk (by decide) [(.iinc 14 1, 3)] (pc' := 564) (Lv' := [some (.ref B), some (.int ro), some (.int m), some (.int fr), some (.int 1), some (.int su), some (.int gr), some (.int sw), some (.ref aT), some (.ref aS), some (.ref aJ), some (.ref aF), some (.ref aG), some (.ref p), some (.int (t + 1)), some (.int se), some (.int ow), some (.int ki), some (.int jo)]) (st' := []) (by decide +kernel) rfl ?_
    refine jx_goto (off := (-375)) (b := 189) (by decide) (by decide +kernel) (by decide) ?_
    exact t3 _ hx

theorem se_567 {B n c s : Nat} {ρ : gS} {h0 h : jv_H} {K : jK} {ro m fr su gr sw : Int32} {p aT aS aJ aF aG : Nat} {g : Nat → Nat → Int32} {fT fS fJ fF fG : Nat → Int32} {r14 r15 r16 r17 r18 : Option Value} (hx : LY B n ρ [(aG, 10, fG), (aF, 10, fF), (aJ, 6, fJ), (aS, 6, fS), (aT, 6, fT)] p g c s h0 h) (T : (∀ h1, LY B n ρ [(aG, 10, fG), (aF, 10, fF), (aJ, 6, fJ), (aS, 6, fS), (aT, 6, fT)] p g c s h0 h1 → jE 193 573 [some (.ref B), some (.int ro), some (.int m), some (.int fr), some (.int 1), some (.int su), some (.int gr), some (.int sw), some (.ref aT), some (.ref aS), some (.ref aJ), some (.ref aF), some (.ref aG), some (.ref p), some (.int 0), some (.int 1), r16, r17, r18] [] h1 K)) : jE 193 567 [some (.ref B), some (.int ro), some (.int m), some (.int fr), some (.int 1), some (.int su), some (.int gr), some (.int sw), some (.ref aT), some (.ref aS), some (.ref aJ), some (.ref aF), some (.ref aG), some (.ref p), r14, r15, r16, r17, r18] [] h K := by
  refine jx_blk (by decide) [(.iconst 0, 1), (.istore 14, 2), (.iconst 1, 1), (.istore 15, 2)] (pc' := 573) (Lv' := [some (.ref B), some (.int ro), some (.int m), some (.int fr), some (.int 1), some (.int su), some (.int gr), some (.int sw), some (.ref aT), some (.ref aS), some (.ref aJ), some (.ref aF), some (.ref aG), some (.ref p), some (.int 0), some (.int 1), r16, r17, r18]) (st' := []) (by decide +kernel) rfl ?_
  exact T _ hx

theorem se_573 {B n c s : Nat} {ρ : gS} {h0 h : jv_H} {K : jK} {ro m fr su gr sw fs f : Int32} {p aT aS aJ aF aG : Nat} {g : Nat → Nat → Int32} {fT fS fJ fF fG : Nat → Int32} {r16 r17 r18 : Option Value} (hx : LY B n ρ [(aG, 10, fG), (aF, 10, fF), (aJ, 6, fJ), (aS, 6, fS), (aT, 6, fT)] p g c s h0 h) (T : ((¬ f < 10 → (∀ h1, LY B n ρ [(aG, 10, fG), (aF, 10, fF), (aJ, 6, fJ), (aS, 6, fS), (aT, 6, fT)] p g c s h0 h1 → jE 193 688 [some (.ref B), some (.int ro), some (.int m), some (.int fr), some (.int 1), some (.int su), some (.int gr), some (.int sw), some (.ref aT), some (.ref aS), some (.ref aJ), some (.ref aF), some (.ref aG), some (.ref p), some (.int fs), some (.int f), r16, r17, r18] [] h1 K)) ∧ (f < 10 → (∀ h1, LY B n ρ [(aG, 10, fG), (aF, 10, fF), (aJ, 6, fJ), (aS, 6, fS), (aT, 6, fT)] p g c s h0 h1 → jE 193 591 [some (.ref B), some (.int ro), some (.int m), some (.int fr), some (.int 1), some (.int su), some (.int gr), some (.int sw), some (.ref aT), some (.ref aS), some (.ref aJ), some (.ref aF), some (.ref aG), some (.ref p), some (.int fs), some (.int f), some (.int 0), some (.int 0), r18] [] h1 K)))) : jE 193 573 [some (.ref B), some (.int ro), some (.int m), some (.int fr), some (.int 1), some (.int su), some (.int gr), some (.int sw), some (.ref aT), some (.ref aS), some (.ref aJ), some (.ref aF), some (.ref aG), some (.ref p), some (.int fs), some (.int f), r16, r17, r18] [] h K := by
  refine jx_blk (by decide) [(.iload 15, 2), (.bipush 10, 2)] (pc' := 577) (Lv' := [some (.ref B), some (.int ro), some (.int m), some (.int fr), some (.int 1), some (.int su), some (.int gr), some (.int sw), some (.ref aT), some (.ref aS), some (.ref aJ), some (.ref aF), some (.ref aG), some (.ref p), some (.int fs), some (.int f), r16, r17, r18]) (st' := [.int 10, .int f]) (by decide +kernel) rfl ?_
  refine jx_ic_ge (off := 111) (b := 688) (by decide) (by decide +kernel) (by decide) (fun e1 => ?_) (fun e1 => ?_)
  · have t2 := T.1 e1
    exact t2 _ hx
  · have t3 := T.2 e1
    refine jx_blk (by decide) [(.iload 4, 2)] (pc' := 582) (Lv' := [some (.ref B), some (.int ro), some (.int m), some (.int fr), some (.int 1), some (.int su), some (.int gr), some (.int sw), some (.ref aT), some (.ref aS), some (.ref aJ), some (.ref aF), some (.ref aG), some (.ref p), some (.int fs), some (.int f), r16, r17, r18]) (st' := [.int 1]) (by decide +kernel) rfl ?_
    refine jx_if_eq (off := 106) (b := 688) (by decide) (by decide +kernel) (by decide) (fun e => absurd e (by decide)) (fun _ => ?_)
    refine jx_blk (by decide) [(.iconst 0, 1), (.istore 16, 2), (.iconst 0, 1), (.istore 17, 2)] (pc' := 591) (Lv' := [some (.ref B), some (.int ro), some (.int m), some (.int fr), some (.int 1), some (.int su), some (.int gr), some (.int sw), some (.ref aT), some (.ref aS), some (.ref aJ), some (.ref aF), some (.ref aG), some (.ref p), some (.int fs), some (.int f), some (.int 0), some (.int 0), r18]) (st' := []) (by decide +kernel) rfl ?_
    exact t3 _ hx

theorem se_591 {B n c s : Nat} {ρ : gS} {h0 h : jv_H} {K : jK} {ro m fr su gr sw fs f tb q : Int32} {p aT aS aJ aF aG : Nat} {g : Nat → Nat → Int32} {fT fS fJ fF fG : Nat → Int32} {r18 : Option Value} (hx : LY B n ρ [(aG, 10, fG), (aF, 10, fF), (aJ, 6, fJ), (aS, 6, fS), (aT, 6, fT)] p g c s h0 h) (T : ((¬ q < 6 → (∀ h1, LY B n ρ [(aG, 10, fG), (aF, 10, fF), (aJ, 6, fJ), (aS, 6, fS), (aT, 6, fT)] p g c s h0 h1 → jE 193 618 [some (.ref B), some (.int ro), some (.int m), some (.int fr), some (.int 1), some (.int su), some (.int gr), some (.int sw), some (.ref aT), some (.ref aS), some (.ref aJ), some (.ref aF), some (.ref aG), some (.ref p), some (.int fs), some (.int f), some (.int tb), some (.int q), r18] [] h1 K)) ∧ (q < 6 → ((0 ≤ q ∧ q.toNatClampNeg < 6) ∧ ((0 ≤ f ∧ f.toNatClampNeg < 10) ∧ ((¬ 0 < (g q.toNatClampNeg f.toNatClampNeg) → (∀ h1, LY B n ρ [(aG, 10, fG), (aF, 10, fF), (aJ, 6, fJ), (aS, 6, fS), (aT, 6, fT)] p g c s h0 h1 → jE 193 591 [some (.ref B), some (.int ro), some (.int m), some (.int fr), some (.int 1), some (.int su), some (.int gr), some (.int sw), some (.ref aT), some (.ref aS), some (.ref aJ), some (.ref aF), some (.ref aG), some (.ref p), some (.int fs), some (.int f), some (.int tb), some (.int (q + 1)), r18] [] h1 K)) ∧ (0 < (g q.toNatClampNeg f.toNatClampNeg) → (∀ h1, LY B n ρ [(aG, 10, fG), (aF, 10, fF), (aJ, 6, fJ), (aS, 6, fS), (aT, 6, fT)] p g c s h0 h1 → jE 193 591 [some (.ref B), some (.int ro), some (.int m), some (.int fr), some (.int 1), some (.int su), some (.int gr), some (.int sw), some (.ref aT), some (.ref aS), some (.ref aJ), some (.ref aF), some (.ref aG), some (.ref p), some (.int fs), some (.int f), some (.int (tb + 1)), some (.int (q + 1)), r18] [] h1 K)))))))) : jE 193 591 [some (.ref B), some (.int ro), some (.int m), some (.int fr), some (.int 1), some (.int su), some (.int gr), some (.int sw), some (.ref aT), some (.ref aS), some (.ref aJ), some (.ref aF), some (.ref aG), some (.ref p), some (.int fs), some (.int f), some (.int tb), some (.int q), r18] [] h K := by
  refine jx_blk (by decide) [(.iload 17, 2), (.bipush 6, 2)] (pc' := 595) (Lv' := [some (.ref B), some (.int ro), some (.int m), some (.int fr), some (.int 1), some (.int su), some (.int gr), some (.int sw), some (.ref aT), some (.ref aS), some (.ref aJ), some (.ref aF), some (.ref aG), some (.ref p), some (.int fs), some (.int f), some (.int tb), some (.int q), r18]) (st' := [.int 6, .int q]) (by decide +kernel) rfl ?_
  refine jx_ic_ge (off := 23) (b := 618) (by decide) (by decide +kernel) (by decide) (fun e1 => ?_) (fun e1 => ?_)
  · have t2 := T.1 e1
    exact t2 _ hx
  · have t3 := T.2 e1
    refine jx_blk (by decide) [(.aload 13, 2), (.iload 17, 2)] (pc' := 602) (Lv' := [some (.ref B), some (.int ro), some (.int m), some (.int fr), some (.int 1), some (.int su), some (.int gr), some (.int sw), some (.ref aT), some (.ref aS), some (.ref aJ), some (.ref aF), some (.ref aG), some (.ref p), some (.int fs), some (.int f), some (.int tb), some (.int q), r18]) (st' := [.int q, .ref p]) (by decide +kernel) rfl ?_
    obtain ⟨et4, t4⟩ := t3
    refine ly_aa (k := q.toNatClampNeg) (by decide) (by decide +kernel) hx ⟨rfl, et4.1⟩ et4.2 ?_
    refine jx_blk (by decide) [(.iload 15, 2)] (pc' := 605) (Lv' := [some (.ref B), some (.int ro), some (.int m), some (.int fr), some (.int 1), some (.int su), some (.int gr), some (.int sw), some (.ref aT), some (.ref aS), some (.ref aJ), some (.ref aF), some (.ref aG), some (.ref p), some (.int fs), some (.int f), some (.int tb), some (.int q), r18]) (st' := [.int f, .ref (p + 1 + q.toNatClampNeg)]) (by decide +kernel) rfl ?_
    obtain ⟨et5, t5⟩ := t4
    refine ly_ml (i := q.toNatClampNeg) (j := f.toNatClampNeg) (by decide) (by decide +kernel) hx et4.2 ⟨rfl, et5.1⟩ et5.2 ?_
    refine jx_if_le (off := 6) (b := 612) (by decide) (by decide +kernel) (by decide) (fun e6 => ?_) (fun e6 => ?_)
    · have t7 := t5.1 e6
      refine jx_blk (by decide) [(.iinc 17 1, 3)] (pc' := 615) (Lv' := [some (.ref B), some (.int ro), some (.int m), some (.int fr), some (.int 1), some (.int su), some (.int gr), some (.int sw), some (.ref aT), some (.ref aS), some (.ref aJ), some (.ref aF), some (.ref aG), some (.ref p), some (.int fs), some (.int f), some (.int tb), some (.int (q + 1)), r18]) (st' := []) (by decide +kernel) rfl ?_
      refine jx_goto (off := (-24)) (b := 591) (by decide) (by decide +kernel) (by decide) ?_
      exact t7 _ hx
    · have t8 := t5.2 e6
      refine jx_blk (by decide) [(.iinc 16 1, 3), (.iinc 17 1, 3)] (pc' := 615) (Lv' := [some (.ref B), some (.int ro), some (.int m), some (.int fr), some (.int 1), some (.int su), some (.int gr), some (.int sw), some (.ref aT), some (.ref aS), some (.ref aJ), some (.ref aF), some (.ref aG), some (.ref p), some (.int fs), some (.int f), some (.int (tb + 1)), some (.int (q + 1)), r18]) (st' := []) (by decide +kernel) rfl ?_
      refine jx_goto (off := (-24)) (b := 591) (by decide) (by decide +kernel) (by decide) ?_
      exact t8 _ hx

theorem se_618 {B n c s : Nat} {ρ : gS} {h0 h : jv_H} {K : jK} {ro m fr su gr sw fs f tb : Int32} {p aT aS aJ aF aG : Nat} {g : Nat → Nat → Int32} {fT fS fJ fF fG : Nat → Int32} {r17 r18 : Option Value} (hx : LY B n ρ [(aG, 10, fG), (aF, 10, fF), (aJ, 6, fJ), (aS, 6, fS), (aT, 6, fT)] p g c s h0 h) (T : ((0 ≤ f ∧ f.toNatClampNeg < 10) ∧ ((¬ 0 < (fF f.toNatClampNeg) → ((0 ≤ f ∧ f.toNatClampNeg < 10) ∧ ((vFa (ρ 324) f 0) = (fF f.toNatClampNeg) ∧ ((vFa (ρ 324) f 1) = tb ∧ ((0 ≤ f ∧ f.toNatClampNeg < 10) ∧ ((vFa (ρ 324) f 2) = ((fG f.toNatClampNeg) + 1000) ∧ (∀ h1, LY B n ρ [(aG, 10, fG), (aF, 10, fF), (aJ, 6, fJ), (aS, 6, fS), (aT, 6, fT)] p g c s h0 h1 → jE 193 573 [some (.ref B), some (.int ro), some (.int m), some (.int fr), some (.int 1), some (.int su), some (.int gr), some (.int sw), some (.ref aT), some (.ref aS), some (.ref aJ), some (.ref aF), some (.ref aG), some (.ref p), some (.int fs), some (.int (f + 1)), some (.int tb), r17, r18] [] h1 K))))))) ∧ (0 < (fF f.toNatClampNeg) → ((0 ≤ f ∧ f.toNatClampNeg < 10) ∧ ((vFa (ρ 324) f 0) = (fF f.toNatClampNeg) ∧ ((vFa (ρ 324) f 1) = tb ∧ ((0 ≤ f ∧ f.toNatClampNeg < 10) ∧ ((vFa (ρ 324) f 2) = ((fG f.toNatClampNeg) + 1000) ∧ (∀ h1, LY B n ρ [(aG, 10, fG), (aF, 10, fF), (aJ, 6, fJ), (aS, 6, fS), (aT, 6, fT)] p g c s h0 h1 → jE 193 573 [some (.ref B), some (.int ro), some (.int m), some (.int fr), some (.int 1), some (.int su), some (.int gr), some (.int sw), some (.ref aT), some (.ref aS), some (.ref aJ), some (.ref aF), some (.ref aG), some (.ref p), some (.int (fs + 1)), some (.int (f + 1)), some (.int tb), r17, r18] [] h1 K)))))))))) : jE 193 618 [some (.ref B), some (.int ro), some (.int m), some (.int fr), some (.int 1), some (.int su), some (.int gr), some (.int sw), some (.ref aT), some (.ref aS), some (.ref aJ), some (.ref aF), some (.ref aG), some (.ref p), some (.int fs), some (.int f), some (.int tb), r17, r18] [] h K := by
  refine jx_blk (by decide) [(.aload 11, 2), (.iload 15, 2)] (pc' := 622) (Lv' := [some (.ref B), some (.int ro), some (.int m), some (.int fr), some (.int 1), some (.int su), some (.int gr), some (.int sw), some (.ref aT), some (.ref aS), some (.ref aJ), some (.ref aF), some (.ref aG), some (.ref p), some (.int fs), some (.int f), some (.int tb), r17, r18]) (st' := [.int f, .ref aF]) (by decide +kernel) rfl ?_
  obtain ⟨et1, t1⟩ := T
  refine ly_ld (j := f.toNatClampNeg) (by decide) (by decide +kernel) hx (i := 1) rfl ⟨rfl, et1.1⟩ et1.2 ?_
  show jE 193 623 [some (.ref B), some (.int ro), some (.int m), some (.int fr), some (.int 1), some (.int su), some (.int gr), some (.int sw), some (.ref aT), some (.ref aS), some (.ref aJ), some (.ref aF), some (.ref aG), some (.ref p), some (.int fs), some (.int f), some (.int tb), r17, r18] [.int (fF f.toNatClampNeg)] _ K
  refine jx_if_le (off := 6) (b := 629) (by decide) (by decide +kernel) (by decide) (fun e2 => ?_) (fun e2 => ?_)
  · have t3 := t1.1 e2
    refine jx_blk (by decide) [(.aload_n 0, 1), (.iload 15, 2), (.iconst 0, 1)] (pc' := 633) (Lv' := [some (.ref B), some (.int ro), some (.int m), some (.int fr), some (.int 1), some (.int su), some (.int gr), some (.int sw), some (.ref aT), some (.ref aS), some (.ref aJ), some (.ref aF), some (.ref aG), some (.ref p), some (.int fs), some (.int f), some (.int tb), r17, r18]) (st' := [.int 0, .int f, .ref B]) (by decide +kernel) rfl ?_
    refine ly_call (z := 128) (na := 3) (mL := 3) (v := .int (vFa (ρ 324) f 0)) (r := []) [0, f] (by decide +kernel) hx xr_family rfl rfl (fun _ => rfl) (Nat.le_of_ble_eq_true rfl) (fun h5 hx6 => ?_)
    refine jx_blk (by decide) [(.aload 11, 2), (.iload 15, 2)] (pc' := 640) (Lv' := [some (.ref B), some (.int ro), some (.int m), some (.int fr), some (.int 1), some (.int su), some (.int gr), some (.int sw), some (.ref aT), some (.ref aS), some (.ref aJ), some (.ref aF), some (.ref aG), some (.ref p), some (.int fs), some (.int f), some (.int tb), r17, r18]) (st' := [.int f, .ref aF, .int (vFa (ρ 324) f 0)]) (by decide +kernel) rfl ?_
    obtain ⟨et7, t7⟩ := t3
    refine ly_ld (j := f.toNatClampNeg) (by decide) (by decide +kernel) hx6 (i := 1) rfl ⟨rfl, et7.1⟩ et7.2 ?_
    show jE 193 641 [some (.ref B), some (.int ro), some (.int m), some (.int fr), some (.int 1), some (.int su), some (.int gr), some (.int sw), some (.ref aT), some (.ref aS), some (.ref aJ), some (.ref aF), some (.ref aG), some (.ref p), some (.int fs), some (.int f), some (.int tb), r17, r18] [.int (fF f.toNatClampNeg), .int (vFa (ρ 324) f 0)] _ K
    refine jx_ic_ne (off := 38) (b := 679) (by decide) (by decide +kernel) (by decide) (fun e => absurd t7.1 e) (fun _ => ?_)
    have t9 := t7.2
    refine jx_blk (by decide) [(.aload_n 0, 1), (.iload 15, 2), (.iconst 1, 1)] (pc' := 648) (Lv' := [some (.ref B), some (.int ro), some (.int m), some (.int fr), some (.int 1), some (.int su), some (.int gr), some (.int sw), some (.ref aT), some (.ref aS), some (.ref aJ), some (.ref aF), some (.ref aG), some (.ref p), some (.int fs), some (.int f), some (.int tb), r17, r18]) (st' := [.int 1, .int f, .ref B]) (by decide +kernel) rfl ?_
    refine ly_call (z := 128) (na := 3) (mL := 3) (v := .int (vFa (ρ 324) f 1)) (r := []) [1, f] (by decide +kernel) hx6 xr_family rfl rfl (fun _ => rfl) (Nat.le_of_ble_eq_true rfl) (fun h10 hx11 => ?_)
    refine jx_blk (by decide) [(.iload 16, 2)] (pc' := 653) (Lv' := [some (.ref B), some (.int ro), some (.int m), some (.int fr), some (.int 1), some (.int su), some (.int gr), some (.int sw), some (.ref aT), some (.ref aS), some (.ref aJ), some (.ref aF), some (.ref aG), some (.ref p), some (.int fs), some (.int f), some (.int tb), r17, r18]) (st' := [.int tb, .int (vFa (ρ 324) f 1)]) (by decide +kernel) rfl ?_
    refine jx_ic_ne (off := 26) (b := 679) (by decide) (by decide +kernel) (by decide) (fun e => absurd t9.1 e) (fun _ => ?_)
    have t13 := t9.2
    refine jx_blk (by decide) [(.aload_n 0, 1), (.iload 15, 2), (.iconst 2, 1)] (pc' := 660) (Lv' := [some (.ref B), some (.int ro), some (.int m), some (.int fr), some (.int 1), some (.int su), some (.int gr), some (.int sw), some (.ref aT), some (.ref aS), some (.ref aJ), some (.ref aF), some (.ref aG), some (.ref p), some (.int fs), some (.int f), some (.int tb), r17, r18]) (st' := [.int 2, .int f, .ref B]) (by decide +kernel) rfl ?_
    refine ly_call (z := 128) (na := 3) (mL := 3) (v := .int (vFa (ρ 324) f 2)) (r := []) [2, f] (by decide +kernel) hx11 xr_family rfl rfl (fun _ => rfl) (Nat.le_of_ble_eq_true rfl) (fun h14 hx15 => ?_)
    refine jx_blk (by decide) [(.aload 12, 2), (.iload 15, 2)] (pc' := 667) (Lv' := [some (.ref B), some (.int ro), some (.int m), some (.int fr), some (.int 1), some (.int su), some (.int gr), some (.int sw), some (.ref aT), some (.ref aS), some (.ref aJ), some (.ref aF), some (.ref aG), some (.ref p), some (.int fs), some (.int f), some (.int tb), r17, r18]) (st' := [.int f, .ref aG, .int (vFa (ρ 324) f 2)]) (by decide +kernel) rfl ?_
    obtain ⟨et16, t16⟩ := t13
    refine ly_ld (j := f.toNatClampNeg) (by decide) (by decide +kernel) hx15 (i := 0) rfl ⟨rfl, et16.1⟩ et16.2 ?_
    show jE 193 668 [some (.ref B), some (.int ro), some (.int m), some (.int fr), some (.int 1), some (.int su), some (.int gr), some (.int sw), some (.ref aT), some (.ref aS), some (.ref aJ), some (.ref aF), some (.ref aG), some (.ref p), some (.int fs), some (.int f), some (.int tb), r17, r18] [.int (fG f.toNatClampNeg), .int (vFa (ρ 324) f 2)] _ K
    refine jx_blk (by decide) [(.sipush 1000, 3), (.iadd, 1)] (pc' := 672) (Lv' := [some (.ref B), some (.int ro), some (.int m), some (.int fr), some (.int 1), some (.int su), some (.int gr), some (.int sw), some (.ref aT), some (.ref aS), some (.ref aJ), some (.ref aF), some (.ref aG), some (.ref p), some (.int fs), some (.int f), some (.int tb), r17, r18]) (st' := [.int ((fG f.toNatClampNeg) + 1000), .int (vFa (ρ 324) f 2)]) (by decide +kernel) rfl ?_
    refine jx_ic_ne (off := 7) (b := 679) (by decide) (by decide +kernel) (by decide) (fun e => absurd t16.1 e) (fun _ => ?_)
    have t18 := t16.2
    refine jx_blk (by decide) [(.iconst 1, 1)] (pc' := 676) (Lv' := [some (.ref B), some (.int ro), some (.int m), some (.int fr), some (.int 1), some (.int su), some (.int gr), some (.int sw), some (.ref aT), some (.ref aS), some (.ref aJ), some (.ref aF), some (.ref aG), some (.ref p), some (.int fs), some (.int f), some (.int tb), r17, r18]) (st' := [.int 1]) (by decide +kernel) rfl ?_
    refine jx_goto (off := 4) (b := 680) (by decide) (by decide +kernel) (by decide) ?_
    refine jx_blk (by decide) [(.istore 4, 2), (.iinc 15 1, 3)] (pc' := 685) (Lv' := [some (.ref B), some (.int ro), some (.int m), some (.int fr), some (.int 1), some (.int su), some (.int gr), some (.int sw), some (.ref aT), some (.ref aS), some (.ref aJ), some (.ref aF), some (.ref aG), some (.ref p), some (.int fs), some (.int (f + 1)), some (.int tb), r17, r18]) (st' := []) (by decide +kernel) rfl ?_
    refine jx_goto (off := (-112)) (b := 573) (by decide) (by decide +kernel) (by decide) ?_
    exact t18 _ hx15
  · have t4 := t1.2 e2
    refine jx_blk (by decide) [(.iinc 14 1, 3), (.aload_n 0, 1), (.iload 15, 2), (.iconst 0, 1)] (pc' := 633) (Lv' := [some (.ref B), some (.int ro), some (.int m), some (.int fr), some (.int 1), some (.int su), some (.int gr), some (.int sw), some (.ref aT), some (.ref aS), some (.ref aJ), some (.ref aF), some (.ref aG), some (.ref p), some (.int (fs + 1)), some (.int f), some (.int tb), r17, r18]) (st' := [.int 0, .int f, .ref B]) (by decide +kernel) rfl ?_
    refine ly_call (z := 128) (na := 3) (mL := 3) (v := .int (vFa (ρ 324) f 0)) (r := []) [0, f] (by decide +kernel) hx xr_family rfl rfl (fun _ => rfl) (Nat.le_of_ble_eq_true rfl) (fun h19 hx20 => ?_)
    refine jx_blk (by decide) [(.aload 11, 2), (.iload 15, 2)] (pc' := 640) (Lv' := [some (.ref B), some (.int ro), some (.int m), some (.int fr), some (.int 1), some (.int su), some (.int gr), some (.int sw), some (.ref aT), some (.ref aS), some (.ref aJ), some (.ref aF), some (.ref aG), some (.ref p), some (.int (fs + 1)), some (.int f), some (.int tb), r17, r18]) (st' := [.int f, .ref aF, .int (vFa (ρ 324) f 0)]) (by decide +kernel) rfl ?_
    obtain ⟨et21, t21⟩ := t4
    refine ly_ld (j := f.toNatClampNeg) (by decide) (by decide +kernel) hx20 (i := 1) rfl ⟨rfl, et21.1⟩ et21.2 ?_
    show jE 193 641 [some (.ref B), some (.int ro), some (.int m), some (.int fr), some (.int 1), some (.int su), some (.int gr), some (.int sw), some (.ref aT), some (.ref aS), some (.ref aJ), some (.ref aF), some (.ref aG), some (.ref p), some (.int (fs + 1)), some (.int f), some (.int tb), r17, r18] [.int (fF f.toNatClampNeg), .int (vFa (ρ 324) f 0)] _ K
    refine jx_ic_ne (off := 38) (b := 679) (by decide) (by decide +kernel) (by decide) (fun e => absurd t21.1 e) (fun _ => ?_)
    have t23 := t21.2
    refine jx_blk (by decide) [(.aload_n 0, 1), (.iload 15, 2), (.iconst 1, 1)] (pc' := 648) (Lv' := [some (.ref B), some (.int ro), some (.int m), some (.int fr), some (.int 1), some (.int su), some (.int gr), some (.int sw), some (.ref aT), some (.ref aS), some (.ref aJ), some (.ref aF), some (.ref aG), some (.ref p), some (.int (fs + 1)), some (.int f), some (.int tb), r17, r18]) (st' := [.int 1, .int f, .ref B]) (by decide +kernel) rfl ?_
    refine ly_call (z := 128) (na := 3) (mL := 3) (v := .int (vFa (ρ 324) f 1)) (r := []) [1, f] (by decide +kernel) hx20 xr_family rfl rfl (fun _ => rfl) (Nat.le_of_ble_eq_true rfl) (fun h24 hx25 => ?_)
    refine jx_blk (by decide) [(.iload 16, 2)] (pc' := 653) (Lv' := [some (.ref B), some (.int ro), some (.int m), some (.int fr), some (.int 1), some (.int su), some (.int gr), some (.int sw), some (.ref aT), some (.ref aS), some (.ref aJ), some (.ref aF), some (.ref aG), some (.ref p), some (.int (fs + 1)), some (.int f), some (.int tb), r17, r18]) (st' := [.int tb, .int (vFa (ρ 324) f 1)]) (by decide +kernel) rfl ?_
    refine jx_ic_ne (off := 26) (b := 679) (by decide) (by decide +kernel) (by decide) (fun e => absurd t23.1 e) (fun _ => ?_)
    have t27 := t23.2
    refine jx_blk (by decide) [(.aload_n 0, 1), (.iload 15, 2), (.iconst 2, 1)] (pc' := 660) (Lv' := [some (.ref B), some (.int ro), some (.int m), some (.int fr), some (.int 1), some (.int su), some (.int gr), some (.int sw), some (.ref aT), some (.ref aS), some (.ref aJ), some (.ref aF), some (.ref aG), some (.ref p), some (.int (fs + 1)), some (.int f), some (.int tb), r17, r18]) (st' := [.int 2, .int f, .ref B]) (by decide +kernel) rfl ?_
    refine ly_call (z := 128) (na := 3) (mL := 3) (v := .int (vFa (ρ 324) f 2)) (r := []) [2, f] (by decide +kernel) hx25 xr_family rfl rfl (fun _ => rfl) (Nat.le_of_ble_eq_true rfl) (fun h28 hx29 => ?_)
    refine jx_blk (by decide) [(.aload 12, 2), (.iload 15, 2)] (pc' := 667) (Lv' := [some (.ref B), some (.int ro), some (.int m), some (.int fr), some (.int 1), some (.int su), some (.int gr), some (.int sw), some (.ref aT), some (.ref aS), some (.ref aJ), some (.ref aF), some (.ref aG), some (.ref p), some (.int (fs + 1)), some (.int f), some (.int tb), r17, r18]) (st' := [.int f, .ref aG, .int (vFa (ρ 324) f 2)]) (by decide +kernel) rfl ?_
    obtain ⟨et30, t30⟩ := t27
    refine ly_ld (j := f.toNatClampNeg) (by decide) (by decide +kernel) hx29 (i := 0) rfl ⟨rfl, et30.1⟩ et30.2 ?_
    show jE 193 668 [some (.ref B), some (.int ro), some (.int m), some (.int fr), some (.int 1), some (.int su), some (.int gr), some (.int sw), some (.ref aT), some (.ref aS), some (.ref aJ), some (.ref aF), some (.ref aG), some (.ref p), some (.int (fs + 1)), some (.int f), some (.int tb), r17, r18] [.int (fG f.toNatClampNeg), .int (vFa (ρ 324) f 2)] _ K
    refine jx_blk (by decide) [(.sipush 1000, 3), (.iadd, 1)] (pc' := 672) (Lv' := [some (.ref B), some (.int ro), some (.int m), some (.int fr), some (.int 1), some (.int su), some (.int gr), some (.int sw), some (.ref aT), some (.ref aS), some (.ref aJ), some (.ref aF), some (.ref aG), some (.ref p), some (.int (fs + 1)), some (.int f), some (.int tb), r17, r18]) (st' := [.int ((fG f.toNatClampNeg) + 1000), .int (vFa (ρ 324) f 2)]) (by decide +kernel) rfl ?_
    refine jx_ic_ne (off := 7) (b := 679) (by decide) (by decide +kernel) (by decide) (fun e => absurd t30.1 e) (fun _ => ?_)
    have t32 := t30.2
    refine jx_blk (by decide) [(.iconst 1, 1)] (pc' := 676) (Lv' := [some (.ref B), some (.int ro), some (.int m), some (.int fr), some (.int 1), some (.int su), some (.int gr), some (.int sw), some (.ref aT), some (.ref aS), some (.ref aJ), some (.ref aF), some (.ref aG), some (.ref p), some (.int (fs + 1)), some (.int f), some (.int tb), r17, r18]) (st' := [.int 1]) (by decide +kernel) rfl ?_
    refine jx_goto (off := 4) (b := 680) (by decide) (by decide +kernel) (by decide) ?_
    refine jx_blk (by decide) [(.istore 4, 2), (.iinc 15 1, 3)] (pc' := 685) (Lv' := [some (.ref B), some (.int ro), some (.int m), some (.int fr), some (.int 1), some (.int su), some (.int gr), some (.int sw), some (.ref aT), some (.ref aS), some (.ref aJ), some (.ref aF), some (.ref aG), some (.ref p), some (.int (fs + 1)), some (.int (f + 1)), some (.int tb), r17, r18]) (st' := []) (by decide +kernel) rfl ?_
    refine jx_goto (off := (-112)) (b := 573) (by decide) (by decide +kernel) (by decide) ?_
    exact t32 _ hx29

theorem se_688 {B n c s : Nat} {ρ : gS} {h0 h : jv_H} {K : jK} {ro m fr su gr sw fs : Int32} {p aT aS aJ aF aG : Nat} {g : Nat → Nat → Int32} {fT fS fJ fF fG : Nat → Int32} {r15 r16 r17 r18 : Option Value} (hx : LY B n ρ [(aG, 10, fG), (aF, 10, fF), (aJ, 6, fJ), (aS, 6, fS), (aT, 6, fT)] p g c s h0 h) (T : (∀ h1, LY B n ρ [(aG, 10, fG), (aF, 10, fF), (aJ, 6, fJ), (aS, 6, fS), (aT, 6, fT)] p g c s h0 h1 → jE 193 691 [some (.ref B), some (.int ro), some (.int m), some (.int fr), some (.int 1), some (.int su), some (.int gr), some (.int sw), some (.ref aT), some (.ref aS), some (.ref aJ), some (.ref aF), some (.ref aG), some (.ref p), some (.int fs), some (.int 0), r16, r17, r18] [] h1 K)) : jE 193 688 [some (.ref B), some (.int ro), some (.int m), some (.int fr), some (.int 1), some (.int su), some (.int gr), some (.int sw), some (.ref aT), some (.ref aS), some (.ref aJ), some (.ref aF), some (.ref aG), some (.ref p), some (.int fs), r15, r16, r17, r18] [] h K := by
  refine jx_blk (by decide) [(.iconst 0, 1), (.istore 15, 2)] (pc' := 691) (Lv' := [some (.ref B), some (.int ro), some (.int m), some (.int fr), some (.int 1), some (.int su), some (.int gr), some (.int sw), some (.ref aT), some (.ref aS), some (.ref aJ), some (.ref aF), some (.ref aG), some (.ref p), some (.int fs), some (.int 0), r16, r17, r18]) (st' := []) (by decide +kernel) rfl ?_
  exact T _ hx

theorem se_691 {B n c s : Nat} {ρ : gS} {h0 h : jv_H} {K : jK} {ro m fr su gr sw fs q : Int32} {p aT aS aJ aF aG : Nat} {g : Nat → Nat → Int32} {fT fS fJ fF fG : Nat → Int32} {r16 r17 r18 : Option Value} (hx : LY B n ρ [(aG, 10, fG), (aF, 10, fF), (aJ, 6, fJ), (aS, 6, fS), (aT, 6, fT)] p g c s h0 h) (T : ((¬ q < ((ρ 324 0 + 1) / 2) → (∀ h1, LY B n ρ [(aG, 10, fG), (aF, 10, fF), (aJ, 6, fJ), (aS, 6, fS), (aT, 6, fT)] p g c s h0 h1 → jE 193 839 [some (.ref B), some (.int ro), some (.int m), some (.int fr), some (.int 1), some (.int su), some (.int gr), some (.int sw), some (.ref aT), some (.ref aS), some (.ref aJ), some (.ref aF), some (.ref aG), some (.ref p), some (.int fs), some (.int q), r16, r17, r18] [] h1 K)) ∧ (q < ((ρ 324 0 + 1) / 2) → (∀ h1, LY B n ρ [(aG, 10, fG), (aF, 10, fF), (aJ, 6, fJ), (aS, 6, fS), (aT, 6, fT)] p g c s h0 h1 → jE 193 713 [some (.ref B), some (.int ro), some (.int m), some (.int fr), some (.int 1), some (.int su), some (.int gr), some (.int sw), some (.ref aT), some (.ref aS), some (.ref aJ), some (.ref aF), some (.ref aG), some (.ref p), some (.int fs), some (.int q), some (.int 0), some (.int 1), r18] [] h1 K)))) : jE 193 691 [some (.ref B), some (.int ro), some (.int m), some (.int fr), some (.int 1), some (.int su), some (.int gr), some (.int sw), some (.ref aT), some (.ref aS), some (.ref aJ), some (.ref aF), some (.ref aG), some (.ref p), some (.int fs), some (.int q), r16, r17, r18] [] h K := by
  refine jx_blk (by decide) [(.iload 15, 2), (.aload_n 0, 1), (.bipush 13, 2)] (pc' := 696) (Lv' := [some (.ref B), some (.int ro), some (.int m), some (.int fr), some (.int 1), some (.int su), some (.int gr), some (.int sw), some (.ref aT), some (.ref aS), some (.ref aJ), some (.ref aF), some (.ref aG), some (.ref p), some (.int fs), some (.int q), r16, r17, r18]) (st' := [.int 13, .ref B, .int q]) (by decide +kernel) rfl ?_
  refine ly_call (z := 123) (na := 2) (mL := 2) (v := .int ((ρ 324 0 + 1) / 2)) (r := [.int q]) [13] (by decide +kernel) hx xr_v13 rfl rfl (fun _ => rfl) (Nat.le_of_ble_eq_true rfl) (fun h1 hx2 => ?_)
  refine jx_ic_ge (off := 140) (b := 839) (by decide) (by decide +kernel) (by decide) (fun e3 => ?_) (fun e3 => ?_)
  · have t4 := T.1 e3
    exact t4 _ hx2
  · have t5 := T.2 e3
    refine jx_blk (by decide) [(.iload 4, 2)] (pc' := 704) (Lv' := [some (.ref B), some (.int ro), some (.int m), some (.int fr), some (.int 1), some (.int su), some (.int gr), some (.int sw), some (.ref aT), some (.ref aS), some (.ref aJ), some (.ref aF), some (.ref aG), some (.ref p), some (.int fs), some (.int q), r16, r17, r18]) (st' := [.int 1]) (by decide +kernel) rfl ?_
    refine jx_if_eq (off := 135) (b := 839) (by decide) (by decide +kernel) (by decide) (fun e => absurd e (by decide)) (fun _ => ?_)
    refine jx_blk (by decide) [(.iconst 0, 1), (.istore 16, 2), (.iconst 1, 1), (.istore 17, 2)] (pc' := 713) (Lv' := [some (.ref B), some (.int ro), some (.int m), some (.int fr), some (.int 1), some (.int su), some (.int gr), some (.int sw), some (.ref aT), some (.ref aS), some (.ref aJ), some (.ref aF), some (.ref aG), some (.ref p), some (.int fs), some (.int q), some (.int 0), some (.int 1), r18]) (st' := []) (by decide +kernel) rfl ?_
    exact t5 _ hx2

theorem se_713 {B n c s : Nat} {ρ : gS} {h0 h : jv_H} {K : jK} {ro m fr su gr sw fs q mo f : Int32} {p aT aS aJ aF aG : Nat} {g : Nat → Nat → Int32} {fT fS fJ fF fG : Nat → Int32} {r18 : Option Value} (hx : LY B n ρ [(aG, 10, fG), (aF, 10, fF), (aJ, 6, fJ), (aS, 6, fS), (aT, 6, fT)] p g c s h0 h) (T : ((¬ f < 10 → (∀ h1, LY B n ρ [(aG, 10, fG), (aF, 10, fF), (aJ, 6, fJ), (aS, 6, fS), (aT, 6, fT)] p g c s h0 h1 → jE 193 765 [some (.ref B), some (.int ro), some (.int m), some (.int fr), some (.int 1), some (.int su), some (.int gr), some (.int sw), some (.ref aT), some (.ref aS), some (.ref aJ), some (.ref aF), some (.ref aG), some (.ref p), some (.int fs), some (.int q), some (.int mo), some (.int f), r18] [] h1 K)) ∧ (f < 10 → ((0 ≤ q ∧ q.toNatClampNeg < 6) ∧ ((0 ≤ f ∧ f.toNatClampNeg < 10) ∧ ((0 ≤ q ∧ q.toNatClampNeg < 6) ∧ ((0 ≤ mo ∧ mo.toNatClampNeg < 10) ∧ (((g q.toNatClampNeg mo.toNatClampNeg) < (g q.toNatClampNeg f.toNatClampNeg) → (∀ h1, LY B n ρ [(aG, 10, fG), (aF, 10, fF), (aJ, 6, fJ), (aS, 6, fS), (aT, 6, fT)] p g c s h0 h1 → jE 193 713 [some (.ref B), some (.int ro), some (.int m), some (.int fr), some (.int 1), some (.int su), some (.int gr), some (.int sw), some (.ref aT), some (.ref aS), some (.ref aJ), some (.ref aF), some (.ref aG), some (.ref p), some (.int fs), some (.int q), some (.int f), some (.int (f + 1)), r18] [] h1 K)) ∧ (¬ (g q.toNatClampNeg mo.toNatClampNeg) < (g q.toNatClampNeg f.toNatClampNeg) → ((¬ mo = 0 → (∀ h1, LY B n ρ [(aG, 10, fG), (aF, 10, fF), (aJ, 6, fJ), (aS, 6, fS), (aT, 6, fT)] p g c s h0 h1 → jE 193 713 [some (.ref B), some (.int ro), some (.int m), some (.int fr), some (.int 1), some (.int su), some (.int gr), some (.int sw), some (.ref aT), some (.ref aS), some (.ref aJ), some (.ref aF), some (.ref aG), some (.ref p), some (.int fs), some (.int q), some (.int mo), some (.int (f + 1)), r18] [] h1 K)) ∧ (mo = 0 → ((0 ≤ q ∧ q.toNatClampNeg < 6) ∧ ((0 ≤ f ∧ f.toNatClampNeg < 10) ∧ ((¬ 0 < (g q.toNatClampNeg f.toNatClampNeg) → (∀ h1, LY B n ρ [(aG, 10, fG), (aF, 10, fF), (aJ, 6, fJ), (aS, 6, fS), (aT, 6, fT)] p g c s h0 h1 → jE 193 713 [some (.ref B), some (.int ro), some (.int m), some (.int fr), some (.int 1), some (.int su), some (.int gr), some (.int sw), some (.ref aT), some (.ref aS), some (.ref aJ), some (.ref aF), some (.ref aG), some (.ref p), some (.int fs), some (.int q), some (.int mo), some (.int (f + 1)), r18] [] h1 K)) ∧ (0 < (g q.toNatClampNeg f.toNatClampNeg) → (∀ h1, LY B n ρ [(aG, 10, fG), (aF, 10, fF), (aJ, 6, fJ), (aS, 6, fS), (aT, 6, fT)] p g c s h0 h1 → jE 193 713 [some (.ref B), some (.int ro), some (.int m), some (.int fr), some (.int 1), some (.int su), some (.int gr), some (.int sw), some (.ref aT), some (.ref aS), some (.ref aJ), some (.ref aF), some (.ref aG), some (.ref p), some (.int fs), some (.int q), some (.int f), some (.int (f + 1)), r18] [] h1 K)))))))))))))))) : jE 193 713 [some (.ref B), some (.int ro), some (.int m), some (.int fr), some (.int 1), some (.int su), some (.int gr), some (.int sw), some (.ref aT), some (.ref aS), some (.ref aJ), some (.ref aF), some (.ref aG), some (.ref p), some (.int fs), some (.int q), some (.int mo), some (.int f), r18] [] h K := by
  refine jx_blk (by decide) [(.iload 17, 2), (.bipush 10, 2)] (pc' := 717) (Lv' := [some (.ref B), some (.int ro), some (.int m), some (.int fr), some (.int 1), some (.int su), some (.int gr), some (.int sw), some (.ref aT), some (.ref aS), some (.ref aJ), some (.ref aF), some (.ref aG), some (.ref p), some (.int fs), some (.int q), some (.int mo), some (.int f), r18]) (st' := [.int 10, .int f]) (by decide +kernel) rfl ?_
  refine jx_ic_ge (off := 48) (b := 765) (by decide) (by decide +kernel) (by decide) (fun e1 => ?_) (fun e1 => ?_)
  · have t2 := T.1 e1
    exact t2 _ hx
  · have t3 := T.2 e1
    refine jx_blk (by decide) [(.aload 13, 2), (.iload 15, 2)] (pc' := 724) (Lv' := [some (.ref B), some (.int ro), some (.int m), some (.int fr), some (.int 1), some (.int su), some (.int gr), some (.int sw), some (.ref aT), some (.ref aS), some (.ref aJ), some (.ref aF), some (.ref aG), some (.ref p), some (.int fs), some (.int q), some (.int mo), some (.int f), r18]) (st' := [.int q, .ref p]) (by decide +kernel) rfl ?_
    obtain ⟨et4, t4⟩ := t3
    refine ly_aa (k := q.toNatClampNeg) (by decide) (by decide +kernel) hx ⟨rfl, et4.1⟩ et4.2 ?_
    refine jx_blk (by decide) [(.iload 17, 2)] (pc' := 727) (Lv' := [some (.ref B), some (.int ro), some (.int m), some (.int fr), some (.int 1), some (.int su), some (.int gr), some (.int sw), some (.ref aT), some (.ref aS), some (.ref aJ), some (.ref aF), some (.ref aG), some (.ref p), some (.int fs), some (.int q), some (.int mo), some (.int f), r18]) (st' := [.int f, .ref (p + 1 + q.toNatClampNeg)]) (by decide +kernel) rfl ?_
    obtain ⟨et5, t5⟩ := t4
    refine ly_ml (i := q.toNatClampNeg) (j := f.toNatClampNeg) (by decide) (by decide +kernel) hx et4.2 ⟨rfl, et5.1⟩ et5.2 ?_
    refine jx_blk (by decide) [(.aload 13, 2), (.iload 15, 2)] (pc' := 732) (Lv' := [some (.ref B), some (.int ro), some (.int m), some (.int fr), some (.int 1), some (.int su), some (.int gr), some (.int sw), some (.ref aT), some (.ref aS), some (.ref aJ), some (.ref aF), some (.ref aG), some (.ref p), some (.int fs), some (.int q), some (.int mo), some (.int f), r18]) (st' := [.int q, .ref p, .int (g q.toNatClampNeg f.toNatClampNeg)]) (by decide +kernel) rfl ?_
    obtain ⟨et6, t6⟩ := t5
    refine ly_aa (k := q.toNatClampNeg) (by decide) (by decide +kernel) hx ⟨rfl, et6.1⟩ et6.2 ?_
    refine jx_blk (by decide) [(.iload 16, 2)] (pc' := 735) (Lv' := [some (.ref B), some (.int ro), some (.int m), some (.int fr), some (.int 1), some (.int su), some (.int gr), some (.int sw), some (.ref aT), some (.ref aS), some (.ref aJ), some (.ref aF), some (.ref aG), some (.ref p), some (.int fs), some (.int q), some (.int mo), some (.int f), r18]) (st' := [.int mo, .ref (p + 1 + q.toNatClampNeg), .int (g q.toNatClampNeg f.toNatClampNeg)]) (by decide +kernel) rfl ?_
    obtain ⟨et7, t7⟩ := t6
    refine ly_ml (i := q.toNatClampNeg) (j := mo.toNatClampNeg) (by decide) (by decide +kernel) hx et6.2 ⟨rfl, et7.1⟩ et7.2 ?_
    refine jx_ic_gt (off := 19) (b := 755) (by decide) (by decide +kernel) (by decide) (fun e8 => ?_) (fun e8 => ?_)
    · have t9 := t7.1 e8
      refine jx_blk (by decide) [(.iload 17, 2), (.istore 16, 2), (.iinc 17 1, 3)] (pc' := 762) (Lv' := [some (.ref B), some (.int ro), some (.int m), some (.int fr), some (.int 1), some (.int su), some (.int gr), some (.int sw), some (.ref aT), some (.ref aS), some (.ref aJ), some (.ref aF), some (.ref aG), some (.ref p), some (.int fs), some (.int q), some (.int f), some (.int (f + 1)), r18]) (st' := []) (by decide +kernel) rfl ?_
      refine jx_goto (off := (-49)) (b := 713) (by decide) (by decide +kernel) (by decide) ?_
      exact t9 _ hx
    · have t10 := t7.2 e8
      refine jx_blk (by decide) [(.iload 16, 2)] (pc' := 741) (Lv' := [some (.ref B), some (.int ro), some (.int m), some (.int fr), some (.int 1), some (.int su), some (.int gr), some (.int sw), some (.ref aT), some (.ref aS), some (.ref aJ), some (.ref aF), some (.ref aG), some (.ref p), some (.int fs), some (.int q), some (.int mo), some (.int f), r18]) (st' := [.int mo]) (by decide +kernel) rfl ?_
      refine jx_if_ne (off := 18) (b := 759) (by decide) (by decide +kernel) (by decide) (fun e11 => ?_) (fun e11 => ?_)
      · have t12 := t10.1 e11
        refine jx_blk (by decide) [(.iinc 17 1, 3)] (pc' := 762) (Lv' := [some (.ref B), some (.int ro), some (.int m), some (.int fr), some (.int 1), some (.int su), some (.int gr), some (.int sw), some (.ref aT), some (.ref aS), some (.ref aJ), some (.ref aF), some (.ref aG), some (.ref p), some (.int fs), some (.int q), some (.int mo), some (.int (f + 1)), r18]) (st' := []) (by decide +kernel) rfl ?_
        refine jx_goto (off := (-49)) (b := 713) (by decide) (by decide +kernel) (by decide) ?_
        exact t12 _ hx
      · have t13 := t10.2 e11
        refine jx_blk (by decide) [(.aload 13, 2), (.iload 15, 2)] (pc' := 748) (Lv' := [some (.ref B), some (.int ro), some (.int m), some (.int fr), some (.int 1), some (.int su), some (.int gr), some (.int sw), some (.ref aT), some (.ref aS), some (.ref aJ), some (.ref aF), some (.ref aG), some (.ref p), some (.int fs), some (.int q), some (.int mo), some (.int f), r18]) (st' := [.int q, .ref p]) (by decide +kernel) rfl ?_
        obtain ⟨et14, t14⟩ := t13
        refine ly_aa (k := q.toNatClampNeg) (by decide) (by decide +kernel) hx ⟨rfl, et14.1⟩ et14.2 ?_
        refine jx_blk (by decide) [(.iload 17, 2)] (pc' := 751) (Lv' := [some (.ref B), some (.int ro), some (.int m), some (.int fr), some (.int 1), some (.int su), some (.int gr), some (.int sw), some (.ref aT), some (.ref aS), some (.ref aJ), some (.ref aF), some (.ref aG), some (.ref p), some (.int fs), some (.int q), some (.int mo), some (.int f), r18]) (st' := [.int f, .ref (p + 1 + q.toNatClampNeg)]) (by decide +kernel) rfl ?_
        obtain ⟨et15, t15⟩ := t14
        refine ly_ml (i := q.toNatClampNeg) (j := f.toNatClampNeg) (by decide) (by decide +kernel) hx et14.2 ⟨rfl, et15.1⟩ et15.2 ?_
        refine jx_if_le (off := 7) (b := 759) (by decide) (by decide +kernel) (by decide) (fun e16 => ?_) (fun e16 => ?_)
        · have t17 := t15.1 e16
          refine jx_blk (by decide) [(.iinc 17 1, 3)] (pc' := 762) (Lv' := [some (.ref B), some (.int ro), some (.int m), some (.int fr), some (.int 1), some (.int su), some (.int gr), some (.int sw), some (.ref aT), some (.ref aS), some (.ref aJ), some (.ref aF), some (.ref aG), some (.ref p), some (.int fs), some (.int q), some (.int mo), some (.int (f + 1)), r18]) (st' := []) (by decide +kernel) rfl ?_
          refine jx_goto (off := (-49)) (b := 713) (by decide) (by decide +kernel) (by decide) ?_
          exact t17 _ hx
        · have t18 := t15.2 e16
          refine jx_blk (by decide) [(.iload 17, 2), (.istore 16, 2), (.iinc 17 1, 3)] (pc' := 762) (Lv' := [some (.ref B), some (.int ro), some (.int m), some (.int fr), some (.int 1), some (.int su), some (.int gr), some (.int sw), some (.ref aT), some (.ref aS), some (.ref aJ), some (.ref aF), some (.ref aG), some (.ref p), some (.int fs), some (.int q), some (.int f), some (.int (f + 1)), r18]) (st' := []) (by decide +kernel) rfl ?_
          refine jx_goto (off := (-49)) (b := 713) (by decide) (by decide +kernel) (by decide) ?_
          exact t18 _ hx

theorem se_765 {B n c s : Nat} {ρ : gS} {h0 h : jv_H} {K : jK} {ro m fr su gr sw fs q mo : Int32} {p aT aS aJ aF aG : Nat} {g : Nat → Nat → Int32} {fT fS fJ fF fG : Nat → Int32} {r17 r18 : Option Value} (hx : LY B n ρ [(aG, 10, fG), (aF, 10, fF), (aJ, 6, fJ), (aS, 6, fS), (aT, 6, fT)] p g c s h0 h) (T : ((0 ≤ q ∧ q.toNatClampNeg < 6) ∧ ((vTb (ρ 324) q 0) = (fT q.toNatClampNeg) ∧ ((0 ≤ q ∧ q.toNatClampNeg < 6) ∧ ((vTb (ρ 324) q 1) = (fS q.toNatClampNeg) ∧ ((0 ≤ q ∧ q.toNatClampNeg < 6) ∧ ((vTb (ρ 324) q 2) = ((fJ q.toNatClampNeg) + 1000) ∧ ((vTb (ρ 324) q 3) = mo ∧ (∀ h1, LY B n ρ [(aG, 10, fG), (aF, 10, fF), (aJ, 6, fJ), (aS, 6, fS), (aT, 6, fT)] p g c s h0 h1 → jE 193 691 [some (.ref B), some (.int ro), some (.int m), some (.int fr), some (.int 1), some (.int su), some (.int gr), some (.int sw), some (.ref aT), some (.ref aS), some (.ref aJ), some (.ref aF), some (.ref aG), some (.ref p), some (.int fs), some (.int (q + 1)), some (.int mo), r17, r18] [] h1 K))))))))) : jE 193 765 [some (.ref B), some (.int ro), some (.int m), some (.int fr), some (.int 1), some (.int su), some (.int gr), some (.int sw), some (.ref aT), some (.ref aS), some (.ref aJ), some (.ref aF), some (.ref aG), some (.ref p), some (.int fs), some (.int q), some (.int mo), r17, r18] [] h K := by
  refine jx_blk (by decide) [(.aload_n 0, 1), (.iload 15, 2), (.iconst 0, 1)] (pc' := 769) (Lv' := [some (.ref B), some (.int ro), some (.int m), some (.int fr), some (.int 1), some (.int su), some (.int gr), some (.int sw), some (.ref aT), some (.ref aS), some (.ref aJ), some (.ref aF), some (.ref aG), some (.ref p), some (.int fs), some (.int q), some (.int mo), r17, r18]) (st' := [.int 0, .int q, .ref B]) (by decide +kernel) rfl ?_
  refine ly_call (z := 127) (na := 3) (mL := 3) (v := .int (vTb (ρ 324) q 0)) (r := []) [0, q] (by decide +kernel) hx xr_table rfl rfl (fun _ => rfl) (Nat.le_of_ble_eq_true rfl) (fun h1 hx2 => ?_)
  refine jx_blk (by decide) [(.aload 8, 2), (.iload 15, 2)] (pc' := 776) (Lv' := [some (.ref B), some (.int ro), some (.int m), some (.int fr), some (.int 1), some (.int su), some (.int gr), some (.int sw), some (.ref aT), some (.ref aS), some (.ref aJ), some (.ref aF), some (.ref aG), some (.ref p), some (.int fs), some (.int q), some (.int mo), r17, r18]) (st' := [.int q, .ref aT, .int (vTb (ρ 324) q 0)]) (by decide +kernel) rfl ?_
  obtain ⟨et3, t3⟩ := T
  refine ly_ld (j := q.toNatClampNeg) (by decide) (by decide +kernel) hx2 (i := 4) rfl ⟨rfl, et3.1⟩ et3.2 ?_
  show jE 193 777 [some (.ref B), some (.int ro), some (.int m), some (.int fr), some (.int 1), some (.int su), some (.int gr), some (.int sw), some (.ref aT), some (.ref aS), some (.ref aJ), some (.ref aF), some (.ref aG), some (.ref p), some (.int fs), some (.int q), some (.int mo), r17, r18] [.int (fT q.toNatClampNeg), .int (vTb (ρ 324) q 0)] _ K
  refine jx_ic_ne (off := 53) (b := 830) (by decide) (by decide +kernel) (by decide) (fun e => absurd t3.1 e) (fun _ => ?_)
  have t5 := t3.2
  refine jx_blk (by decide) [(.aload_n 0, 1), (.iload 15, 2), (.iconst 1, 1)] (pc' := 784) (Lv' := [some (.ref B), some (.int ro), some (.int m), some (.int fr), some (.int 1), some (.int su), some (.int gr), some (.int sw), some (.ref aT), some (.ref aS), some (.ref aJ), some (.ref aF), some (.ref aG), some (.ref p), some (.int fs), some (.int q), some (.int mo), r17, r18]) (st' := [.int 1, .int q, .ref B]) (by decide +kernel) rfl ?_
  refine ly_call (z := 127) (na := 3) (mL := 3) (v := .int (vTb (ρ 324) q 1)) (r := []) [1, q] (by decide +kernel) hx2 xr_table rfl rfl (fun _ => rfl) (Nat.le_of_ble_eq_true rfl) (fun h6 hx7 => ?_)
  refine jx_blk (by decide) [(.aload 9, 2), (.iload 15, 2)] (pc' := 791) (Lv' := [some (.ref B), some (.int ro), some (.int m), some (.int fr), some (.int 1), some (.int su), some (.int gr), some (.int sw), some (.ref aT), some (.ref aS), some (.ref aJ), some (.ref aF), some (.ref aG), some (.ref p), some (.int fs), some (.int q), some (.int mo), r17, r18]) (st' := [.int q, .ref aS, .int (vTb (ρ 324) q 1)]) (by decide +kernel) rfl ?_
  obtain ⟨et8, t8⟩ := t5
  refine ly_ld (j := q.toNatClampNeg) (by decide) (by decide +kernel) hx7 (i := 3) rfl ⟨rfl, et8.1⟩ et8.2 ?_
  show jE 193 792 [some (.ref B), some (.int ro), some (.int m), some (.int fr), some (.int 1), some (.int su), some (.int gr), some (.int sw), some (.ref aT), some (.ref aS), some (.ref aJ), some (.ref aF), some (.ref aG), some (.ref p), some (.int fs), some (.int q), some (.int mo), r17, r18] [.int (fS q.toNatClampNeg), .int (vTb (ρ 324) q 1)] _ K
  refine jx_ic_ne (off := 38) (b := 830) (by decide) (by decide +kernel) (by decide) (fun e => absurd t8.1 e) (fun _ => ?_)
  have t10 := t8.2
  refine jx_blk (by decide) [(.aload_n 0, 1), (.iload 15, 2), (.iconst 2, 1)] (pc' := 799) (Lv' := [some (.ref B), some (.int ro), some (.int m), some (.int fr), some (.int 1), some (.int su), some (.int gr), some (.int sw), some (.ref aT), some (.ref aS), some (.ref aJ), some (.ref aF), some (.ref aG), some (.ref p), some (.int fs), some (.int q), some (.int mo), r17, r18]) (st' := [.int 2, .int q, .ref B]) (by decide +kernel) rfl ?_
  refine ly_call (z := 127) (na := 3) (mL := 3) (v := .int (vTb (ρ 324) q 2)) (r := []) [2, q] (by decide +kernel) hx7 xr_table rfl rfl (fun _ => rfl) (Nat.le_of_ble_eq_true rfl) (fun h11 hx12 => ?_)
  refine jx_blk (by decide) [(.aload 10, 2), (.iload 15, 2)] (pc' := 806) (Lv' := [some (.ref B), some (.int ro), some (.int m), some (.int fr), some (.int 1), some (.int su), some (.int gr), some (.int sw), some (.ref aT), some (.ref aS), some (.ref aJ), some (.ref aF), some (.ref aG), some (.ref p), some (.int fs), some (.int q), some (.int mo), r17, r18]) (st' := [.int q, .ref aJ, .int (vTb (ρ 324) q 2)]) (by decide +kernel) rfl ?_
  obtain ⟨et13, t13⟩ := t10
  refine ly_ld (j := q.toNatClampNeg) (by decide) (by decide +kernel) hx12 (i := 2) rfl ⟨rfl, et13.1⟩ et13.2 ?_
  show jE 193 807 [some (.ref B), some (.int ro), some (.int m), some (.int fr), some (.int 1), some (.int su), some (.int gr), some (.int sw), some (.ref aT), some (.ref aS), some (.ref aJ), some (.ref aF), some (.ref aG), some (.ref p), some (.int fs), some (.int q), some (.int mo), r17, r18] [.int (fJ q.toNatClampNeg), .int (vTb (ρ 324) q 2)] _ K
  refine jx_blk (by decide) [(.sipush 1000, 3), (.iadd, 1)] (pc' := 811) (Lv' := [some (.ref B), some (.int ro), some (.int m), some (.int fr), some (.int 1), some (.int su), some (.int gr), some (.int sw), some (.ref aT), some (.ref aS), some (.ref aJ), some (.ref aF), some (.ref aG), some (.ref p), some (.int fs), some (.int q), some (.int mo), r17, r18]) (st' := [.int ((fJ q.toNatClampNeg) + 1000), .int (vTb (ρ 324) q 2)]) (by decide +kernel) rfl ?_
  refine jx_ic_ne (off := 19) (b := 830) (by decide) (by decide +kernel) (by decide) (fun e => absurd t13.1 e) (fun _ => ?_)
  have t15 := t13.2
  refine jx_blk (by decide) [(.aload_n 0, 1), (.iload 15, 2), (.iconst 3, 1)] (pc' := 818) (Lv' := [some (.ref B), some (.int ro), some (.int m), some (.int fr), some (.int 1), some (.int su), some (.int gr), some (.int sw), some (.ref aT), some (.ref aS), some (.ref aJ), some (.ref aF), some (.ref aG), some (.ref p), some (.int fs), some (.int q), some (.int mo), r17, r18]) (st' := [.int 3, .int q, .ref B]) (by decide +kernel) rfl ?_
  refine ly_call (z := 127) (na := 3) (mL := 3) (v := .int (vTb (ρ 324) q 3)) (r := []) [3, q] (by decide +kernel) hx12 xr_table rfl rfl (fun _ => rfl) (Nat.le_of_ble_eq_true rfl) (fun h16 hx17 => ?_)
  refine jx_blk (by decide) [(.iload 16, 2)] (pc' := 823) (Lv' := [some (.ref B), some (.int ro), some (.int m), some (.int fr), some (.int 1), some (.int su), some (.int gr), some (.int sw), some (.ref aT), some (.ref aS), some (.ref aJ), some (.ref aF), some (.ref aG), some (.ref p), some (.int fs), some (.int q), some (.int mo), r17, r18]) (st' := [.int mo, .int (vTb (ρ 324) q 3)]) (by decide +kernel) rfl ?_
  refine jx_ic_ne (off := 7) (b := 830) (by decide) (by decide +kernel) (by decide) (fun e => absurd t15.1 e) (fun _ => ?_)
  have t19 := t15.2
  refine jx_blk (by decide) [(.iconst 1, 1)] (pc' := 827) (Lv' := [some (.ref B), some (.int ro), some (.int m), some (.int fr), some (.int 1), some (.int su), some (.int gr), some (.int sw), some (.ref aT), some (.ref aS), some (.ref aJ), some (.ref aF), some (.ref aG), some (.ref p), some (.int fs), some (.int q), some (.int mo), r17, r18]) (st' := [.int 1]) (by decide +kernel) rfl ?_
  refine jx_goto (off := 4) (b := 831) (by decide) (by decide +kernel) (by decide) ?_
  refine jx_blk (by decide) [(.istore 4, 2), (.iinc 15 1, 3)] (pc' := 836) (Lv' := [some (.ref B), some (.int ro), some (.int m), some (.int fr), some (.int 1), some (.int su), some (.int gr), some (.int sw), some (.ref aT), some (.ref aS), some (.ref aJ), some (.ref aF), some (.ref aG), some (.ref p), some (.int fs), some (.int (q + 1)), some (.int mo), r17, r18]) (st' := []) (by decide +kernel) rfl ?_
  refine jx_goto (off := (-145)) (b := 691) (by decide) (by decide +kernel) (by decide) ?_
  exact t19 _ hx17

theorem se_839 {B n c s : Nat} {ρ : gS} {h0 h : jv_H} {K : jK} {ro m fr su gr sw fs : Int32} {p aT aS aJ aF aG : Nat} {g : Nat → Nat → Int32} {fT fS fJ fF fG : Nat → Int32} {r15 r16 r17 r18 : Option Value} (hx : LY B n ρ [(aG, 10, fG), (aF, 10, fF), (aJ, 6, fJ), (aS, 6, fS), (aT, 6, fT)] p g c s h0 h) (T : (∀ h1, LY B n ρ [(aG, 10, fG), (aF, 10, fF), (aJ, 6, fJ), (aS, 6, fS), (aT, 6, fT)] p g c s h0 h1 → jE 193 842 [some (.ref B), some (.int ro), some (.int m), some (.int fr), some (.int 1), some (.int su), some (.int gr), some (.int sw), some (.ref aT), some (.ref aS), some (.ref aJ), some (.ref aF), some (.ref aG), some (.ref p), some (.int fs), some (.int 1), r16, r17, r18] [] h1 K)) : jE 193 839 [some (.ref B), some (.int ro), some (.int m), some (.int fr), some (.int 1), some (.int su), some (.int gr), some (.int sw), some (.ref aT), some (.ref aS), some (.ref aJ), some (.ref aF), some (.ref aG), some (.ref p), some (.int fs), r15, r16, r17, r18] [] h K := by
  refine jx_blk (by decide) [(.iconst 1, 1), (.istore 15, 2)] (pc' := 842) (Lv' := [some (.ref B), some (.int ro), some (.int m), some (.int fr), some (.int 1), some (.int su), some (.int gr), some (.int sw), some (.ref aT), some (.ref aS), some (.ref aJ), some (.ref aF), some (.ref aG), some (.ref p), some (.int fs), some (.int 1), r16, r17, r18]) (st' := []) (by decide +kernel) rfl ?_
  exact T _ hx

theorem se_842 {B n c s : Nat} {ρ : gS} {h0 h : jv_H} {K : jK} {ro m fr su gr sw fs k : Int32} {p aT aS aJ aF aG : Nat} {g : Nat → Nat → Int32} {fT fS fJ fF fG : Nat → Int32} {r16 r17 r18 : Option Value} (hx : LY B n ρ [(aG, 10, fG), (aF, 10, fF), (aJ, 6, fJ), (aS, 6, fS), (aT, 6, fT)] p g c s h0 h) (T : ((¬ k < m → (∀ h1, LY B n ρ [(aG, 10, fG), (aF, 10, fF), (aJ, 6, fJ), (aS, 6, fS), (aT, 6, fT)] p g c s h0 h1 → jE 193 929 [some (.ref B), some (.int ro), some (.int m), some (.int fr), some (.int 1), some (.int su), some (.int gr), some (.int sw), some (.ref aT), some (.ref aS), some (.ref aJ), some (.ref aF), some (.ref aG), some (.ref p), some (.int fs), some (.int k), r16, r17, r18] [] h1 K)) ∧ (k < m → (((vO9 (ρ 324) (vRk (ρ 324) k)) < (vO9 (ρ 324) (vRk (ρ 324) (k - 1))) → (∀ h1, LY B n ρ [(aG, 10, fG), (aF, 10, fF), (aJ, 6, fJ), (aS, 6, fS), (aT, 6, fT)] p g c s h0 h1 → jE 193 842 [some (.ref B), some (.int ro), some (.int m), some (.int fr), some (.int 1), some (.int su), some (.int gr), some (.int sw), some (.ref aT), some (.ref aS), some (.ref aJ), some (.ref aF), some (.ref aG), some (.ref p), some (.int fs), some (.int (k + 1)), some (.int (vRk (ρ 324) (k - 1))), some (.int (vRk (ρ 324) k)), r18] [] h1 K)) ∧ (¬ (vO9 (ρ 324) (vRk (ρ 324) k)) < (vO9 (ρ 324) (vRk (ρ 324) (k - 1))) → ((vO9 (ρ 324) (vRk (ρ 324) (k - 1))) = (vO9 (ρ 324) (vRk (ρ 324) k)) ∧ ((vRk (ρ 324) (k - 1)) < (vRk (ρ 324) k) ∧ (∀ h1, LY B n ρ [(aG, 10, fG), (aF, 10, fF), (aJ, 6, fJ), (aS, 6, fS), (aT, 6, fT)] p g c s h0 h1 → jE 193 842 [some (.ref B), some (.int ro), some (.int m), some (.int fr), some (.int 1), some (.int su), some (.int gr), some (.int sw), some (.ref aT), some (.ref aS), some (.ref aJ), some (.ref aF), some (.ref aG), some (.ref p), some (.int fs), some (.int (k + 1)), some (.int (vRk (ρ 324) (k - 1))), some (.int (vRk (ρ 324) k)), r18] [] h1 K)))))))) : jE 193 842 [some (.ref B), some (.int ro), some (.int m), some (.int fr), some (.int 1), some (.int su), some (.int gr), some (.int sw), some (.ref aT), some (.ref aS), some (.ref aJ), some (.ref aF), some (.ref aG), some (.ref p), some (.int fs), some (.int k), r16, r17, r18] [] h K := by
  refine jx_blk (by decide) [(.iload 15, 2), (.iload_n 2, 1)] (pc' := 845) (Lv' := [some (.ref B), some (.int ro), some (.int m), some (.int fr), some (.int 1), some (.int su), some (.int gr), some (.int sw), some (.ref aT), some (.ref aS), some (.ref aJ), some (.ref aF), some (.ref aG), some (.ref p), some (.int fs), some (.int k), r16, r17, r18]) (st' := [.int m, .int k]) (by decide +kernel) rfl ?_
  refine jx_ic_ge (off := 84) (b := 929) (by decide) (by decide +kernel) (by decide) (fun e1 => ?_) (fun e1 => ?_)
  · have t2 := T.1 e1
    exact t2 _ hx
  · have t3 := T.2 e1
    refine jx_blk (by decide) [(.iload 4, 2)] (pc' := 850) (Lv' := [some (.ref B), some (.int ro), some (.int m), some (.int fr), some (.int 1), some (.int su), some (.int gr), some (.int sw), some (.ref aT), some (.ref aS), some (.ref aJ), some (.ref aF), some (.ref aG), some (.ref p), some (.int fs), some (.int k), r16, r17, r18]) (st' := [.int 1]) (by decide +kernel) rfl ?_
    refine jx_if_eq (off := 79) (b := 929) (by decide) (by decide +kernel) (by decide) (fun e => absurd e (by decide)) (fun _ => ?_)
    refine jx_blk (by decide) [(.aload_n 0, 1), (.iload 15, 2), (.iconst 1, 1), (.isub, 1)] (pc' := 858) (Lv' := [some (.ref B), some (.int ro), some (.int m), some (.int fr), some (.int 1), some (.int su), some (.int gr), some (.int sw), some (.ref aT), some (.ref aS), some (.ref aJ), some (.ref aF), some (.ref aG), some (.ref p), some (.int fs), some (.int k), r16, r17, r18]) (st' := [.int (k - 1), .ref B]) (by decide +kernel) rfl ?_
    refine ly_call (z := 129) (na := 2) (mL := 2) (v := .int (vRk (ρ 324) (k - 1))) (r := []) [(k - 1)] (by decide +kernel) hx xr_ranked rfl rfl (fun _ => rfl) (Nat.le_of_ble_eq_true rfl) (fun h4 hx5 => ?_)
    refine jx_blk (by decide) [(.istore 16, 2), (.aload_n 0, 1), (.iload 15, 2)] (pc' := 866) (Lv' := [some (.ref B), some (.int ro), some (.int m), some (.int fr), some (.int 1), some (.int su), some (.int gr), some (.int sw), some (.ref aT), some (.ref aS), some (.ref aJ), some (.ref aF), some (.ref aG), some (.ref p), some (.int fs), some (.int k), some (.int (vRk (ρ 324) (k - 1))), r17, r18]) (st' := [.int k, .ref B]) (by decide +kernel) rfl ?_
    refine ly_call (z := 129) (na := 2) (mL := 2) (v := .int (vRk (ρ 324) k)) (r := []) [k] (by decide +kernel) hx5 xr_ranked rfl rfl (fun _ => rfl) (Nat.le_of_ble_eq_true rfl) (fun h6 hx7 => ?_)
    refine jx_blk (by decide) [(.istore 17, 2), (.aload_n 0, 1), (.iload 16, 2), (.bipush 9, 2)] (pc' := 876) (Lv' := [some (.ref B), some (.int ro), some (.int m), some (.int fr), some (.int 1), some (.int su), some (.int gr), some (.int sw), some (.ref aT), some (.ref aS), some (.ref aJ), some (.ref aF), some (.ref aG), some (.ref p), some (.int fs), some (.int k), some (.int (vRk (ρ 324) (k - 1))), some (.int (vRk (ρ 324) k)), r18]) (st' := [.int 9, .int (vRk (ρ 324) (k - 1)), .ref B]) (by decide +kernel) rfl ?_
    refine ly_call (z := 124) (na := 3) (mL := 4) (v := .int (vO9 (ρ 324) (vRk (ρ 324) (k - 1)))) (r := []) [9, (vRk (ρ 324) (k - 1))] (by decide +kernel) hx7 xr_o9 rfl rfl (fun _ => rfl) (Nat.le_of_ble_eq_true rfl) (fun h8 hx9 => ?_)
    refine jx_blk (by decide) [(.aload_n 0, 1), (.iload 17, 2), (.bipush 9, 2)] (pc' := 884) (Lv' := [some (.ref B), some (.int ro), some (.int m), some (.int fr), some (.int 1), some (.int su), some (.int gr), some (.int sw), some (.ref aT), some (.ref aS), some (.ref aJ), some (.ref aF), some (.ref aG), some (.ref p), some (.int fs), some (.int k), some (.int (vRk (ρ 324) (k - 1))), some (.int (vRk (ρ 324) k)), r18]) (st' := [.int 9, .int (vRk (ρ 324) k), .ref B, .int (vO9 (ρ 324) (vRk (ρ 324) (k - 1)))]) (by decide +kernel) rfl ?_
    refine ly_call (z := 124) (na := 3) (mL := 4) (v := .int (vO9 (ρ 324) (vRk (ρ 324) k))) (r := [.int (vO9 (ρ 324) (vRk (ρ 324) (k - 1)))]) [9, (vRk (ρ 324) k)] (by decide +kernel) hx9 xr_o9 rfl rfl (fun _ => rfl) (Nat.le_of_ble_eq_true rfl) (fun h10 hx11 => ?_)
    refine jx_ic_gt (off := 29) (b := 916) (by decide) (by decide +kernel) (by decide) (fun e12 => ?_) (fun e12 => ?_)
    · have t13 := t3.1 e12
      refine jx_blk (by decide) [(.iconst 1, 1)] (pc' := 917) (Lv' := [some (.ref B), some (.int ro), some (.int m), some (.int fr), some (.int 1), some (.int su), some (.int gr), some (.int sw), some (.ref aT), some (.ref aS), some (.ref aJ), some (.ref aF), some (.ref aG), some (.ref p), some (.int fs), some (.int k), some (.int (vRk (ρ 324) (k - 1))), some (.int (vRk (ρ 324) k)), r18]) (st' := [.int 1]) (by decide +kernel) rfl ?_
      refine jx_goto (off := 4) (b := 921) (by decide) (by decide +kernel) (by decide) ?_
      refine jx_blk (by decide) [(.istore 4, 2), (.iinc 15 1, 3)] (pc' := 926) (Lv' := [some (.ref B), some (.int ro), some (.int m), some (.int fr), some (.int 1), some (.int su), some (.int gr), some (.int sw), some (.ref aT), some (.ref aS), some (.ref aJ), some (.ref aF), some (.ref aG), some (.ref p), some (.int fs), some (.int (k + 1)), some (.int (vRk (ρ 324) (k - 1))), some (.int (vRk (ρ 324) k)), r18]) (st' := []) (by decide +kernel) rfl ?_
      refine jx_goto (off := (-84)) (b := 842) (by decide) (by decide +kernel) (by decide) ?_
      exact t13 _ hx11
    · have t14 := t3.2 e12
      refine jx_blk (by decide) [(.aload_n 0, 1), (.iload 16, 2), (.bipush 9, 2)] (pc' := 895) (Lv' := [some (.ref B), some (.int ro), some (.int m), some (.int fr), some (.int 1), some (.int su), some (.int gr), some (.int sw), some (.ref aT), some (.ref aS), some (.ref aJ), some (.ref aF), some (.ref aG), some (.ref p), some (.int fs), some (.int k), some (.int (vRk (ρ 324) (k - 1))), some (.int (vRk (ρ 324) k)), r18]) (st' := [.int 9, .int (vRk (ρ 324) (k - 1)), .ref B]) (by decide +kernel) rfl ?_
      refine ly_call (z := 124) (na := 3) (mL := 4) (v := .int (vO9 (ρ 324) (vRk (ρ 324) (k - 1)))) (r := []) [9, (vRk (ρ 324) (k - 1))] (by decide +kernel) hx11 xr_o9 rfl rfl (fun _ => rfl) (Nat.le_of_ble_eq_true rfl) (fun h15 hx16 => ?_)
      refine jx_blk (by decide) [(.aload_n 0, 1), (.iload 17, 2), (.bipush 9, 2)] (pc' := 903) (Lv' := [some (.ref B), some (.int ro), some (.int m), some (.int fr), some (.int 1), some (.int su), some (.int gr), some (.int sw), some (.ref aT), some (.ref aS), some (.ref aJ), some (.ref aF), some (.ref aG), some (.ref p), some (.int fs), some (.int k), some (.int (vRk (ρ 324) (k - 1))), some (.int (vRk (ρ 324) k)), r18]) (st' := [.int 9, .int (vRk (ρ 324) k), .ref B, .int (vO9 (ρ 324) (vRk (ρ 324) (k - 1)))]) (by decide +kernel) rfl ?_
      refine ly_call (z := 124) (na := 3) (mL := 4) (v := .int (vO9 (ρ 324) (vRk (ρ 324) k))) (r := [.int (vO9 (ρ 324) (vRk (ρ 324) (k - 1)))]) [9, (vRk (ρ 324) k)] (by decide +kernel) hx16 xr_o9 rfl rfl (fun _ => rfl) (Nat.le_of_ble_eq_true rfl) (fun h17 hx18 => ?_)
      refine jx_ic_ne (off := 14) (b := 920) (by decide) (by decide +kernel) (by decide) (fun e => absurd t14.1 e) (fun _ => ?_)
      have t20 := t14.2
      refine jx_blk (by decide) [(.iload 16, 2), (.iload 17, 2)] (pc' := 913) (Lv' := [some (.ref B), some (.int ro), some (.int m), some (.int fr), some (.int 1), some (.int su), some (.int gr), some (.int sw), some (.ref aT), some (.ref aS), some (.ref aJ), some (.ref aF), some (.ref aG), some (.ref p), some (.int fs), some (.int k), some (.int (vRk (ρ 324) (k - 1))), some (.int (vRk (ρ 324) k)), r18]) (st' := [.int (vRk (ρ 324) k), .int (vRk (ρ 324) (k - 1))]) (by decide +kernel) rfl ?_
      refine jx_ic_ge (off := 7) (b := 920) (by decide) (by decide +kernel) (by decide) (fun e => absurd t20.1 e) (fun _ => ?_)
      have t22 := t20.2
      refine jx_blk (by decide) [(.iconst 1, 1)] (pc' := 917) (Lv' := [some (.ref B), some (.int ro), some (.int m), some (.int fr), some (.int 1), some (.int su), some (.int gr), some (.int sw), some (.ref aT), some (.ref aS), some (.ref aJ), some (.ref aF), some (.ref aG), some (.ref p), some (.int fs), some (.int k), some (.int (vRk (ρ 324) (k - 1))), some (.int (vRk (ρ 324) k)), r18]) (st' := [.int 1]) (by decide +kernel) rfl ?_
      refine jx_goto (off := 4) (b := 921) (by decide) (by decide +kernel) (by decide) ?_
      refine jx_blk (by decide) [(.istore 4, 2), (.iinc 15 1, 3)] (pc' := 926) (Lv' := [some (.ref B), some (.int ro), some (.int m), some (.int fr), some (.int 1), some (.int su), some (.int gr), some (.int sw), some (.ref aT), some (.ref aS), some (.ref aJ), some (.ref aF), some (.ref aG), some (.ref p), some (.int fs), some (.int (k + 1)), some (.int (vRk (ρ 324) (k - 1))), some (.int (vRk (ρ 324) k)), r18]) (st' := []) (by decide +kernel) rfl ?_
      refine jx_goto (off := (-84)) (b := 842) (by decide) (by decide +kernel) (by decide) ?_
      exact t22 _ hx18

theorem se_929 {B n c s : Nat} {ρ : gS} {h0 h : jv_H} {K : jK} {ro m fr su gr sw fs : Int32} {p aT aS aJ aF aG : Nat} {g : Nat → Nat → Int32} {fT fS fJ fF fG : Nat → Int32} {r15 r16 r17 r18 : Option Value} (hx : LY B n ρ [(aG, 10, fG), (aF, 10, fF), (aJ, 6, fJ), (aS, 6, fS), (aT, 6, fT)] p g c s h0 h) (T : ((vRk (ρ 324) m) = (-2) ∧ (fr = (4 * ρ 324 0 - ρ 324 3) ∧ ((su + 10000) = (fJa (ρ 324) + 10000) ∧ (gr = (fGr (ρ 324)) ∧ (sw = (fSw (ρ 324)) ∧ (fs = (fFs (fMF (ρ 324))) ∧ (((ρ 324 0 + 1) / 2) = ((ro + 1) / 2) ∧ ((vTb (ρ 324) ((ρ 324 0 + 1) / 2) 0) = (-1) ∧ ((FP.fdiv (FP.i2f m) (FP.i2f (4 * ro))) &&& 0x7fffffff ≤ 0x7f800000 ∧ ((Op.cmpValue (FP.fcmp (vFl (ρ 324)) (FP.fdiv (FP.i2f m) (FP.i2f (4 * ro)))) .l) = 0 ∧ ((¬ m = 0 → ((FP.ddiv (FP.i2d su) (FP.i2d m)) &&& 0x7fffffffffffffff ≤ 0x7ff0000000000000 ∧ ((Op.cmpValue (FP.dcmp (vMj (ρ 324)) (FP.ddiv (FP.i2d su) (FP.i2d m))) .l) = 0 ∧ (∀ h1, LX B n ρ [] c s h0 h1 → K (some (.int 1)) h1)))) ∧ (m = 0 → ((Op.cmpValue (FP.dcmp (vMj (ρ 324)) FP.dconst0) .l) = 0 ∧ (∀ h1, LX B n ρ [] c s h0 h1 → K (some (.int 1)) h1))))))))))))))) : jE 193 929 [some (.ref B), some (.int ro), some (.int m), some (.int fr), some (.int 1), some (.int su), some (.int gr), some (.int sw), some (.ref aT), some (.ref aS), some (.ref aJ), some (.ref aF), some (.ref aG), some (.ref p), some (.int fs), r15, r16, r17, r18] [] h K := by
  refine jx_blk (by decide) [(.iload 4, 2)] (pc' := 931) (Lv' := [some (.ref B), some (.int ro), some (.int m), some (.int fr), some (.int 1), some (.int su), some (.int gr), some (.int sw), some (.ref aT), some (.ref aS), some (.ref aJ), some (.ref aF), some (.ref aG), some (.ref p), some (.int fs), r15, r16, r17, r18]) (st' := [.int 1]) (by decide +kernel) rfl ?_
  refine jx_if_eq (off := 139) (b := 1070) (by decide) (by decide +kernel) (by decide) (fun e => absurd e (by decide)) (fun _ => ?_)
  refine jx_blk (by decide) [(.aload_n 0, 1), (.iload_n 2, 1)] (pc' := 936) (Lv' := [some (.ref B), some (.int ro), some (.int m), some (.int fr), some (.int 1), some (.int su), some (.int gr), some (.int sw), some (.ref aT), some (.ref aS), some (.ref aJ), some (.ref aF), some (.ref aG), some (.ref p), some (.int fs), r15, r16, r17, r18]) (st' := [.int m, .ref B]) (by decide +kernel) rfl ?_
  refine ly_call (z := 129) (na := 2) (mL := 2) (v := .int (vRk (ρ 324) m)) (r := []) [m] (by decide +kernel) hx xr_ranked rfl rfl (fun _ => rfl) (Nat.le_of_ble_eq_true rfl) (fun h1 hx2 => ?_)
  refine jx_blk (by decide) [(.bipush (-2), 2)] (pc' := 941) (Lv' := [some (.ref B), some (.int ro), some (.int m), some (.int fr), some (.int 1), some (.int su), some (.int gr), some (.int sw), some (.ref aT), some (.ref aS), some (.ref aJ), some (.ref aF), some (.ref aG), some (.ref p), some (.int fs), r15, r16, r17, r18]) (st' := [.int (-2), .int (vRk (ρ 324) m)]) (by decide +kernel) rfl ?_
  refine jx_ic_ne (off := 129) (b := 1070) (by decide) (by decide +kernel) (by decide) (fun e => absurd T.1 e) (fun _ => ?_)
  have t4 := T.2
  refine jx_blk (by decide) [(.iload_n 3, 1), (.aload_n 0, 1), (.iconst 4, 1)] (pc' := 947) (Lv' := [some (.ref B), some (.int ro), some (.int m), some (.int fr), some (.int 1), some (.int su), some (.int gr), some (.int sw), some (.ref aT), some (.ref aS), some (.ref aJ), some (.ref aF), some (.ref aG), some (.ref p), some (.int fs), r15, r16, r17, r18]) (st' := [.int 4, .ref B, .int fr]) (by decide +kernel) rfl ?_
  refine ly_call (z := 123) (na := 2) (mL := 2) (v := .int (4 * ρ 324 0 - ρ 324 3)) (r := [.int fr]) [4] (by decide +kernel) hx2 xr_v4 rfl rfl (fun _ => rfl) (Nat.le_of_ble_eq_true rfl) (fun h5 hx6 => ?_)
  refine jx_ic_ne (off := 120) (b := 1070) (by decide) (by decide +kernel) (by decide) (fun e => absurd t4.1 e) (fun _ => ?_)
  have t8 := t4.2
  refine jx_blk (by decide) [(.iload 5, 2), (.sipush 10000, 3), (.iadd, 1), (.aload_n 0, 1), (.iconst 5, 1)] (pc' := 961) (Lv' := [some (.ref B), some (.int ro), some (.int m), some (.int fr), some (.int 1), some (.int su), some (.int gr), some (.int sw), some (.ref aT), some (.ref aS), some (.ref aJ), some (.ref aF), some (.ref aG), some (.ref p), some (.int fs), r15, r16, r17, r18]) (st' := [.int 5, .ref B, .int (su + 10000)]) (by decide +kernel) rfl ?_
  refine ly_call (z := 123) (na := 2) (mL := 2) (v := .int (fJa (ρ 324) + 10000)) (r := [.int (su + 10000)]) [5] (by decide +kernel) hx6 xr_v5 rfl rfl (fun _ => rfl) (Nat.le_of_ble_eq_true rfl) (fun h9 hx10 => ?_)
  refine jx_ic_ne (off := 106) (b := 1070) (by decide) (by decide +kernel) (by decide) (fun e => absurd t8.1 e) (fun _ => ?_)
  have t12 := t8.2
  refine jx_blk (by decide) [(.iload 6, 2), (.aload_n 0, 1), (.bipush 6, 2)] (pc' := 972) (Lv' := [some (.ref B), some (.int ro), some (.int m), some (.int fr), some (.int 1), some (.int su), some (.int gr), some (.int sw), some (.ref aT), some (.ref aS), some (.ref aJ), some (.ref aF), some (.ref aG), some (.ref p), some (.int fs), r15, r16, r17, r18]) (st' := [.int 6, .ref B, .int gr]) (by decide +kernel) rfl ?_
  refine ly_call (z := 123) (na := 2) (mL := 2) (v := .int (fGr (ρ 324))) (r := [.int gr]) [6] (by decide +kernel) hx10 xr_v6 rfl rfl (fun _ => rfl) (Nat.le_of_ble_eq_true rfl) (fun h13 hx14 => ?_)
  refine jx_ic_ne (off := 95) (b := 1070) (by decide) (by decide +kernel) (by decide) (fun e => absurd t12.1 e) (fun _ => ?_)
  have t16 := t12.2
  refine jx_blk (by decide) [(.iload 7, 2), (.aload_n 0, 1), (.bipush 7, 2)] (pc' := 983) (Lv' := [some (.ref B), some (.int ro), some (.int m), some (.int fr), some (.int 1), some (.int su), some (.int gr), some (.int sw), some (.ref aT), some (.ref aS), some (.ref aJ), some (.ref aF), some (.ref aG), some (.ref p), some (.int fs), r15, r16, r17, r18]) (st' := [.int 7, .ref B, .int sw]) (by decide +kernel) rfl ?_
  refine ly_call (z := 123) (na := 2) (mL := 2) (v := .int (fSw (ρ 324))) (r := [.int sw]) [7] (by decide +kernel) hx14 xr_v7 rfl rfl (fun _ => rfl) (Nat.le_of_ble_eq_true rfl) (fun h17 hx18 => ?_)
  refine jx_ic_ne (off := 84) (b := 1070) (by decide) (by decide +kernel) (by decide) (fun e => absurd t16.1 e) (fun _ => ?_)
  have t20 := t16.2
  refine jx_blk (by decide) [(.iload 14, 2), (.aload_n 0, 1), (.bipush 14, 2)] (pc' := 994) (Lv' := [some (.ref B), some (.int ro), some (.int m), some (.int fr), some (.int 1), some (.int su), some (.int gr), some (.int sw), some (.ref aT), some (.ref aS), some (.ref aJ), some (.ref aF), some (.ref aG), some (.ref p), some (.int fs), r15, r16, r17, r18]) (st' := [.int 14, .ref B, .int fs]) (by decide +kernel) rfl ?_
  refine ly_call (z := 123) (na := 2) (mL := 2) (v := .int (fFs (fMF (ρ 324)))) (r := [.int fs]) [14] (by decide +kernel) hx18 xr_v14 rfl rfl (fun _ => rfl) (Nat.le_of_ble_eq_true rfl) (fun h21 hx22 => ?_)
  refine jx_ic_ne (off := 73) (b := 1070) (by decide) (by decide +kernel) (by decide) (fun e => absurd t20.1 e) (fun _ => ?_)
  have t24 := t20.2
  refine jx_blk (by decide) [(.aload_n 0, 1), (.bipush 13, 2)] (pc' := 1003) (Lv' := [some (.ref B), some (.int ro), some (.int m), some (.int fr), some (.int 1), some (.int su), some (.int gr), some (.int sw), some (.ref aT), some (.ref aS), some (.ref aJ), some (.ref aF), some (.ref aG), some (.ref p), some (.int fs), r15, r16, r17, r18]) (st' := [.int 13, .ref B]) (by decide +kernel) rfl ?_
  refine ly_call (z := 123) (na := 2) (mL := 2) (v := .int ((ρ 324 0 + 1) / 2)) (r := []) [13] (by decide +kernel) hx22 xr_v13 rfl rfl (fun _ => rfl) (Nat.le_of_ble_eq_true rfl) (fun h25 hx26 => ?_)
  refine jx_blk (by decide) [(.iload_n 1, 1), (.iconst 1, 1), (.iadd, 1), (.iconst 2, 1), (.idiv, 1)] (pc' := 1011) (Lv' := [some (.ref B), some (.int ro), some (.int m), some (.int fr), some (.int 1), some (.int su), some (.int gr), some (.int sw), some (.ref aT), some (.ref aS), some (.ref aJ), some (.ref aF), some (.ref aG), some (.ref p), some (.int fs), r15, r16, r17, r18]) (st' := [.int ((ro + 1) / 2), .int ((ρ 324 0 + 1) / 2)]) (by decide +kernel) rfl ?_
  refine jx_ic_ne (off := 59) (b := 1070) (by decide) (by decide +kernel) (by decide) (fun e => absurd t24.1 e) (fun _ => ?_)
  have t28 := t24.2
  refine jx_blk (by decide) [(.aload_n 0, 1), (.aload_n 0, 1), (.bipush 13, 2)] (pc' := 1018) (Lv' := [some (.ref B), some (.int ro), some (.int m), some (.int fr), some (.int 1), some (.int su), some (.int gr), some (.int sw), some (.ref aT), some (.ref aS), some (.ref aJ), some (.ref aF), some (.ref aG), some (.ref p), some (.int fs), r15, r16, r17, r18]) (st' := [.int 13, .ref B, .ref B]) (by decide +kernel) rfl ?_
  refine ly_call (z := 123) (na := 2) (mL := 2) (v := .int ((ρ 324 0 + 1) / 2)) (r := [.ref B]) [13] (by decide +kernel) hx26 xr_v13 rfl rfl (fun _ => rfl) (Nat.le_of_ble_eq_true rfl) (fun h29 hx30 => ?_)
  refine jx_blk (by decide) [(.iconst 0, 1)] (pc' := 1022) (Lv' := [some (.ref B), some (.int ro), some (.int m), some (.int fr), some (.int 1), some (.int su), some (.int gr), some (.int sw), some (.ref aT), some (.ref aS), some (.ref aJ), some (.ref aF), some (.ref aG), some (.ref p), some (.int fs), r15, r16, r17, r18]) (st' := [.int 0, .int ((ρ 324 0 + 1) / 2), .ref B]) (by decide +kernel) rfl ?_
  refine ly_call (z := 127) (na := 3) (mL := 3) (v := .int (vTb (ρ 324) ((ρ 324 0 + 1) / 2) 0)) (r := []) [0, ((ρ 324 0 + 1) / 2)] (by decide +kernel) hx30 xr_table rfl rfl (fun _ => rfl) (Nat.le_of_ble_eq_true rfl) (fun h31 hx32 => ?_)
  refine jx_blk (by decide) [(.iconst (-1), 1)] (pc' := 1026) (Lv' := [some (.ref B), some (.int ro), some (.int m), some (.int fr), some (.int 1), some (.int su), some (.int gr), some (.int sw), some (.ref aT), some (.ref aS), some (.ref aJ), some (.ref aF), some (.ref aG), some (.ref p), some (.int fs), r15, r16, r17, r18]) (st' := [.int (-1), .int (vTb (ρ 324) ((ρ 324 0 + 1) / 2) 0)]) (by decide +kernel) rfl ?_
  refine jx_ic_ne (off := 44) (b := 1070) (by decide) (by decide +kernel) (by decide) (fun e => absurd t28.1 e) (fun _ => ?_)
  have t34 := t28.2
  refine jx_blk (by decide) [(.aload_n 0, 1)] (pc' := 1030) (Lv' := [some (.ref B), some (.int ro), some (.int m), some (.int fr), some (.int 1), some (.int su), some (.int gr), some (.int sw), some (.ref aT), some (.ref aS), some (.ref aJ), some (.ref aF), some (.ref aG), some (.ref p), some (.int fs), r15, r16, r17, r18]) (st' := [.ref B]) (by decide +kernel) rfl ?_
  refine ly_call (z := 141) (na := 1) (mL := 2) (v := .float (vFl (ρ 324))) (r := []) [] (by decide +kernel) hx32 xr_full rfl rfl (fun _ => rfl) (Nat.le_of_ble_eq_true rfl) (fun h35 hx36 => ?_)
  refine jx_blk (by decide) [(.iload_n 2, 1), (.i2f, 1), (.iconst 4, 1), (.iload_n 1, 1), (.imul, 1), (.i2f, 1)] (pc' := 1039) (Lv' := [some (.ref B), some (.int ro), some (.int m), some (.int fr), some (.int 1), some (.int su), some (.int gr), some (.int sw), some (.ref aT), some (.ref aS), some (.ref aJ), some (.ref aF), some (.ref aG), some (.ref p), some (.int fs), r15, r16, r17, r18]) (st' := [.float (FP.i2f (4 * ro)), .float (FP.i2f m), .float (vFl (ρ 324))]) (by decide +kernel) rfl ?_
  obtain ⟨et37, t37⟩ := t34
  refine jx_pure (i := .fdiv) (len := 1) (st' := [.float (FP.fdiv (FP.i2f m) (FP.i2f (4 * ro))), .float (vFl (ρ 324))]) (by decide) (by decide +kernel) rfl rfl (if_pos et37) ?_
  refine jx_blk (by decide) [(.fcmp .l, 1)] (pc' := 1041) (Lv' := [some (.ref B), some (.int ro), some (.int m), some (.int fr), some (.int 1), some (.int su), some (.int gr), some (.int sw), some (.ref aT), some (.ref aS), some (.ref aJ), some (.ref aF), some (.ref aG), some (.ref p), some (.int fs), r15, r16, r17, r18]) (st' := [.int (Op.cmpValue (FP.fcmp (vFl (ρ 324)) (FP.fdiv (FP.i2f m) (FP.i2f (4 * ro)))) .l)]) (by decide +kernel) rfl ?_
  refine jx_if_ne (off := 29) (b := 1070) (by decide) (by decide +kernel) (by decide) (fun e => absurd t37.1 e) (fun _ => ?_)
  have t39 := t37.2
  refine jx_blk (by decide) [(.aload_n 0, 1)] (pc' := 1045) (Lv' := [some (.ref B), some (.int ro), some (.int m), some (.int fr), some (.int 1), some (.int su), some (.int gr), some (.int sw), some (.ref aT), some (.ref aS), some (.ref aJ), some (.ref aF), some (.ref aG), some (.ref p), some (.int fs), r15, r16, r17, r18]) (st' := [.ref B]) (by decide +kernel) rfl ?_
  refine ly_call (z := 142) (na := 1) (mL := 1) (v := .double (vMj (ρ 324))) (r := []) [] (by decide +kernel) hx36 xr_meanJoy rfl rfl (fun _ => rfl) (Nat.le_of_ble_eq_true rfl) (fun h40 hx41 => ?_)
  refine jx_blk (by decide) [(.iload_n 2, 1)] (pc' := 1049) (Lv' := [some (.ref B), some (.int ro), some (.int m), some (.int fr), some (.int 1), some (.int su), some (.int gr), some (.int sw), some (.ref aT), some (.ref aS), some (.ref aJ), some (.ref aF), some (.ref aG), some (.ref p), some (.int fs), r15, r16, r17, r18]) (st' := [.int m, .double (vMj (ρ 324))]) (by decide +kernel) rfl ?_
  refine jx_if_ne (off := 7) (b := 1056) (by decide) (by decide +kernel) (by decide) (fun e42 => ?_) (fun e42 => ?_)
  · have t43 := t39.1 e42
    refine jx_blk (by decide) [(.iload 5, 2), (.i2d, 1), (.iload_n 2, 1), (.i2d, 1)] (pc' := 1061) (Lv' := [some (.ref B), some (.int ro), some (.int m), some (.int fr), some (.int 1), some (.int su), some (.int gr), some (.int sw), some (.ref aT), some (.ref aS), some (.ref aJ), some (.ref aF), some (.ref aG), some (.ref p), some (.int fs), r15, r16, r17, r18]) (st' := [.double (FP.i2d m), .double (FP.i2d su), .double (vMj (ρ 324))]) (by decide +kernel) rfl ?_
    obtain ⟨et45, t45⟩ := t43
    refine jx_pure (i := .ddiv) (len := 1) (st' := [.double (FP.ddiv (FP.i2d su) (FP.i2d m)), .double (vMj (ρ 324))]) (by decide) (by decide +kernel) rfl rfl (if_pos et45) ?_
    refine jx_blk (by decide) [(.dcmp .l, 1)] (pc' := 1063) (Lv' := [some (.ref B), some (.int ro), some (.int m), some (.int fr), some (.int 1), some (.int su), some (.int gr), some (.int sw), some (.ref aT), some (.ref aS), some (.ref aJ), some (.ref aF), some (.ref aG), some (.ref p), some (.int fs), r15, r16, r17, r18]) (st' := [.int (Op.cmpValue (FP.dcmp (vMj (ρ 324)) (FP.ddiv (FP.i2d su) (FP.i2d m))) .l)]) (by decide +kernel) rfl ?_
    refine jx_if_ne (off := 7) (b := 1070) (by decide) (by decide +kernel) (by decide) (fun e => absurd t45.1 e) (fun _ => ?_)
    have t47 := t45.2
    refine jx_blk (by decide) [(.iconst 1, 1)] (pc' := 1067) (Lv' := [some (.ref B), some (.int ro), some (.int m), some (.int fr), some (.int 1), some (.int su), some (.int gr), some (.int sw), some (.ref aT), some (.ref aS), some (.ref aJ), some (.ref aF), some (.ref aG), some (.ref p), some (.int fs), r15, r16, r17, r18]) (st' := [.int 1]) (by decide +kernel) rfl ?_
    refine jx_goto (off := 4) (b := 1071) (by decide) (by decide +kernel) (by decide) ?_
    exact jx_zret (by decide) (by decide +kernel) (by decide +kernel) (Or.inr rfl) (t47 _ (hx41.1.nil))
  · have t44 := t39.2 e42
    refine jx_blk (by decide) [(.dconst 0, 1)] (pc' := 1053) (Lv' := [some (.ref B), some (.int ro), some (.int m), some (.int fr), some (.int 1), some (.int su), some (.int gr), some (.int sw), some (.ref aT), some (.ref aS), some (.ref aJ), some (.ref aF), some (.ref aG), some (.ref p), some (.int fs), r15, r16, r17, r18]) (st' := [.double FP.dconst0, .double (vMj (ρ 324))]) (by decide +kernel) rfl ?_
    refine jx_goto (off := 9) (b := 1062) (by decide) (by decide +kernel) (by decide) ?_
    refine jx_blk (by decide) [(.dcmp .l, 1)] (pc' := 1063) (Lv' := [some (.ref B), some (.int ro), some (.int m), some (.int fr), some (.int 1), some (.int su), some (.int gr), some (.int sw), some (.ref aT), some (.ref aS), some (.ref aJ), some (.ref aF), some (.ref aG), some (.ref p), some (.int fs), r15, r16, r17, r18]) (st' := [.int (Op.cmpValue (FP.dcmp (vMj (ρ 324)) FP.dconst0) .l)]) (by decide +kernel) rfl ?_
    refine jx_if_ne (off := 7) (b := 1070) (by decide) (by decide +kernel) (by decide) (fun e => absurd t44.1 e) (fun _ => ?_)
    have t49 := t44.2
    refine jx_blk (by decide) [(.iconst 1, 1)] (pc' := 1067) (Lv' := [some (.ref B), some (.int ro), some (.int m), some (.int fr), some (.int 1), some (.int su), some (.int gr), some (.int sw), some (.ref aT), some (.ref aS), some (.ref aJ), some (.ref aF), some (.ref aG), some (.ref p), some (.int fs), r15, r16, r17, r18]) (st' := [.int 1]) (by decide +kernel) rfl ?_
    refine jx_goto (off := 4) (b := 1071) (by decide) (by decide +kernel) (by decide) ?_
    exact jx_zret (by decide) (by decide +kernel) (by decide +kernel) (Or.inr rfl) (t49 _ (hx41.1.nil))
/-! seats: what its rows hold behind t travellers -/
noncomputable def seT (R : gW) (t q : Nat) : Int32 := iN (cnt (fun o => decide (fld R o 0 / 8 = iN q)) t)
noncomputable def seS (R : gW) (t q : Nat) : Int32 := iN (cnt (fun o => decide (fld R o 0 / 8 = iN q ∧ fJo R o < 0)) t)
noncomputable def seJ (R : gW) (t q : Nat) : Int32 := sm (fun o => if fld R o 0 / 8 = iN q then fJo R o else 0) t
noncomputable def seF (R : gW) (t f : Nat) : Int32 := iN (cnt (fun o => decide (fld R o 2 = iN f)) t)
noncomputable def seG (R : gW) (t f : Nat) : Int32 := sm (fun o => if fld R o 2 = iN f then fJo R o else 0) t
noncomputable def seM (R : gW) (t q f : Nat) : Int32 := iN (cnt (memP R (iN q) (iN f)) t)
abbrev LZ (B n : Nat) (ρ : gS) (aT aS aJ aF aG p t c s : Nat) (h0 h : jv_H) : Prop := LY B n ρ [(aG, 10, seG (ρ 324) t), (aF, 10, seF (ρ 324) t), (aJ, 6, seJ (ρ 324) t), (aS, 6, seS (ρ 324) t), (aT, 6, seT (ρ 324) t)] p (seM (ρ 324) t) c s h0 h
theorem cnt_s (P : Nat → Bool) (t : Nat) : cnt P (t + 1) = cnt P t + (if P t = true then 1 else 0) := rfl
theorem sm_s (g : Nat → Int32) (t : Nat) : sm g (t + 1) = sm g t + g t := rfl
theorem upd_at {f : Nat → Int32} {k : Nat} {v : Int32} : upd f k v k = v := if_pos rfl
theorem upd_ne {f : Nat → Int32} {k j : Nat} {v : Int32} (h : ¬ j = k) : upd f k v j = f j := if_neg h
section SES
variable {R : gW} {t k f : Nat}
theorem seT_s (hk : fld R t 0 / 8 = iN k) (h5 : k < 5) : ∀ j, j < 6 → seT R (t + 1) j = upd (seT R t) k (seT R t k + 1) j := fun j hj => by
  unfold seT
  rw [cnt_s, hk]
  by_cases q : j = k
  · subst q
    rw [upd_at, if_pos (decide_eq_true rfl)]
    exact (iN_add _ 1).symm
  · rw [upd_ne q, if_neg (fun z => q ((iN_inj (by omega) (by omega)).mp (of_decide_eq_true z)).symm), Nat.add_zero]
theorem seS_p (hk : fld R t 0 / 8 = iN k) (h5 : k < 5) (hj : fJo R t < 0) : ∀ j, j < 6 → seS R (t + 1) j = upd (seS R t) k (seS R t k + 1) j := fun j hj2 => by
  unfold seS
  rw [cnt_s, hk]
  by_cases q : j = k
  · subst q
    rw [upd_at, if_pos (decide_eq_true ⟨rfl, hj⟩)]
    exact (iN_add _ 1).symm
  · rw [upd_ne q, if_neg (fun z => q ((iN_inj (by omega) (by omega)).mp (of_decide_eq_true z).1).symm), Nat.add_zero]
theorem seS_n (hj : ¬ fJo R t < 0) : ∀ j, j < 6 → seS R (t + 1) j = seS R t j := fun j _ => by
  unfold seS
  rw [cnt_s, if_neg (fun z => hj (of_decide_eq_true z).2), Nat.add_zero]
theorem seJ_s (hk : fld R t 0 / 8 = iN k) (h5 : k < 5) : ∀ j, j < 6 → seJ R (t + 1) j = upd (seJ R t) k (seJ R t k + fJo R t) j := fun j hj => by
  unfold seJ
  rw [sm_s, hk]
  by_cases q : j = k
  · subst q
    rw [upd_at, if_pos rfl]
  · rw [upd_ne q, if_neg (fun z => q ((iN_inj (by omega) (by omega)).mp z).symm), Int32.add_zero]
theorem seF_s (hf : fld R t 2 = iN f) (h5 : f < 10) : ∀ j, j < 10 → seF R (t + 1) j = upd (seF R t) f (seF R t f + 1) j := fun j hj => by
  unfold seF
  rw [cnt_s, hf]
  by_cases q : j = f
  · subst q
    rw [upd_at, if_pos (decide_eq_true rfl)]
    exact (iN_add _ 1).symm
  · rw [upd_ne q, if_neg (fun z => q ((iN_inj (by omega) (by omega)).mp (of_decide_eq_true z)).symm), Nat.add_zero]
theorem seG_s (hf : fld R t 2 = iN f) (h5 : f < 10) : ∀ j, j < 10 → seG R (t + 1) j = upd (seG R t) f (seG R t f + fJo R t) j := fun j hj => by
  unfold seG
  rw [sm_s, hf]
  by_cases q : j = f
  · subst q
    rw [upd_at, if_pos rfl]
  · rw [upd_ne q, if_neg (fun z => q ((iN_inj (by omega) (by omega)).mp z).symm), Int32.add_zero]
theorem seM_s (hk : fld R t 0 / 8 = iN k) (hf : fld R t 2 = iN f) (h5 : k < 5) (h10 : f < 10) : ∀ i, i < 6 → ∀ j, j < 10 → seM R (t + 1) i j = (fun q => if q = k then upd (seM R t k) f (seM R t k f + 1) else seM R t q) i j := fun i hi j hj => by
  show seM R (t + 1) i j = (if i = k then upd (seM R t k) f (seM R t k f + 1) else seM R t i) j
  unfold seM
  rw [cnt_s]
  unfold memP
  rw [hk, hf]
  by_cases q : i = k
  · rw [if_pos q]
    subst q
    by_cases q2 : j = f
    · subst q2
      rw [upd_at, if_pos (decide_eq_true ⟨rfl, rfl⟩)]
      exact (iN_add _ 1).symm
    · rw [upd_ne q2, if_neg (fun z => q2 ((iN_inj (by omega) (by omega)).mp (of_decide_eq_true z).2).symm), Nat.add_zero]
  · rw [if_neg q, if_neg (fun z => q ((iN_inj (by omega) (by omega)).mp (of_decide_eq_true z).1).symm), Nat.add_zero]
theorem sm10 (h : 0 ≤ fld R t 2 ∧ fld R t 2 ≤ 9) : ∃ f, f < 10 ∧ fld R t 2 = iN f := by
  obtain ⟨e, l⟩ := iN_of h.1
  refine ⟨(fld R t 2).toNatClampNeg, ?_, e⟩
  have h2 := h.2
  rw [e] at h2
  have := (iN_le (m := 9) l (by decide)).mp h2
  omega
end SES
section SE
variable {B n c s : Nat} {ρ : gS} {h0 : jv_H} {K : jK} {ro m fr su gr sw : Int32} {aT aS aJ aF aG p N a0 : Nat}
/-- what seats knows -/
def SEH (ρ : gS) (N a0 : Nat) : Prop := RI ρ ∧ SI (ρ 324) ∧ nM (ρ 324) = N ∧ ρ 324 3 = iN N ∧ N ≤ 20 ∧ ρ 324 0 = iN a0 ∧ 2 ≤ a0 ∧ a0 ≤ 10
theorem se_a (H : SEH ρ N a0) (hro : ro = iN a0) (hG : ∀ (h : jv_H) (w5 w6 : Option Value), LX B n ρ [] c s h0 h → jE 193 137 [some (.ref B), some (.int ro), some (.int m), some (.int (iN (cnt (fun k => decide (fWho (ρ 324) (iN k) = -2)) (4 * a0)))), some (.int 1), w5, w6, none, none, none, none, none, none, none, none, none, none, none, none] [] h K) :
    ∀ (e k : Nat), k + e = 4 * a0 → ∀ {h : jv_H} {w6 : Option Value}, LX B n ρ [] c s h0 h → jE 193 55 [some (.ref B), some (.int ro), some (.int m), some (.int (iN (cnt (fun k => decide (fWho (ρ 324) (iN k) = -2)) k))), some (.int 1), some (.int (iN k)), w6, none, none, none, none, none, none, none, none, none, none, none, none] [] h K := by
  have H0 := H
  obtain ⟨hi, sp, hN, e3, l20, e0, a2, a10⟩ := H
  have h3 := hi.1.1.1
  have hT := hi.2.2.2.2.2.1
  have e4 : 4 * ro = iN (4 * a0) := by rw [hro, show (4 : Int32) = iN 4 from rfl, iN_mul]
  intro e
  induction e with
  | zero =>
    intro k hk h w6 hx
    have hk : k = 4 * a0 := by omega
    refine se_55 hx ?_
    rw [e4]
    refine ⟨fun _ h1 hx1 => ?_, fun z => absurd ((iN_lt (by omega) (by omega)).mp z) (by omega)⟩
    rw [hk]
    exact hG h1 _ _ hx1
  | succ e ih =>
    intro k hk h w6 hx
    have ek : iN k + 1 = iN (k + 1) := iN_add k 1
    have hS := isS_i e0 a10 (k := k) (by omega)
    refine se_55 hx ?_
    rw [e4, aAt_i hS]
    refine ⟨fun z => absurd ((iN_lt (by omega) (by omega)).mpr (by omega)) z, fun _ => ⟨fun z => ?_, fun z h1 hx1 => ?_⟩⟩
    · rcases who_c (R := ρ 324) (by omega) (iN k) with ⟨y, -⟩ | ⟨t, ht, et, es⟩
      · exact absurd y z
      · have nxt : ∀ (h1 : jv_H) (w : Option Value), LX B n ρ [] c s h0 h1 → jE 193 55 [some (.ref B), some (.int ro), some (.int m), some (.int (iN (cnt (fun k => decide (fWho (ρ 324) (iN k) = -2)) k))), some (.int 1), some (.int (iN k + 1)), w, none, none, none, none, none, none, none, none, none, none, none, none] [] h1 K := by
          intro h1 w hx1
          have q := ih (k + 1) (by omega) (w6 := w) hx1
          rw [cnt_s, if_neg (fun y => z (of_decide_eq_true y)), Nat.add_zero] at q
          rw [ek]
          exact q
        rw [et, vO_i h3 ht (by decide), vO_i h3 ht (by decide)]
        refine ⟨es, fun _ h1 hx1 => nxt h1 _ hx1, fun y => ⟨?_, fun h1 hx1 => nxt h1 _ hx1⟩⟩
        have := (may_i hT ht _).mp (sp.2.2.1 t ht)
        rw [es] at this
        intro v
        refine this ⟨?_, v⟩
        rcases (hT t ht).1 with u | u
        · exact u
        · exact absurd u y
    · have q := ih (k + 1) (by omega) (w6 := some (.int (fWho (ρ 324) (iN k)))) hx1
      rw [cnt_s, if_pos (decide_eq_true z)] at q
      rw [ek, show iN (cnt (fun k => decide (fWho (ρ 324) (iN k) = -2)) k) + 1 = iN (cnt (fun k => decide (fWho (ρ 324) (iN k) = -2)) k + 1) from iN_add _ 1]
      exact q
/-- relatives -/
theorem se_k {t : Nat} (H : SEH ρ N a0) (hm : m = iN N) (ht : t < N) (hG : ∀ (h : jv_H) (u : Int32), LZ B n ρ aT aS aJ aF aG p t c s h0 h → jE 193 281 [some (.ref B), some (.int ro), some (.int m), some (.int fr), some (.int 1), some (.int su), some (.int gr), some (.int sw), some (.ref aT), some (.ref aS), some (.ref aJ), some (.ref aF), some (.ref aG), some (.ref p), some (.int (iN t)), some (.int (fld (ρ 324) t 0)), some (.int (fld (ρ 324) t 2)), some (.int (kin (ρ 324) t (fld (ρ 324) t 0 / 8))), some (.int u)] [] h K) :
    ∀ (e u : Nat), u + e = N → ∀ {h : jv_H}, LZ B n ρ aT aS aJ aF aG p t c s h0 h → jE 193 224 [some (.ref B), some (.int ro), some (.int m), some (.int fr), some (.int 1), some (.int su), some (.int gr), some (.int sw), some (.ref aT), some (.ref aS), some (.ref aJ), some (.ref aF), some (.ref aG), some (.ref p), some (.int (iN t)), some (.int (fld (ρ 324) t 0)), some (.int (fld (ρ 324) t 2)), some (.int (iN (cnt (kinP (ρ 324) t (fld (ρ 324) t 0 / 8)) u))), some (.int (iN u))] [] h K := by
  have H0 := H
  obtain ⟨hi, sp, hN, e3, l20, e0, a2, a10⟩ := H
  have h3 := hi.1.1.1
  intro e
  induction e with
  | zero =>
    intro u hu h hx
    have hu : u = N := by omega
    refine se_224 hx ⟨fun _ h1 hx1 => ?_, fun z => by rw [hm] at z; exact absurd ((iN_lt (by omega) (by omega)).mp z) (by omega)⟩
    have q := hG h1 (iN u) hx1
    unfold kin at q
    have eN : nM (ρ 324) = u := hN.trans hu.symm
    rw [eN] at q
    exact q
  | succ e ih =>
    intro u hu h hx
    have eu : iN u + 1 = iN (u + 1) := iN_add u 1
    have o2 : vO (ρ 324) (iN u) 2 = fld (ρ 324) u 2 := vO_i h3 (by omega) (by decide)
    have o0 : vO (ρ 324) (iN u) 0 = fld (ρ 324) u 0 := vO_i h3 (by omega) (by decide)
    have no : ∀ (h1 : jv_H), ¬ (u ≠ t ∧ 0 < fld (ρ 324) t 2 ∧ fld (ρ 324) u 2 = fld (ρ 324) t 2 ∧ fld (ρ 324) u 0 / 8 = fld (ρ 324) t 0 / 8) → LZ B n ρ aT aS aJ aF aG p t c s h0 h1 → jE 193 224 [some (.ref B), some (.int ro), some (.int m), some (.int fr), some (.int 1), some (.int su), some (.int gr), some (.int sw), some (.ref aT), some (.ref aS), some (.ref aJ), some (.ref aF), some (.ref aG), some (.ref p), some (.int (iN t)), some (.int (fld (ρ 324) t 0)), some (.int (fld (ρ 324) t 2)), some (.int (iN (cnt (kinP (ρ 324) t (fld (ρ 324) t 0 / 8)) u))), some (.int (iN u + 1))] [] h1 K := by
      intro h1 z hx1
      have q := ih (u + 1) (by omega) hx1
      have kz : kinP (ρ 324) t (fld (ρ 324) t 0 / 8) u = false := decide_eq_false z
      rw [cnt_s, kz, if_neg (by decide), Nat.add_zero] at q
      rw [eu]
      exact q
    refine se_224 hx ?_
    rw [o2, o0]
    refine ⟨fun z => by rw [hm] at z; exact absurd ((iN_lt (by omega) (by omega)).mpr (by omega)) z, fun _ => ⟨fun z h1 hx1 => ?_, fun z => ⟨fun y h1 hx1 => ?_, fun y => ⟨fun w h1 hx1 => ?_, fun w => ⟨fun v h1 hx1 => ?_, fun v h1 hx1 => ?_⟩⟩⟩⟩⟩
    · exact no h1 (fun y => y.1 ((iN_inj (by omega) (by omega)).mp z)) hx1
    · exact no h1 (fun x => y x.2.1) hx1
    · exact no h1 (fun x => w x.2.2.1) hx1
    · exact no h1 (fun x => v x.2.2.2) hx1
    · have q := ih (u + 1) (by omega) hx1
      have kz : kinP (ρ 324) t (fld (ρ 324) t 0 / 8) u = true := decide_eq_true ⟨fun x => z (by rw [x]), y, w, v⟩
      rw [cnt_s, kz, if_pos rfl] at q
      rw [eu, show iN (cnt (kinP (ρ 324) t (fld (ρ 324) t 0 / 8)) u) + 1 = iN (cnt (kinP (ρ 324) t (fld (ρ 324) t 0 / 8)) u + 1) from iN_add _ 1]
      exact q
/-- behind a traveller's checks: its numbers are counted -/
theorem se_d {t : Nat} (H : SEH ρ N a0) (ht : t < N) (hG : ∀ (h : jv_H) (w15 w16 w17 w18 : Option Value), LZ B n ρ aT aS aJ aF aG p (t + 1) c s h0 h → jE 193 189 [some (.ref B), some (.int ro), some (.int m), some (.int fr), some (.int 1), some (.int (sm (fJo (ρ 324)) (t + 1))), some (.int (iN (cnt (fun t => decide (fJo (ρ 324) t < 0)) (t + 1)))), some (.int (sm (fun t => fld (ρ 324) t 7) (t + 1))), some (.ref aT), some (.ref aS), some (.ref aJ), some (.ref aF), some (.ref aG), some (.ref p), some (.int (iN (t + 1))), w15, w16, w17, w18] [] h K) {h : jv_H} (hx : LZ B n ρ aT aS aJ aF aG p t c s h0 h) : jE 193 459 [some (.ref B), some (.int ro), some (.int m), some (.int fr), some (.int 1), some (.int (sm (fJo (ρ 324)) t)), some (.int (iN (cnt (fun t => decide (fJo (ρ 324) t < 0)) t))), some (.int (sm (fun t => fld (ρ 324) t 7) t)), some (.ref aT), some (.ref aS), some (.ref aJ), some (.ref aF), some (.ref aG), some (.ref p), some (.int (iN t)), some (.int (fld (ρ 324) t 0)), some (.int (fld (ρ 324) t 2)), some (.int (kin (ρ 324) t (fld (ρ 324) t 0 / 8))), some (.int (fJo (ρ 324) t))] [] h K := by
  have H0 := H
  obtain ⟨hi, sp, hN, e3, l20, e0, a2, a10⟩ := H
  have h3 := hi.1.1.1
  have hT := hi.2.2.2.2.2.1 t (by omega)
  obtain ⟨k, hk5, hk⟩ := i8 hT.2.1
  obtain ⟨f, hf10, hf⟩ := sm10 (R := ρ 324) (t := t) hT.2.2
  have nk : (iN k).toNatClampNeg = k := iN_nat (by omega)
  have nf : (iN f).toNatClampNeg = f := iN_nat (by omega)
  have bk : (0 : Int32) ≤ iN k ∧ (iN k).toNatClampNeg < 6 := ⟨(iN_le (k := 0) (by decide) (by omega)).mpr (Nat.zero_le _), by rw [nk]; omega⟩
  have bf : (0 : Int32) ≤ iN f ∧ (iN f).toNatClampNeg < 10 := ⟨(iN_le (k := 0) (by decide) (by omega)).mpr (Nat.zero_le _), by rw [nf]; omega⟩
  have o7 : vO (ρ 324) (iN t) 7 = fld (ρ 324) t 7 := vO_i h3 (by omega) (by decide)
  have et : iN t + 1 = iN (t + 1) := iN_add t 1
  have eT := seT_s (R := ρ 324) (t := t) hk hk5
  have eJ := seJ_s (R := ρ 324) (t := t) hk hk5
  have eF := seF_s (R := ρ 324) (t := t) hf hf10
  have eG := seG_s (R := ρ 324) (t := t) hf hf10
  have eM := seM_s (R := ρ 324) (t := t) hk hf hk5 hf10
  refine se_459 hx ?_
  rw [hk, hf, nk, nf, o7]
  rw [nk] at bk
  rw [nf] at bf
  refine ⟨bk, bk, bk, bk, bf, bf, bf, bf, bk, bf, bf, fun h1 hx1 => ?_⟩
  refine se_538 hx1 ?_
  rw [hk, nk, et]
  refine ⟨fun z => ⟨bk, bk, fun h2 hx2 => ?_⟩, fun z h2 hx2 => ?_⟩
  · have q := hG h2 (some (.int (fld (ρ 324) t 0))) (some (.int (iN f))) (some (.int (kin (ρ 324) t (iN k)))) (some (.int (fJo (ρ 324) t))) (hx2.ext ⟨⟨rfl, rfl, eG⟩, ⟨rfl, rfl, eF⟩, ⟨rfl, rfl, eJ⟩, ⟨rfl, rfl, seS_p hk hk5 z⟩, ⟨rfl, rfl, eT⟩, trivial⟩ eM)
    rw [cnt_s, if_pos (decide_eq_true z)] at q
    rw [show iN (cnt (fun t => decide (fJo (ρ 324) t < 0)) t) + 1 = iN (cnt (fun t => decide (fJo (ρ 324) t < 0)) t + 1) from iN_add _ 1]
    exact q
  · have q := hG h2 (some (.int (fld (ρ 324) t 0))) (some (.int (iN f))) (some (.int (kin (ρ 324) t (iN k)))) (some (.int (fJo (ρ 324) t))) (hx2.ext ⟨⟨rfl, rfl, eG⟩, ⟨rfl, rfl, eF⟩, ⟨rfl, rfl, eJ⟩, ⟨rfl, rfl, seS_n z⟩, ⟨rfl, rfl, eT⟩, trivial⟩ eM)
    rw [cnt_s, if_neg (fun y => z (of_decide_eq_true y)), Nat.add_zero] at q
    exact q
/-- a traveller -/
theorem se_t {t : Nat} (H : SEH ρ N a0) (hm : m = iN N) (ht : t < N) (hG : ∀ (h : jv_H) (w15 w16 w17 w18 : Option Value), LZ B n ρ aT aS aJ aF aG p (t + 1) c s h0 h → jE 193 189 [some (.ref B), some (.int ro), some (.int m), some (.int fr), some (.int 1), some (.int (sm (fJo (ρ 324)) (t + 1))), some (.int (iN (cnt (fun t => decide (fJo (ρ 324) t < 0)) (t + 1)))), some (.int (sm (fun t => fld (ρ 324) t 7) (t + 1))), some (.ref aT), some (.ref aS), some (.ref aJ), some (.ref aF), some (.ref aG), some (.ref p), some (.int (iN (t + 1))), w15, w16, w17, w18] [] h K) {h : jv_H} {w15 w16 w17 w18 : Option Value} (hx : LZ B n ρ aT aS aJ aF aG p t c s h0 h) : jE 193 189 [some (.ref B), some (.int ro), some (.int m), some (.int fr), some (.int 1), some (.int (sm (fJo (ρ 324)) t)), some (.int (iN (cnt (fun t => decide (fJo (ρ 324) t < 0)) t))), some (.int (sm (fun t => fld (ρ 324) t 7) t)), some (.ref aT), some (.ref aS), some (.ref aJ), some (.ref aF), some (.ref aG), some (.ref p), some (.int (iN t)), w15, w16, w17, w18] [] h K := by
  have H0 := H
  obtain ⟨hi, sp, hN, e3, l20, e0, a2, a10⟩ := H
  have h3 := hi.1.1.1
  have hT := hi.2.2.2.2.2.1 t (by omega)
  have hF := hi.2.2.2.2.1
  have htn : t < nM (ρ 324) := by omega
  have o0 : vO (ρ 324) (iN t) 0 = fld (ρ 324) t 0 := vO_i h3 htn (by decide)
  have o2 : vO (ρ 324) (iN t) 2 = fld (ρ 324) t 2 := vO_i h3 htn (by decide)
  have o3 : vO (ρ 324) (iN t) 3 = fld (ρ 324) t 3 + 9 := vO_j h3 htn (by decide)
  have o4 : vO (ρ 324) (iN t) 4 = fld (ρ 324) t 4 + 9 := vO_j h3 htn (by decide)
  have o5 : vO (ρ 324) (iN t) 5 = fld (ρ 324) t 5 := vO_i h3 htn (by decide)
  have o6 : vO (ρ 324) (iN t) 6 = fld (ρ 324) t 6 := vO_i h3 htn (by decide)
  have hS : isS (ρ 324) (fld (ρ 324) t 0) := by
    obtain ⟨s1, s2⟩ := sp.1 t htn
    refine ⟨s1, ?_⟩
    have := hi.2.2.2.1
    grind
  have wt : fWho (ρ 324) (fld (ρ 324) t 0) = iN t := who_t sp.2.1 (by omega) htn
  refine se_189 hx ?_
  rw [hm, o0, o2]
  refine ⟨fun z => absurd ((iN_lt (by omega) (by omega)).mpr (by omega)) z, fun _ h1 hx1 => ?_⟩
  refine se_k H0 rfl ht (fun h2 u hx2 => ?_) N 0 (by omega) hx1
  have fin : ∀ (h3 : jv_H), LZ B n ρ aT aS aJ aF aG p t c s h0 h3 → jE 193 367 [some (.ref B), some (.int ro), some (.int (iN N)), some (.int fr), some (.int 1), some (.int (sm (fJo (ρ 324)) t)), some (.int (iN (cnt (fun t => decide (fJo (ρ 324) t < 0)) t))), some (.int (sm (fun t => fld (ρ 324) t 7) t)), some (.ref aT), some (.ref aS), some (.ref aJ), some (.ref aF), some (.ref aG), some (.ref p), some (.int (iN t)), some (.int (fld (ρ 324) t 0)), some (.int (fld (ρ 324) t 2)), some (.int (kin (ρ 324) t (fld (ρ 324) t 0 / 8))), some (.int (fJo (ρ 324) t))] [] h3 K := by
    intro h3' hx3
    refine se_367 hx3 ⟨vO9_i h3 htn, ?_, vO10_i h3 htn, ?_, ?_, ?_, fun h4 hx4 => ?_⟩
    · rw [aJa_i h3 htn hS]
      rfl
    · rw [aAt_i hS, wt]
    · rw [vO11_i h3 htn, fPl_e]
      exact rk_of (by omega) htn
    · rw [aWm_i h3 htn hS]
      unfold fWhyM
      rw [wt, if_pos (show (0 : Int32) ≤ iN t from (iN_le (k := 0) (by decide) (by omega)).mpr (Nat.zero_le _))]
    · rw [hm] at hG
      exact se_d H0 ht hG hx4
  obtain ⟨AB, hAB⟩ : ∃ AB, (if ((fld (ρ 324) t 0 / 4) - fld (ρ 324) t 5) < 0 then -((fld (ρ 324) t 0 / 4) - fld (ρ 324) t 5) else ((fld (ρ 324) t 0 / 4) - fld (ρ 324) t 5)) = AB := ⟨_, rfl⟩
  have eJo : fJo (ρ 324) t = 4 * kin (ρ 324) t (fld (ρ 324) t 0 / 8) + (if isWin (fld (ρ 324) t 0) then fld (ρ 324) t 3 else 0) + (if isFwd (fld (ρ 324) t 0 / 4) then fld (ρ 324) t 4 else 0) - fld (ρ 324) t 6 * AB := by rw [← hAB]; rfl
  have fwd : ∀ (h3 : jv_H) (jb : Int32), jb = 4 * kin (ρ 324) t (fld (ρ 324) t 0 / 8) + (if isWin (fld (ρ 324) t 0) then fld (ρ 324) t 3 else 0) - fld (ρ 324) t 6 * AB → LZ B n ρ aT aS aJ aF aG p t c s h0 h3 → jE 193 342 [some (.ref B), some (.int ro), some (.int (iN N)), some (.int fr), some (.int 1), some (.int (sm (fJo (ρ 324)) t)), some (.int (iN (cnt (fun t => decide (fJo (ρ 324) t < 0)) t))), some (.int (sm (fun t => fld (ρ 324) t 7) t)), some (.ref aT), some (.ref aS), some (.ref aJ), some (.ref aF), some (.ref aG), some (.ref p), some (.int (iN t)), some (.int (fld (ρ 324) t 0)), some (.int (fld (ρ 324) t 2)), some (.int (kin (ρ 324) t (fld (ρ 324) t 0 / 8))), some (.int jb)] [] h3 K := by
    intro h3' jb hjb hx3
    refine se_342 hx3 ?_
    rw [o4]
    refine ⟨fun z h4 hx4 => ?_, fun z h4 hx4 => ?_⟩
    · have ej : jb = fJo (ρ 324) t := by
        rw [eJo, if_neg (show ¬ isFwd (fld (ρ 324) t 0 / 4) from z), hjb]
        grind
      rw [ej]
      exact fin h4 hx4
    · have ej : jb + ((fld (ρ 324) t 4 + 9) - 9) = fJo (ρ 324) t := by
        rw [eJo, if_pos (show isFwd (fld (ρ 324) t 0 / 4) from z), hjb]
        grind
      rw [ej]
      exact fin h4 hx4
  refine se_281 hx2 ?_
  rw [o3, o5, o6, hAB]
  refine ⟨fun z h4 hx4 => ?_, fun z => ⟨fun y h4 hx4 => ?_, fun y h4 hx4 => ?_⟩⟩
  · refine fwd h4 _ ?_ hx4
    rw [if_pos (show isWin (fld (ρ 324) t 0) from Or.inl z)]
    grind
  · refine fwd h4 _ ?_ hx4
    rw [if_neg (show ¬ isWin (fld (ρ 324) t 0) from fun x => x.elim z y)]
    grind
  · refine fwd h4 _ ?_ hx4
    rw [if_pos (show isWin (fld (ρ 324) t 0) from Or.inr y)]
    grind
/-- all travellers -/
theorem se_l (H : SEH ρ N a0) (hm : m = iN N) (hG : ∀ (h : jv_H) (w14 w15 w16 w17 w18 : Option Value), LZ B n ρ aT aS aJ aF aG p N c s h0 h → jE 193 567 [some (.ref B), some (.int ro), some (.int m), some (.int fr), some (.int 1), some (.int (fJa (ρ 324))), some (.int (fGr (ρ 324))), some (.int (fSw (ρ 324))), some (.ref aT), some (.ref aS), some (.ref aJ), some (.ref aF), some (.ref aG), some (.ref p), w14, w15, w16, w17, w18] [] h K) :
    ∀ (e t : Nat), t + e = N → ∀ {h : jv_H} {w15 w16 w17 w18 : Option Value}, LZ B n ρ aT aS aJ aF aG p t c s h0 h → jE 193 189 [some (.ref B), some (.int ro), some (.int m), some (.int fr), some (.int 1), some (.int (sm (fJo (ρ 324)) t)), some (.int (iN (cnt (fun t => decide (fJo (ρ 324) t < 0)) t))), some (.int (sm (fun t => fld (ρ 324) t 7) t)), some (.ref aT), some (.ref aS), some (.ref aJ), some (.ref aF), some (.ref aG), some (.ref p), some (.int (iN t)), w15, w16, w17, w18] [] h K := by
  have H0 := H
  obtain ⟨hi, sp, hN, e3, l20, e0, a2, a10⟩ := H
  intro e
  induction e with
  | zero =>
    intro t ht h w15 w16 w17 w18 hx
    have ht : t = N := by omega
    subst ht
    refine se_189 hx ?_
    rw [hm]
    refine ⟨fun _ h1 hx1 => ?_, fun z => absurd ((iN_lt (by omega) (by omega)).mp z) (by omega)⟩
    have q := hG h1 (some (.int (iN t))) w15 w16 w17 w18 hx1
    unfold fJa fGr fSw at q
    rw [hN, hm] at q
    exact q
  | succ e ih =>
    intro t ht h w15 w16 w17 w18 hx
    exact se_t H0 hm (by omega) (fun h1 v15 v16 v17 v18 hx1 => ih (t + 1) (by omega) hx1) hx
theorem seM_e (hN : nM (ρ 324) = N) (q f : Nat) : seM (ρ 324) N q f = iN (mem (ρ 324) (iN q) (iN f)) := by
  unfold seM mem
  rw [hN]
/-- a family's tables -/
theorem se_q {j : Nat} (H : SEH ρ N a0) (hj : j < 9) (hG : ∀ (h : jv_H) (w17 w18 : Option Value), LZ B n ρ aT aS aJ aF aG p N c s h0 h → jE 193 618 [some (.ref B), some (.int ro), some (.int m), some (.int fr), some (.int 1), some (.int (fJa (ρ 324))), some (.int (fGr (ρ 324))), some (.int (fSw (ρ 324))), some (.ref aT), some (.ref aS), some (.ref aJ), some (.ref aF), some (.ref aG), some (.ref p), some (.int (iN (cnt (fun j => decide (0 < fMF (ρ 324) (iN (j + 1)))) j))), some (.int (iN (j + 1))), some (.int (iN (cnt (fun q => decide (0 < iN (mem (ρ 324) (iN q) (iN (j + 1))))) 6))), w17, w18] [] h K) :
    ∀ (e q : Nat), q + e = 6 → ∀ {h : jv_H} {w18 : Option Value}, LZ B n ρ aT aS aJ aF aG p N c s h0 h → jE 193 591 [some (.ref B), some (.int ro), some (.int m), some (.int fr), some (.int 1), some (.int (fJa (ρ 324))), some (.int (fGr (ρ 324))), some (.int (fSw (ρ 324))), some (.ref aT), some (.ref aS), some (.ref aJ), some (.ref aF), some (.ref aG), some (.ref p), some (.int (iN (cnt (fun j => decide (0 < fMF (ρ 324) (iN (j + 1)))) j))), some (.int (iN (j + 1))), some (.int (iN (cnt (fun q => decide (0 < iN (mem (ρ 324) (iN q) (iN (j + 1))))) q))), some (.int (iN q)), w18] [] h K := by
  have H0 := H
  obtain ⟨hi, sp, hN, e3, l20, e0, a2, a10⟩ := H
  have nf : (iN (j + 1)).toNatClampNeg = j + 1 := iN_nat (by omega)
  have bf : (0 : Int32) ≤ iN (j + 1) ∧ j + 1 < 10 := ⟨(iN_le (k := 0) (by decide) (by omega)).mpr (Nat.zero_le _), by omega⟩
  intro e
  induction e with
  | zero =>
    intro q hq h w18 hx
    have hq : q = 6 := by omega
    subst hq
    exact se_591 hx ⟨fun _ h1 hx1 => hG h1 _ _ hx1, fun z => absurd z (by decide)⟩
  | succ e ih =>
    intro q hq h w18 hx
    have nq : (iN q).toNatClampNeg = q := iN_nat (by omega)
    have bq : (0 : Int32) ≤ iN q ∧ q < 6 := ⟨(iN_le (k := 0) (by decide) (by omega)).mpr (Nat.zero_le _), by omega⟩
    have eq : iN q + 1 = iN (q + 1) := iN_add q 1
    refine se_591 hx ?_
    rw [nq, nf, seM_e hN, eq]
    refine ⟨fun z => absurd ((iN_lt (m := 6) (by omega) (by decide)).mpr (by omega)) z, fun _ => ⟨bq, bf, fun z h1 hx1 => ?_, fun z h1 hx1 => ?_⟩⟩
    · have v := ih (q + 1) (by omega) (w18 := w18) hx1
      rw [cnt_s, if_neg (fun y => z (of_decide_eq_true y)), Nat.add_zero] at v
      exact v
    · have v := ih (q + 1) (by omega) (w18 := w18) hx1
      rw [cnt_s, if_pos (decide_eq_true z)] at v
      rw [show (iN (cnt (fun q => decide (0 < iN (mem (ρ 324) (iN q) (iN (j + 1))))) q)) + 1 = iN (cnt (fun q => decide (0 < iN (mem (ρ 324) (iN q) (iN (j + 1))))) q + 1) from iN_add _ 1]
      exact v
theorem mem_5 (H : SEH ρ N a0) (f : Int32) : mem (ρ 324) (iN 5) f = 0 := by
  obtain ⟨hi, sp, hN, e3, l20, e0, a2, a10⟩ := H
  refine cnt_none _ (fun t ht => decide_eq_false (fun z => ?_))
  obtain ⟨k, hk5, hk⟩ := i8 (hi.2.2.2.2.2.1 t ht).2.1
  rw [hk] at z
  have := (iN_inj (by omega) (by decide)).mp z.1
  omega
/-- families -/
theorem se_f (H : SEH ρ N a0) (hG : ∀ (h : jv_H) (w15 w16 w17 w18 : Option Value), LZ B n ρ aT aS aJ aF aG p N c s h0 h → jE 193 688 [some (.ref B), some (.int ro), some (.int m), some (.int fr), some (.int 1), some (.int (fJa (ρ 324))), some (.int (fGr (ρ 324))), some (.int (fSw (ρ 324))), some (.ref aT), some (.ref aS), some (.ref aJ), some (.ref aF), some (.ref aG), some (.ref p), some (.int (fFs (fMF (ρ 324)))), w15, w16, w17, w18] [] h K) :
    ∀ (e j : Nat), j + e = 9 → ∀ {h : jv_H} {w16 w17 w18 : Option Value}, LZ B n ρ aT aS aJ aF aG p N c s h0 h → jE 193 573 [some (.ref B), some (.int ro), some (.int m), some (.int fr), some (.int 1), some (.int (fJa (ρ 324))), some (.int (fGr (ρ 324))), some (.int (fSw (ρ 324))), some (.ref aT), some (.ref aS), some (.ref aJ), some (.ref aF), some (.ref aG), some (.ref p), some (.int (iN (cnt (fun j => decide (0 < fMF (ρ 324) (iN (j + 1)))) j))), some (.int (iN (j + 1))), w16, w17, w18] [] h K := by
  have H0 := H
  obtain ⟨hi, sp, hN, e3, l20, e0, a2, a10⟩ := H
  intro e
  induction e with
  | zero =>
    intro j hj h w16 w17 w18 hx
    have hj : j = 9 := by omega
    subst hj
    exact se_573 hx ⟨fun _ h1 hx1 => hG h1 _ _ _ _ hx1, fun z => absurd z (by decide)⟩
  | succ e ih =>
    intro j hj h w16 w17 w18 hx
    have nf : (iN (j + 1)).toNatClampNeg = j + 1 := iN_nat (by omega)
    have bf : (0 : Int32) ≤ iN (j + 1) ∧ j + 1 < 10 := ⟨(iN_le (k := 0) (by decide) (by omega)).mpr (Nat.zero_le _), by omega⟩
    have f19 : (1 : Int32) ≤ iN (j + 1) ∧ iN (j + 1) ≤ 9 := ⟨(iN_le (k := 1) (by decide) (by omega)).mpr (by omega), (iN_le (m := 9) (by omega) (by decide)).mpr (by omega)⟩
    have ef : iN (j + 1) + 1 = iN (j + 1 + 1) := iN_add (j + 1) 1
    have e1 : seF (ρ 324) N (j + 1) = fMF (ρ 324) (iN (j + 1)) := by
      unfold seF fMF
      rw [hN]
    have e2 : seG (ρ 324) N (j + 1) = fJF (ρ 324) (iN (j + 1)) := by
      unfold seG fJF
      rw [hN]
    have v0 : vFa (ρ 324) (iN (j + 1)) 0 = fMF (ρ 324) (iN (j + 1)) := by
      unfold vFa aFa
      rw [if_pos f19, if_pos rfl]
    have v1 : vFa (ρ 324) (iN (j + 1)) 1 = iN (cnt (fun q => decide (0 < iN (mem (ρ 324) (iN q) (iN (j + 1))))) 6) := by
      unfold vFa aFa
      rw [if_pos f19, if_neg (by decide), if_pos rfl, cnt_s _ 5, mem_5 H0, if_neg (by decide)]
      rfl
    have v2 : vFa (ρ 324) (iN (j + 1)) 2 = fJF (ρ 324) (iN (j + 1)) + 1000 := by
      unfold vFa aFa
      rw [if_pos f19, if_neg (by decide), if_neg (by decide), if_pos rfl]
    refine se_573 hx ⟨fun z => absurd ((iN_lt (m := 10) (by omega) (by decide)).mpr (by omega)) z, fun _ h1 hx1 => ?_⟩
    refine se_q H0 (by omega) (fun h2 v17 v18 hx2 => ?_) 6 0 rfl hx1
    refine se_618 hx2 ?_
    rw [nf, e1, e2, v0, v1, v2, ef]
    refine ⟨bf, fun z => ⟨bf, rfl, rfl, bf, rfl, fun h3 hx3 => ?_⟩, fun z => ⟨bf, rfl, rfl, bf, rfl, fun h3 hx3 => ?_⟩⟩
    · have v := ih (j + 1) (by omega) (w16 := some (.int (iN (cnt (fun q => decide (0 < iN (mem (ρ 324) (iN q) (iN (j + 1))))) 6)))) (w17 := v17) (w18 := v18) hx3
      rw [cnt_s, if_neg (fun y => z (of_decide_eq_true y)), Nat.add_zero] at v
      exact v
    · have v := ih (j + 1) (by omega) (w16 := some (.int (iN (cnt (fun q => decide (0 < iN (mem (ρ 324) (iN q) (iN (j + 1))))) 6)))) (w17 := v17) (w18 := v18) hx3
      rw [cnt_s, if_pos (decide_eq_true z)] at v
      rw [show (iN (cnt (fun j => decide (0 < fMF (ρ 324) (iN (j + 1)))) j)) + 1 = iN (cnt (fun j => decide (0 < fMF (ρ 324) (iN (j + 1)))) j + 1) from iN_add _ 1]
      exact v
/-- the greatest family: what the fold holds -/
theorem gf_inv {mm : Int32 → Int32} : ∀ j, j ≤ 9 → nfold (gfS mm) j (0, 0) = (0, 0) ∨ ∃ i, 1 ≤ i ∧ i ≤ j ∧ nfold (gfS mm) j (0, 0) = (iN i, mm (iN i))
  | 0, _ => Or.inl rfl
  | j + 1, hj => by
    have ih := gf_inv (mm := mm) j (by omega)
    have e : nfold (gfS mm) (j + 1) (0, 0) = gfS mm j (nfold (gfS mm) j (0, 0)) := rfl
    rw [e]
    by_cases q : (nfold (gfS mm) j (0, 0)).2 < mm (iN (j + 1))
    · rw [gfS_t q]
      exact Or.inr ⟨j + 1, by omega, Nat.le_refl _, rfl⟩
    · rw [gfS_f q]
      rcases ih with z | ⟨i, i1, i2, z⟩
      · exact Or.inl z
      · exact Or.inr ⟨i, i1, by omega, z⟩
theorem mem_b (h20 : nM (ρ 324) ≤ 20) (b f : Int32) : (0 : Int32) ≤ iN (mem (ρ 324) b f) := by
  have := cnt_le (memP (ρ 324) b f) (nM (ρ 324))
  exact (iN_le (k := 0) (by decide) (by unfold mem; omega)).mpr (Nat.zero_le _)
theorem se_m {k : Nat} (H : SEH ρ N a0) (hk : k < 5) (hG : ∀ (h : jv_H) (w17 w18 : Option Value), LZ B n ρ aT aS aJ aF aG p N c s h0 h → jE 193 765 [some (.ref B), some (.int ro), some (.int m), some (.int fr), some (.int 1), some (.int (fJa (ρ 324))), some (.int (fGr (ρ 324))), some (.int (fSw (ρ 324))), some (.ref aT), some (.ref aS), some (.ref aJ), some (.ref aF), some (.ref aG), some (.ref p), some (.int (fFs (fMF (ρ 324)))), some (.int (iN k)), some (.int (nfold (gfS (fun f => iN (mem (ρ 324) (iN k) f))) 9 (0, 0)).1), w17, w18] [] h K) :
    ∀ (e j : Nat), j + e = 9 → ∀ {h : jv_H} {w18 : Option Value}, LZ B n ρ aT aS aJ aF aG p N c s h0 h → jE 193 713 [some (.ref B), some (.int ro), some (.int m), some (.int fr), some (.int 1), some (.int (fJa (ρ 324))), some (.int (fGr (ρ 324))), some (.int (fSw (ρ 324))), some (.ref aT), some (.ref aS), some (.ref aJ), some (.ref aF), some (.ref aG), some (.ref p), some (.int (fFs (fMF (ρ 324)))), some (.int (iN k)), some (.int (nfold (gfS (fun f => iN (mem (ρ 324) (iN k) f))) j (0, 0)).1), some (.int (iN (j + 1))), w18] [] h K := by
  have H0 := H
  obtain ⟨hi, sp, hN, e3, l20, e0, a2, a10⟩ := H
  have nk : (iN k).toNatClampNeg = k := iN_nat (by omega)
  have bk : (0 : Int32) ≤ iN k ∧ k < 6 := ⟨(iN_le (k := 0) (by decide) (by omega)).mpr (Nat.zero_le _), by omega⟩
  intro e
  induction e with
  | zero =>
    intro j hj h w18 hx
    have hj : j = 9 := by omega
    subst hj
    exact se_713 hx ⟨fun _ h1 hx1 => hG h1 _ _ hx1, fun z => absurd z (by decide)⟩
  | succ e ih =>
    intro j hj h w18 hx
    have nf : (iN (j + 1)).toNatClampNeg = j + 1 := iN_nat (by omega)
    have bf : (0 : Int32) ≤ iN (j + 1) ∧ j + 1 < 10 := ⟨(iN_le (k := 0) (by decide) (by omega)).mpr (Nat.zero_le _), by omega⟩
    have ef : iN (j + 1) + 1 = iN (j + 1 + 1) := iN_add (j + 1) 1
    have es : nfold (gfS (fun f => iN (mem (ρ 324) (iN k) f))) (j + 1) (0, 0) = gfS (fun f => iN (mem (ρ 324) (iN k) f)) j (nfold (gfS (fun f => iN (mem (ρ 324) (iN k) f))) j (0, 0)) := rfl
    have inv := gf_inv (mm := fun f => iN (mem (ρ 324) (iN k) f)) j (by omega)
    obtain ⟨P, hP⟩ : ∃ P, nfold (gfS (fun f => iN (mem (ρ 324) (iN k) f))) j (0, 0) = P := ⟨_, rfl⟩
    rw [hP] at es inv ⊢
    have yes : ∀ (h1 : jv_H) (w : Option Value), P.2 < iN (mem (ρ 324) (iN k) (iN (j + 1))) → LZ B n ρ aT aS aJ aF aG p N c s h0 h1 → jE 193 713 [some (.ref B), some (.int ro), some (.int m), some (.int fr), some (.int 1), some (.int (fJa (ρ 324))), some (.int (fGr (ρ 324))), some (.int (fSw (ρ 324))), some (.ref aT), some (.ref aS), some (.ref aJ), some (.ref aF), some (.ref aG), some (.ref p), some (.int (fFs (fMF (ρ 324)))), some (.int (iN k)), some (.int (iN (j + 1))), some (.int (iN (j + 1 + 1))), w] [] h1 K := by
      intro h1 w z hx1
      have v := ih (j + 1) (by omega) (w18 := w) hx1
      rw [es, gfS_t (m := fun f => iN (mem (ρ 324) (iN k) f)) z] at v
      exact v
    have no : ∀ (h1 : jv_H) (w : Option Value), ¬ P.2 < iN (mem (ρ 324) (iN k) (iN (j + 1))) → LZ B n ρ aT aS aJ aF aG p N c s h0 h1 → jE 193 713 [some (.ref B), some (.int ro), some (.int m), some (.int fr), some (.int 1), some (.int (fJa (ρ 324))), some (.int (fGr (ρ 324))), some (.int (fSw (ρ 324))), some (.ref aT), some (.ref aS), some (.ref aJ), some (.ref aF), some (.ref aG), some (.ref p), some (.int (fFs (fMF (ρ 324)))), some (.int (iN k)), some (.int P.1), some (.int (iN (j + 1 + 1))), w] [] h1 K := by
      intro h1 w z hx1
      have v := ih (j + 1) (by omega) (w18 := w) hx1
      rw [es, gfS_f (m := fun f => iN (mem (ρ 324) (iN k) f)) z] at v
      exact v
    have h10 : iN (j + 1) < 10 := (iN_lt (m := 10) (by omega) (by decide)).mpr (by omega)
    rcases inv with rfl | ⟨i, i1, i2, rfl⟩
    · refine se_713 hx ?_
      rw [nk, nf, seM_e hN, seM_e hN, ef]
      refine ⟨fun z => absurd h10 z, fun _ => ⟨bk, bf, bk, by decide, fun z h1 hx1 => ?_, fun z => ⟨fun y => absurd rfl y, fun _ => ⟨bk, bf, fun y h1 hx1 => ?_, fun y h1 hx1 => ?_⟩⟩⟩⟩
      · exact yes h1 w18 (Int32.lt_of_le_of_lt (mem_b (by omega) _ _) z) hx1
      · exact no h1 w18 y hx1
      · exact yes h1 w18 y hx1
    · have ni : (iN i).toNatClampNeg = i := iN_nat (by omega)
      have bi : (0 : Int32) ≤ iN i ∧ i < 10 := ⟨(iN_le (k := 0) (by decide) (by omega)).mpr (Nat.zero_le _), by omega⟩
      have n0 : ¬ iN i = 0 := iN_eq (b := 0) (by omega) (by decide) (by omega)
      refine se_713 hx ?_
      show (_ ∧ _)
      rw [nk, nf, ni, seM_e hN, seM_e hN, ef]
      exact ⟨fun z => absurd h10 z, fun _ => ⟨bk, bf, bk, bi, fun z h1 hx1 => yes h1 w18 z hx1, fun z => ⟨fun _ h1 hx1 => no h1 w18 z hx1, fun y => absurd y n0⟩⟩⟩
/-- tables -/
theorem se_b {T : Nat} (H : SEH ρ N a0) (hT : T = (a0 + 1) / 2) (hG : ∀ (h : jv_H) (w15 w16 w17 w18 : Option Value), LZ B n ρ aT aS aJ aF aG p N c s h0 h → jE 193 839 [some (.ref B), some (.int ro), some (.int m), some (.int fr), some (.int 1), some (.int (fJa (ρ 324))), some (.int (fGr (ρ 324))), some (.int (fSw (ρ 324))), some (.ref aT), some (.ref aS), some (.ref aJ), some (.ref aF), some (.ref aG), some (.ref p), some (.int (fFs (fMF (ρ 324)))), w15, w16, w17, w18] [] h K) :
    ∀ (e k : Nat), k + e = T → ∀ {h : jv_H} {w16 w17 w18 : Option Value}, LZ B n ρ aT aS aJ aF aG p N c s h0 h → jE 193 691 [some (.ref B), some (.int ro), some (.int m), some (.int fr), some (.int 1), some (.int (fJa (ρ 324))), some (.int (fGr (ρ 324))), some (.int (fSw (ρ 324))), some (.ref aT), some (.ref aS), some (.ref aJ), some (.ref aF), some (.ref aG), some (.ref p), some (.int (fFs (fMF (ρ 324)))), some (.int (iN k)), w16, w17, w18] [] h K := by
  have H0 := H
  obtain ⟨hi, sp, hN, e3, l20, e0, a2, a10⟩ := H
  have eT : (ρ 324 0 + 1) / 2 = iN T := by
    rw [e0, show iN a0 + 1 = iN (a0 + 1) from iN_add a0 1, hT]
    exact iN_div (d := 2) (by omega) (by decide)
  intro e
  induction e with
  | zero =>
    intro k hk h w16 w17 w18 hx
    refine se_691 hx ?_
    rw [eT]
    exact ⟨fun _ h1 hx1 => hG h1 _ _ _ _ hx1, fun z => absurd ((iN_lt (by omega) (by omega)).mp z) (by omega)⟩
  | succ e ih =>
    intro k hk h w16 w17 w18 hx
    have nk : (iN k).toNatClampNeg = k := iN_nat (by omega)
    have bk : (0 : Int32) ≤ iN k ∧ k < 6 := ⟨(iN_le (k := 0) (by decide) (by omega)).mpr (Nat.zero_le _), by omega⟩
    have ek : iN k + 1 = iN (k + 1) := iN_add k 1
    have rg : (0 : Int32) ≤ iN k ∧ iN k ≤ (ρ 324 0 + 1) / 2 - 1 := by
      refine ⟨bk.1, ?_⟩
      rw [eT, show (1 : Int32) = iN 1 from rfl, iN_sub (by omega) (by omega)]
      exact (iN_le (by omega) (by omega)).mpr (by omega)
    have v0 : vTb (ρ 324) (iN k) 0 = seT (ρ 324) N k := by
      unfold vTb aTb
      rw [if_pos rg, if_pos rfl]
      unfold fAc seT
      rw [hN]
    have v1 : vTb (ρ 324) (iN k) 1 = seS (ρ 324) N k := by
      unfold vTb aTb
      rw [if_pos rg, if_neg (by decide), if_pos rfl]
      unfold fAg seS
      rw [hN]
    have v2 : vTb (ρ 324) (iN k) 2 = seJ (ρ 324) N k + 1000 := by
      unfold vTb aTb
      rw [if_pos rg, if_neg (by decide), if_neg (by decide), if_pos rfl]
      unfold fAj seJ
      rw [hN]
    have v3 : vTb (ρ 324) (iN k) 3 = (nfold (gfS (fun f => iN (mem (ρ 324) (iN k) f))) 9 (0, 0)).1 := by
      unfold vTb aTb
      rw [if_pos rg, if_neg (by decide), if_neg (by decide), if_neg (by decide), if_pos rfl]
      rfl
    refine se_691 hx ?_
    rw [eT]
    refine ⟨fun z => absurd ((iN_lt (by omega) (by omega)).mpr (by omega)) z, fun _ h1 hx1 => ?_⟩
    refine se_m (k := k) H0 (by omega) (fun h2 v17 v18 hx2 => ?_) 9 0 rfl hx1
    refine se_765 hx2 ?_
    rw [nk, v0, v1, v2, v3, ek]
    exact ⟨bk, rfl, bk, rfl, bk, rfl, rfl, fun h3 hx3 => ih (k + 1) (by omega) hx3⟩
/-- places: from the k-th one on -/
theorem se_r (H : SEH ρ N a0) (hm : m = iN N) (hG : ∀ (h : jv_H) (w15 w16 w17 w18 : Option Value), LZ B n ρ aT aS aJ aF aG p N c s h0 h → jE 193 929 [some (.ref B), some (.int ro), some (.int m), some (.int fr), some (.int 1), some (.int (fJa (ρ 324))), some (.int (fGr (ρ 324))), some (.int (fSw (ρ 324))), some (.ref aT), some (.ref aS), some (.ref aJ), some (.ref aF), some (.ref aG), some (.ref p), some (.int (fFs (fMF (ρ 324)))), w15, w16, w17, w18] [] h K) :
    ∀ (e k : Nat), 1 ≤ k → k ≤ 21 → N ≤ k + e → ∀ {h : jv_H} {w16 w17 w18 : Option Value}, LZ B n ρ aT aS aJ aF aG p N c s h0 h → jE 193 842 [some (.ref B), some (.int ro), some (.int m), some (.int fr), some (.int 1), some (.int (fJa (ρ 324))), some (.int (fGr (ρ 324))), some (.int (fSw (ρ 324))), some (.ref aT), some (.ref aS), some (.ref aJ), some (.ref aF), some (.ref aG), some (.ref p), some (.int (fFs (fMF (ρ 324)))), some (.int (iN k)), w16, w17, w18] [] h K := by
  have H0 := H
  obtain ⟨hi, sp, hN, e3, l20, e0, a2, a10⟩ := H
  have h3 := hi.1.1.1
  have hT := hi.2.2.2.2.2.1
  have hF := hi.2.2.2.2.1
  subst hm
  intro e
  induction e with
  | zero =>
    intro k hk1 hk2 hk h w16 w17 w18 hx
    exact se_842 hx ⟨fun _ h1 hx1 => hG h1 _ _ _ _ hx1, fun z => absurd ((iN_lt (by omega) (by omega)).mp z) (by omega)⟩
  | succ e ih =>
    intro k hk1 hk2 hk h w16 w17 w18 hx
    by_cases q : k < N
    · obtain ⟨u, hu, eu, ru⟩ := vRk_i (R := ρ 324) (k := k - 1) (by omega) (by omega)
      obtain ⟨t, ht, et, rt⟩ := vRk_i (R := ρ 324) (k := k) (by omega) (by omega)
      have e1 : iN k - 1 = iN (k - 1) := by rw [show (1 : Int32) = iN 1 from rfl, iN_sub (by omega) hk1]
      have ek : iN k + 1 = iN (k + 1) := iN_add k 1
      have hpl : plP (ρ 324) t u = true := by
        have hne : t ≠ u := fun z => by
          rw [z] at rt
          omega
        rcases pl_tot (R := ρ 324) hne with z | z
        · exact z
        · have := rk_mono (R := ρ 324) ht z
          omega
      have hpl := pl_iff.mp hpl
      have b1 := j200 (fJo_b h3 hT hF ht)
      have b2 := j200 (fJo_b h3 hT hF hu)
      refine se_842 hx ?_
      rw [e1, eu, et, vO9_i h3 ht, vO9_i h3 hu, ek]
      refine ⟨fun z => absurd ((iN_lt (by omega) (by omega)).mpr (by omega)) z, fun _ => ⟨fun z h1 hx1 => ih (k + 1) (by omega) (by omega) (by omega) hx1, fun z => ?_⟩⟩
      rcases hpl with y | ⟨y1, y2⟩
      · exact absurd ((j100 b1 b2).mpr y) z
      · exact ⟨by rw [y1], (iN_lt (by omega) (by omega)).mpr y2, fun h1 hx1 => ih (k + 1) (by omega) (by omega) (by omega) hx1⟩
    · exact se_842 hx ⟨fun _ h1 hx1 => hG h1 _ _ _ _ hx1, fun z => absurd ((iN_lt (by omega) (by omega)).mp z) (by omega)⟩
/-- floats that are numbers -/
theorem fl_self : ∀ k, k < 21 → ∀ q, q < 11 → (Nat.blt q 2 || (decide (Op.cmpValue (FP.fcmp (FP.fdiv (FP.i2f (iN k)) (FP.i2f (4 * iN q))) (FP.fdiv (FP.i2f (iN k)) (FP.i2f (4 * iN q)))) .l = 0) && decide ((FP.fdiv (FP.i2f (iN k)) (FP.i2f (4 * iN q))) &&& 0x7fffffff ≤ 0x7f800000))) = true := by decide +kernel
theorem dn_num {v : UInt64} (h : v &&& 0x7fffffffffffffff ≤ 0x7ff0000000000000) : FP.Core.decode FP.Core.b64 v.toNat ≠ .nan := by
  have ee : FP.Core.Fmt.exps FP.Core.b64 = 2048 := by decide +kernel
  have et : FP.Core.Fmt.tails FP.Core.b64 = 4503599627370496 := by decide +kernel
  rw [UInt64.le_iff_toNat_le, UInt64.toNat_and] at h
  have e2 : (0x7fffffffffffffff : UInt64).toNat = 2 ^ 63 - 1 := by decide
  have e3 : (0x7ff0000000000000 : UInt64).toNat = 9218868437227405312 := by decide
  rw [e2, e3, Nat.and_two_pow_sub_one_eq_mod] at h
  have e4 : (2 : Nat) ^ 63 = 9223372036854775808 := by decide
  rw [e4] at h
  generalize v.toNat = x at *
  unfold FP.Core.decode FP.Core.fieldE FP.Core.fieldT
  rw [ee, et]
  intro z
  split at z
  · split at z
    · cases z
    · rename_i q1 q2
      omega
  · split at z <;> cases z
theorem d_self {v : UInt64} (h : v &&& 0x7fffffffffffffff ≤ 0x7ff0000000000000) : Op.cmpValue (FP.dcmp v v) .l = 0 := by
  have hn := dn_num h
  have hd : FP.dcmp v v = FP.Core.order (FP.Core.decode FP.Core.b64 v.toNat) (FP.Core.decode FP.Core.b64 v.toNat) := rfl
  rw [hd]
  generalize FP.Core.decode FP.Core.b64 v.toNat = d at *
  rcases ord_self d with e | e
  · cases d with
    | nan => exact absurd rfl hn
    | inf s => cases e
    | fin s c q => cases e
  · rw [e]
    rfl
theorem lm_seats {ρ : gS} (sp : SP ρ) : LM 193 [some (.ref B), none, none, none, none, none, none, none, none, none, none, none, none, none, none, none, none, none, none] B n ρ (c + 12) (s + 104) (.int 1) n ρ c s := fun h hx => by
  have hi := hx.inf
  have h3 := hi.1.1.1
  have hT := hi.2.2.2.2.2.1
  have hF := hi.2.2.2.2.1
  obtain ⟨e3, l20⟩ := hi.n
  obtain ⟨a0, a2, a10, e0, -⟩ := rw_n hi.2.2.2.1
  have H : SEH ρ (nM (ρ 324)) a0 := ⟨hi, sp.1.1, rfl, e3, l20, e0, a2, a10⟩
  have fc := free_c sp.1.1 h3 e0 a10
  refine se_0 hx ⟨?_, ?_, fun h1 hx1 => ?_⟩
  · unfold vO
    rw [if_neg (fun z => ?_)]
    have := z.2
    rw [e3, show (1 : Int32) = iN 1 from rfl] at this
    have z1 := z.1
    grind
  · unfold aAt
    rw [if_neg (fun z => ?_)]
    have := z.2
    have h0 := hi.2.2.2.1
    grind
  rw [e0, e3]
  refine se_a H rfl (fun h2 w5 w6 hx2 => ?_) (4 * a0) 0 (by omega) hx1
  refine se_137 (c := c) (s := s) hx2 (fun aT aS aJ aF aG p h4 hx4 => ?_)
  refine se_l H rfl (fun h5 w14 w15 w16 w17 w18 hx5 => ?_) (nM (ρ 324)) 0 (by omega) hx4
  refine se_567 hx5 (fun h6 hx6 => ?_)
  refine se_f H (fun h7 w15 w16 w17 w18 hx7 => ?_) 9 0 rfl hx6
  refine se_688 hx7 (fun h8 hx8 => ?_)
  refine se_b H rfl (fun h9 w15 w16 w17 w18 hx9 => ?_) ((a0 + 1) / 2) 0 (by omega) hx8
  refine se_839 hx9 (fun h10 hx10 => ?_)
  refine se_r H rfl (fun h11 w15 w16 w17 w18 hx11 => ?_) 20 1 (Nat.le_refl _) (by omega) (by omega) hx10
  have kf := fl_self (nM (ρ 324)) (by omega) a0 (by omega)
  rw [Bool.or_eq_true] at kf
  have kf := kf.resolve_left (fun z => by
    have := Nat.blt_eq.mp z
    omega)
  rw [Bool.and_eq_true] at kf
  have kf1 := of_decide_eq_true kf.1
  have kf2 := of_decide_eq_true kf.2
  have evF : vFl (ρ 324) = FP.fdiv (FP.i2f (iN (nM (ρ 324)))) (FP.i2f (4 * iN a0)) := by
    unfold vFl
    rw [e3, e0]
  refine se_929 hx11 ⟨vRk_n l20, ?_, rfl, rfl, rfl, rfl, by rw [e0], ?_, kf2, by rw [evF]; exact kf1, fun z => ?_, fun z => ⟨?_, fun h12 hx12 => ⟨rfl, hx12⟩⟩⟩
  · rw [e0, e3, show (4 : Int32) = iN 4 from rfl, iN_mul, iN_sub (by omega) (by omega)]
    congr 1
    omega
  · unfold vTb aTb
    rw [if_neg (fun z => ?_)]
    have := z.2
    have z1 := z.1
    grind
  · have z3 : ¬ ρ 324 3 = 0 := by rw [e3]; exact z
    have ok := vMj_ok h3 hT hF z3
    have em : vMj (ρ 324) = FP.ddiv (FP.i2d (fJa (ρ 324))) (FP.i2d (iN (nM (ρ 324)))) := by
      unfold vMj
      rw [if_neg z3, e3]
    rw [e3] at ok
    exact ⟨ok, by rw [em]; exact d_self ok, fun h12 hx12 => ⟨rfl, hx12⟩⟩
  · have z3 : ρ 324 3 = 0 := by rw [e3]; exact z
    unfold vMj
    rw [if_pos z3]
    decide +kernel
end SE
