/-! does(x, w, v) -/
theorem ds_0 {B n c s : Nat} {ρ : gS} {h0 h : jv_H} {K : jK} {w v : Int32} (hx : LX B n ρ [] c s h0 h) (T : ((¬ (ρ 324 3) = 0 → ((¬ (ρ 324 3) = 0) ∧ (∀ h1, LX B n ρ [] c s h0 h1 → jE 199 29 [some (.ref B), some (.int w), some (.int v), some (.long (hsh ρ)), none, some (.int (ρ 324 3)), none, none, none, none] [.int ((v &&& 255) - (v &&& 255) / (ρ 324 3) * (ρ 324 3))] h1 K))) ∧ ((ρ 324 3) = 0 → (∀ h1, LX B n ρ [] c s h0 h1 → jE 199 29 [some (.ref B), some (.int w), some (.int v), some (.long (hsh ρ)), none, some (.int (ρ 324 3)), none, none, none, none] [.int 0] h1 K)))) : jE 199 0 [some (.ref B), some (.int w), some (.int v), none, none, none, none, none, none, none] [] h K := by
  refine jx_blk (by decide) [(.aload_n 0, 1)] (pc' := 1) (Lv' := [some (.ref B), some (.int w), some (.int v), none, none, none, none, none, none, none]) (st' := [.ref B]) (by decide +kernel) rfl ?_
  refine lx_m (z := 192) (na := 1) (mL := 5) (v := .long (hsh ρ)) (r := []) [.ref B] (by decide +kernel) hx (lm_state) rfl rfl (Nat.le_of_ble_eq_true rfl) rfl (fun h1 hx2 => ?_)
  refine jx_blk (by decide) [(.lstore_n 3, 1), (.aload_n 0, 1), (.iconst 3, 1)] (pc' := 7) (Lv' := [some (.ref B), some (.int w), some (.int v), some (.long (hsh ρ)), none, none, none, none, none, none]) (st' := [.int 3, .ref B]) (by decide +kernel) rfl ?_
  refine lx_call (z := 123) (na := 2) (mL := 2) (v := .int (ρ 324 3)) (ρ' := ρ) (r := []) [3] (by decide +kernel) hx2 xr_v3 hx2.1.1 rfl rfl (fun _ => rfl) (Nat.le_of_ble_eq_true rfl) (fun h3 hx4 => ?_)
  refine jx_blk (by decide) [(.istore 5, 2), (.iload 5, 2)] (pc' := 14) (Lv' := [some (.ref B), some (.int w), some (.int v), some (.long (hsh ρ)), none, some (.int (ρ 324 3)), none, none, none, none]) (st' := [.int (ρ 324 3)]) (by decide +kernel) rfl ?_
  refine jx_if_ne (off := 7) (b := 21) (by decide) (by decide +kernel) (by decide) (fun e5 => ?_) (fun e5 => ?_)
  · have t6 := T.1 e5
    refine jx_blk (by decide) [(.iload_n 2, 1), (.sipush 255, 3), (.iand, 1), (.iload 5, 2)] (pc' := 28) (Lv' := [some (.ref B), some (.int w), some (.int v), some (.long (hsh ρ)), none, some (.int (ρ 324 3)), none, none, none, none]) (st' := [.int (ρ 324 3), .int (v &&& 255)]) (by decide +kernel) rfl ?_
    obtain ⟨et8, t8⟩ := t6
    refine jx_rem (by decide) (by decide +kernel) et8 ?_
    exact t8 _ hx4
  · have t7 := T.2 e5
    refine jx_blk (by decide) [(.iconst 0, 1)] (pc' := 18) (Lv' := [some (.ref B), some (.int w), some (.int v), some (.long (hsh ρ)), none, some (.int (ρ 324 3)), none, none, none, none]) (st' := [.int 0]) (by decide +kernel) rfl ?_
    refine jx_goto (off := 11) (b := 29) (by decide) (by decide +kernel) (by decide) ?_
    exact t7 _ hx4

theorem ds_29 {B n c s : Nat} {ρ : gS} {h0 h : jv_H} {K : jK} {o : Int64} {w v m t : Int32} (hx : LX B n ρ [] c s h0 h) (T : ((¬ m = 0 → ((¬ m = 0) ∧ (∀ h1, LX B n ρ [] c s h0 h1 → jE 199 50 [some (.ref B), some (.int w), some (.int v), some (.long o), none, some (.int m), some (.int t), none, none, none] [.int (((v >>> ((4 : Int32) &&& 31)) &&& 255) - ((v >>> ((4 : Int32) &&& 31)) &&& 255) / m * m)] h1 K))) ∧ (m = 0 → (∀ h1, LX B n ρ [] c s h0 h1 → jE 199 50 [some (.ref B), some (.int w), some (.int v), some (.long o), none, some (.int m), some (.int t), none, none, none] [.int 0] h1 K)))) : jE 199 29 [some (.ref B), some (.int w), some (.int v), some (.long o), none, some (.int m), none, none, none, none] [.int t] h K := by
  refine jx_blk (by decide) [(.istore 6, 2), (.iload 5, 2)] (pc' := 33) (Lv' := [some (.ref B), some (.int w), some (.int v), some (.long o), none, some (.int m), some (.int t), none, none, none]) (st' := [.int m]) (by decide +kernel) rfl ?_
  refine jx_if_ne (off := 7) (b := 40) (by decide) (by decide +kernel) (by decide) (fun e1 => ?_) (fun e1 => ?_)
  · have t2 := T.1 e1
    refine jx_blk (by decide) [(.iload_n 2, 1), (.iconst 4, 1), (.ishr, 1), (.sipush 255, 3), (.iand, 1), (.iload 5, 2)] (pc' := 49) (Lv' := [some (.ref B), some (.int w), some (.int v), some (.long o), none, some (.int m), some (.int t), none, none, none]) (st' := [.int m, .int ((v >>> ((4 : Int32) &&& 31)) &&& 255)]) (by decide +kernel) rfl ?_
    obtain ⟨et4, t4⟩ := t2
    refine jx_rem (by decide) (by decide +kernel) et4 ?_
    exact t4 _ hx
  · have t3 := T.2 e1
    refine jx_blk (by decide) [(.iconst 0, 1)] (pc' := 37) (Lv' := [some (.ref B), some (.int w), some (.int v), some (.long o), none, some (.int m), some (.int t), none, none, none]) (st' := [.int 0]) (by decide +kernel) rfl ?_
    refine jx_goto (off := 13) (b := 50) (by decide) (by decide +kernel) (by decide) ?_
    exact t3 _ hx

theorem ds_50 {B n c s : Nat} {ρ : gS} {h0 h : jv_H} {K : jK} {o : Int64} {w v m t oo : Int32} (hx : LX B n ρ [] c s h0 h) (T : ((¬ (4 * (ρ 324 0)) = 0) ∧ (∀ h1, LX B n ρ [] c s h0 h1 → jE 199 73 [some (.ref B), some (.int w), some (.int v), some (.long o), none, some (.int m), some (.int t), some (.int oo), some (.int (((v >>> ((2 : Int32) &&& 31)) &&& 255) - ((v >>> ((2 : Int32) &&& 31)) &&& 255) / (4 * (ρ 324 0)) * (4 * (ρ 324 0)))), none] [.int (w &&& 15)] h1 K))) : jE 199 50 [some (.ref B), some (.int w), some (.int v), some (.long o), none, some (.int m), some (.int t), none, none, none] [.int oo] h K := by
  refine jx_blk (by decide) [(.istore 7, 2), (.iload_n 2, 1), (.iconst 2, 1), (.ishr, 1), (.sipush 255, 3), (.iand, 1), (.iconst 4, 1), (.aload_n 0, 1), (.iconst 0, 1)] (pc' := 62) (Lv' := [some (.ref B), some (.int w), some (.int v), some (.long o), none, some (.int m), some (.int t), some (.int oo), none, none]) (st' := [.int 0, .ref B, .int 4, .int ((v >>> ((2 : Int32) &&& 31)) &&& 255)]) (by decide +kernel) rfl ?_
  refine lx_call (z := 123) (na := 2) (mL := 2) (v := .int (ρ 324 0)) (ρ' := ρ) (r := [.int 4, .int ((v >>> ((2 : Int32) &&& 31)) &&& 255)]) [0] (by decide +kernel) hx xr_v0 hx.1.1 rfl rfl (fun _ => rfl) (Nat.le_of_ble_eq_true rfl) (fun h1 hx2 => ?_)
  refine jx_blk (by decide) [(.imul, 1)] (pc' := 66) (Lv' := [some (.ref B), some (.int w), some (.int v), some (.long o), none, some (.int m), some (.int t), some (.int oo), none, none]) (st' := [.int (4 * (ρ 324 0)), .int ((v >>> ((2 : Int32) &&& 31)) &&& 255)]) (by decide +kernel) rfl ?_
  obtain ⟨et3, t3⟩ := T
  refine jx_rem (by decide) (by decide +kernel) et3 ?_
  refine jx_blk (by decide) [(.istore 8, 2), (.iload_n 1, 1), (.bipush 15, 2), (.iand, 1)] (pc' := 73) (Lv' := [some (.ref B), some (.int w), some (.int v), some (.long o), none, some (.int m), some (.int t), some (.int oo), some (.int (((v >>> ((2 : Int32) &&& 31)) &&& 255) - ((v >>> ((2 : Int32) &&& 31)) &&& 255) / (4 * (ρ 324 0)) * (4 * (ρ 324 0)))), none]) (st' := [.int (w &&& 15)]) (by decide +kernel) rfl ?_
  exact t3 _ hx2

theorem ds_148 {B n c s : Nat} {ρ : gS} {h0 h : jv_H} {K : jK} {o : Int64} {w v m t oo x : Int32} (hn : n + 1 ≤ 9000) (hx : LX B n ρ [] (c + 51) (s + 255) h0 h) (T : (ρ 323 8 = 0 ∧ ∀ τ3, FdT 3 zoeF ρ τ3 → (∀ h1, LX B (n + 1) (hCom τ3 x (v &&& 1) ((v >>> ((8 : Int32) &&& 31)) &&& 3) ((v >>> ((3 : Int32) &&& 31)) &&& 31) (1 + ((v >>> ((5 : Int32) &&& 31)) &&& 31))) [] c s h0 h1 → jE 199 188 [some (.ref B), some (.int w), some (.int v), some (.long o), none, some (.int m), some (.int t), some (.int oo), some (.int x), none] [.int (aCom τ3 x (v &&& 1) ((v >>> ((8 : Int32) &&& 31)) &&& 3) ((v >>> ((3 : Int32) &&& 31)) &&& 31) (1 + ((v >>> ((5 : Int32) &&& 31)) &&& 31)))] h1 K))) : jE 199 148 [some (.ref B), some (.int w), some (.int v), some (.long o), none, some (.int m), some (.int t), some (.int oo), some (.int x), none] [] h K := by
  refine jx_blk (by decide) [(.aload_n 0, 1)] (pc' := 149) (Lv' := [some (.ref B), some (.int w), some (.int v), some (.long o), none, some (.int m), some (.int t), some (.int oo), some (.int x), none]) (st' := [.ref B]) (by decide +kernel) rfl ?_
  refine jx_ldc (idx := 183) (v := .ref 1000037) (by decide) (by decide +kernel) (by decide +kernel) ?_
  obtain ⟨e86, t5⟩ := T
  refine lx_zoe (r := []) (by decide +kernel) hx e86 (Nat.le_of_ble_eq_true rfl) (fun h1 τ3 fd4 hx2 => ?_)
  have t7 := t5 τ3 fd4
  refine jx_if_ne (off := 5) (b := 159) (by decide) (by decide +kernel) (by decide) (fun _ => ?_) (fun e => absurd e (by decide))
  refine jx_blk (by decide) [(.aload_n 0, 1), (.iload 8, 2), (.iload_n 2, 1), (.iconst 1, 1), (.iand, 1), (.iload_n 2, 1), (.bipush 8, 2), (.ishr, 1), (.iconst 3, 1), (.iand, 1), (.iload_n 2, 1), (.iconst 3, 1), (.ishr, 1), (.bipush 31, 2), (.iand, 1), (.iconst 1, 1), (.iload_n 2, 1), (.iconst 5, 1), (.ishr, 1), (.bipush 31, 2), (.iand, 1), (.iadd, 1)] (pc' := 185) (Lv' := [some (.ref B), some (.int w), some (.int v), some (.long o), none, some (.int m), some (.int t), some (.int oo), some (.int x), none]) (st' := [.int (1 + ((v >>> ((5 : Int32) &&& 31)) &&& 31)), .int ((v >>> ((3 : Int32) &&& 31)) &&& 31), .int ((v >>> ((8 : Int32) &&& 31)) &&& 3), .int (v &&& 1), .int x, .ref B]) (by decide +kernel) rfl ?_
  refine lx_call (z := 112) (na := 6) (mL := 7) (v := .int (aCom τ3 x (v &&& 1) ((v >>> ((8 : Int32) &&& 31)) &&& 3) ((v >>> ((3 : Int32) &&& 31)) &&& 31) (1 + ((v >>> ((5 : Int32) &&& 31)) &&& 31)))) (ρ' := (hCom τ3 x (v &&& 1) ((v >>> ((8 : Int32) &&& 31)) &&& 3) ((v >>> ((3 : Int32) &&& 31)) &&& 31) (1 + ((v >>> ((5 : Int32) &&& 31)) &&& 31)))) (r := []) [(1 + ((v >>> ((5 : Int32) &&& 31)) &&& 31)), ((v >>> ((3 : Int32) &&& 31)) &&& 31), ((v >>> ((8 : Int32) &&& 31)) &&& 3), (v &&& 1), x] (by decide +kernel) hx2 xr_come hn rfl rfl (fun _ => rfl) (Nat.le_of_ble_eq_true rfl) (fun h8 hx9 => ?_)
  exact t7 _ hx9

theorem ds_188 {B n c s : Nat} {ρ : gS} {h0 h : jv_H} {K : jK} {o : Int64} {w v m t oo x : Int32} {got : Int32} (hx : LX B n ρ [] c s h0 h) (T : ((¬ got < 0 → (∀ h1, LX B n ρ [] c s h0 h1 → jE 199 418 [some (.ref B), some (.int w), some (.int v), some (.long o), none, some (.int m), some (.int t), some (.int oo), some (.int x), some (.int got)] [] h1 K)) ∧ (got < 0 → ((if gTru (ρ 323 8) 3 then ρ 323 8 - 3 else -1) = 0 ∧ (∀ h1, LX B n (hTr ρ 3) [] c s h0 h1 → jE 199 418 [some (.ref B), some (.int w), some (.int v), some (.long o), none, some (.int m), some (.int t), some (.int oo), some (.int x), some (.int got)] [] h1 K))))) : jE 199 188 [some (.ref B), some (.int w), some (.int v), some (.long o), none, some (.int m), some (.int t), some (.int oo), some (.int x), none] [.int got] h K := by
  refine jx_blk (by decide) [(.istore 9, 2), (.iload 9, 2)] (pc' := 192) (Lv' := [some (.ref B), some (.int w), some (.int v), some (.long o), none, some (.int m), some (.int t), some (.int oo), some (.int x), some (.int got)]) (st' := [.int got]) (by decide +kernel) rfl ?_
  refine jx_if_ge (off := 226) (b := 418) (by decide) (by decide +kernel) (by decide) (fun e1 => ?_) (fun e1 => ?_)
  · have t2 := T.1 e1
    exact t2 _ hx
  · have t3 := T.2 e1
    refine jx_blk (by decide) [(.aload_n 0, 1), (.iconst 3, 1)] (pc' := 197) (Lv' := [some (.ref B), some (.int w), some (.int v), some (.long o), none, some (.int m), some (.int t), some (.int oo), some (.int x), some (.int got)]) (st' := [.int 3, .ref B]) (by decide +kernel) rfl ?_
    refine lx_call (z := 109) (na := 2) (mL := 2) (v := .int (if gTru (ρ 323 8) 3 then ρ 323 8 - 3 else -1)) (ρ' := (hTr ρ 3)) (r := []) [3] (by decide +kernel) hx xr_truncate hx.1.1 rfl rfl (fun _ => rfl) (Nat.le_of_ble_eq_true rfl) (fun h4 hx5 => ?_)
    refine jx_if_eq (off := 218) (b := 418) (by decide) (by decide +kernel) (by decide) (fun _ => ?_) (fun e => absurd t3.1 e)
    have t7 := t3.2
    exact t7 _ hx5

theorem ds_205 {B n c s : Nat} {ρ : gS} {h0 h : jv_H} {K : jK} {o : Int64} {w v m t oo x : Int32} (hx : LX B n ρ [] c s h0 h) (T : (∀ h1, LX B n (hOp ρ (gSet (ρ 324) t 0 ((((v >>> ((3 : Int32) &&& 31)) &&& 255) - ((v >>> ((3 : Int32) &&& 31)) &&& 255) / 19 * 19) - 9)) (nSet (ρ 324) t 0 ((((v >>> ((3 : Int32) &&& 31)) &&& 255) - ((v >>> ((3 : Int32) &&& 31)) &&& 255) / 19 * 19) - 9))) [] c s h0 h1 → jE 199 418 [some (.ref B), some (.int w), some (.int v), some (.long o), none, some (.int m), some (.int t), some (.int oo), some (.int x), some (.int (aSet (ρ 324) t 0 ((((v >>> ((3 : Int32) &&& 31)) &&& 255) - ((v >>> ((3 : Int32) &&& 31)) &&& 255) / 19 * 19) - 9)))] [] h1 K)) : jE 199 205 [some (.ref B), some (.int w), some (.int v), some (.long o), none, some (.int m), some (.int t), some (.int oo), some (.int x), none] [] h K := by
  refine jx_blk (by decide) [(.aload_n 0, 1), (.iload 6, 2), (.iconst 0, 1), (.iload_n 2, 1), (.iconst 3, 1), (.ishr, 1), (.sipush 255, 3), (.iand, 1), (.bipush 19, 2), (.irem, 1), (.bipush 9, 2), (.isub, 1)] (pc' := 222) (Lv' := [some (.ref B), some (.int w), some (.int v), some (.long o), none, some (.int m), some (.int t), some (.int oo), some (.int x), none]) (st' := [.int ((((v >>> ((3 : Int32) &&& 31)) &&& 255) - ((v >>> ((3 : Int32) &&& 31)) &&& 255) / 19 * 19) - 9), .int 0, .int t, .ref B]) (by decide +kernel) rfl ?_
  refine lx_call (z := 113) (na := 4) (mL := 7) (v := .int (aSet (ρ 324) t 0 ((((v >>> ((3 : Int32) &&& 31)) &&& 255) - ((v >>> ((3 : Int32) &&& 31)) &&& 255) / 19 * 19) - 9))) (ρ' := (hOp ρ (gSet (ρ 324) t 0 ((((v >>> ((3 : Int32) &&& 31)) &&& 255) - ((v >>> ((3 : Int32) &&& 31)) &&& 255) / 19 * 19) - 9)) (nSet (ρ 324) t 0 ((((v >>> ((3 : Int32) &&& 31)) &&& 255) - ((v >>> ((3 : Int32) &&& 31)) &&& 255) / 19 * 19) - 9)))) (r := []) [((((v >>> ((3 : Int32) &&& 31)) &&& 255) - ((v >>> ((3 : Int32) &&& 31)) &&& 255) / 19 * 19) - 9), 0, t] (by decide +kernel) hx xr_set hx.1.1 rfl rfl (fun _ => rfl) (Nat.le_of_ble_eq_true rfl) (fun h1 hx2 => ?_)
  refine jx_blk (by decide) [(.istore 9, 2)] (pc' := 227) (Lv' := [some (.ref B), some (.int w), some (.int v), some (.long o), none, some (.int m), some (.int t), some (.int oo), some (.int x), some (.int (aSet (ρ 324) t 0 ((((v >>> ((3 : Int32) &&& 31)) &&& 255) - ((v >>> ((3 : Int32) &&& 31)) &&& 255) / 19 * 19) - 9)))]) (st' := []) (by decide +kernel) rfl ?_
  refine jx_goto (off := 191) (b := 418) (by decide) (by decide +kernel) (by decide) ?_
  exact T _ hx2

theorem ds_230 {B n c s : Nat} {ρ : gS} {h0 h : jv_H} {K : jK} {o : Int64} {w v m t oo x : Int32} (hx : LX B n ρ [] c s h0 h) (T : (∀ h1, LX B n (hOp ρ (gSet (ρ 324) t 1 ((((v >>> ((3 : Int32) &&& 31)) &&& 255) - ((v >>> ((3 : Int32) &&& 31)) &&& 255) / 19 * 19) - 9)) (nSet (ρ 324) t 1 ((((v >>> ((3 : Int32) &&& 31)) &&& 255) - ((v >>> ((3 : Int32) &&& 31)) &&& 255) / 19 * 19) - 9))) [] c s h0 h1 → jE 199 418 [some (.ref B), some (.int w), some (.int v), some (.long o), none, some (.int m), some (.int t), some (.int oo), some (.int x), some (.int (aSet (ρ 324) t 1 ((((v >>> ((3 : Int32) &&& 31)) &&& 255) - ((v >>> ((3 : Int32) &&& 31)) &&& 255) / 19 * 19) - 9)))] [] h1 K)) : jE 199 230 [some (.ref B), some (.int w), some (.int v), some (.long o), none, some (.int m), some (.int t), some (.int oo), some (.int x), none] [] h K := by
  refine jx_blk (by decide) [(.aload_n 0, 1), (.iload 6, 2), (.iconst 1, 1), (.iload_n 2, 1), (.iconst 3, 1), (.ishr, 1), (.sipush 255, 3), (.iand, 1), (.bipush 19, 2), (.irem, 1), (.bipush 9, 2), (.isub, 1)] (pc' := 247) (Lv' := [some (.ref B), some (.int w), some (.int v), some (.long o), none, some (.int m), some (.int t), some (.int oo), some (.int x), none]) (st' := [.int ((((v >>> ((3 : Int32) &&& 31)) &&& 255) - ((v >>> ((3 : Int32) &&& 31)) &&& 255) / 19 * 19) - 9), .int 1, .int t, .ref B]) (by decide +kernel) rfl ?_
  refine lx_call (z := 113) (na := 4) (mL := 7) (v := .int (aSet (ρ 324) t 1 ((((v >>> ((3 : Int32) &&& 31)) &&& 255) - ((v >>> ((3 : Int32) &&& 31)) &&& 255) / 19 * 19) - 9))) (ρ' := (hOp ρ (gSet (ρ 324) t 1 ((((v >>> ((3 : Int32) &&& 31)) &&& 255) - ((v >>> ((3 : Int32) &&& 31)) &&& 255) / 19 * 19) - 9)) (nSet (ρ 324) t 1 ((((v >>> ((3 : Int32) &&& 31)) &&& 255) - ((v >>> ((3 : Int32) &&& 31)) &&& 255) / 19 * 19) - 9)))) (r := []) [((((v >>> ((3 : Int32) &&& 31)) &&& 255) - ((v >>> ((3 : Int32) &&& 31)) &&& 255) / 19 * 19) - 9), 1, t] (by decide +kernel) hx xr_set hx.1.1 rfl rfl (fun _ => rfl) (Nat.le_of_ble_eq_true rfl) (fun h1 hx2 => ?_)
  refine jx_blk (by decide) [(.istore 9, 2)] (pc' := 252) (Lv' := [some (.ref B), some (.int w), some (.int v), some (.long o), none, some (.int m), some (.int t), some (.int oo), some (.int x), some (.int (aSet (ρ 324) t 1 ((((v >>> ((3 : Int32) &&& 31)) &&& 255) - ((v >>> ((3 : Int32) &&& 31)) &&& 255) / 19 * 19) - 9)))]) (st' := []) (by decide +kernel) rfl ?_
  refine jx_goto (off := 166) (b := 418) (by decide) (by decide +kernel) (by decide) ?_
  exact T _ hx2

theorem ds_255 {B n c s : Nat} {ρ : gS} {h0 h : jv_H} {K : jK} {o : Int64} {w v m t oo x : Int32} (hx : LX B n ρ [] c s h0 h) (T : (∀ h1, LX B n (hOp ρ (gSet (ρ 324) t (2 + (((v >>> ((3 : Int32) &&& 31)) &&& 255) - ((v >>> ((3 : Int32) &&& 31)) &&& 255) / 3 * 3)) ((v >>> ((6 : Int32) &&& 31)) &&& 3)) (nSet (ρ 324) t (2 + (((v >>> ((3 : Int32) &&& 31)) &&& 255) - ((v >>> ((3 : Int32) &&& 31)) &&& 255) / 3 * 3)) ((v >>> ((6 : Int32) &&& 31)) &&& 3))) [] c s h0 h1 → jE 199 418 [some (.ref B), some (.int w), some (.int v), some (.long o), none, some (.int m), some (.int t), some (.int oo), some (.int x), some (.int (aSet (ρ 324) t (2 + (((v >>> ((3 : Int32) &&& 31)) &&& 255) - ((v >>> ((3 : Int32) &&& 31)) &&& 255) / 3 * 3)) ((v >>> ((6 : Int32) &&& 31)) &&& 3)))] [] h1 K)) : jE 199 255 [some (.ref B), some (.int w), some (.int v), some (.long o), none, some (.int m), some (.int t), some (.int oo), some (.int x), none] [] h K := by
  refine jx_blk (by decide) [(.aload_n 0, 1), (.iload 6, 2), (.iconst 2, 1), (.iload_n 2, 1), (.iconst 3, 1), (.ishr, 1), (.sipush 255, 3), (.iand, 1), (.iconst 3, 1), (.irem, 1), (.iadd, 1), (.iload_n 2, 1), (.bipush 6, 2), (.ishr, 1), (.iconst 3, 1), (.iand, 1)] (pc' := 275) (Lv' := [some (.ref B), some (.int w), some (.int v), some (.long o), none, some (.int m), some (.int t), some (.int oo), some (.int x), none]) (st' := [.int ((v >>> ((6 : Int32) &&& 31)) &&& 3), .int (2 + (((v >>> ((3 : Int32) &&& 31)) &&& 255) - ((v >>> ((3 : Int32) &&& 31)) &&& 255) / 3 * 3)), .int t, .ref B]) (by decide +kernel) rfl ?_
  refine lx_call (z := 113) (na := 4) (mL := 7) (v := .int (aSet (ρ 324) t (2 + (((v >>> ((3 : Int32) &&& 31)) &&& 255) - ((v >>> ((3 : Int32) &&& 31)) &&& 255) / 3 * 3)) ((v >>> ((6 : Int32) &&& 31)) &&& 3))) (ρ' := (hOp ρ (gSet (ρ 324) t (2 + (((v >>> ((3 : Int32) &&& 31)) &&& 255) - ((v >>> ((3 : Int32) &&& 31)) &&& 255) / 3 * 3)) ((v >>> ((6 : Int32) &&& 31)) &&& 3)) (nSet (ρ 324) t (2 + (((v >>> ((3 : Int32) &&& 31)) &&& 255) - ((v >>> ((3 : Int32) &&& 31)) &&& 255) / 3 * 3)) ((v >>> ((6 : Int32) &&& 31)) &&& 3)))) (r := []) [((v >>> ((6 : Int32) &&& 31)) &&& 3), (2 + (((v >>> ((3 : Int32) &&& 31)) &&& 255) - ((v >>> ((3 : Int32) &&& 31)) &&& 255) / 3 * 3)), t] (by decide +kernel) hx xr_set hx.1.1 rfl rfl (fun _ => rfl) (Nat.le_of_ble_eq_true rfl) (fun h1 hx2 => ?_)
  refine jx_blk (by decide) [(.istore 9, 2)] (pc' := 280) (Lv' := [some (.ref B), some (.int w), some (.int v), some (.long o), none, some (.int m), some (.int t), some (.int oo), some (.int x), some (.int (aSet (ρ 324) t (2 + (((v >>> ((3 : Int32) &&& 31)) &&& 255) - ((v >>> ((3 : Int32) &&& 31)) &&& 255) / 3 * 3)) ((v >>> ((6 : Int32) &&& 31)) &&& 3)))]) (st' := []) (by decide +kernel) rfl ?_
  refine jx_goto (off := 138) (b := 418) (by decide) (by decide +kernel) (by decide) ?_
  exact T _ hx2

theorem ds_283 {B n c s : Nat} {ρ : gS} {h0 h : jv_H} {K : jK} {o : Int64} {w v m t oo x : Int32} (hx : LX B n ρ [] c s h0 h) (T : (∀ h1, LX B n (hOp ρ (gSwa (ρ 324) t oo ((v >>> ((9 : Int32) &&& 31)) &&& 7)) (nSwa (ρ 324) t oo ((v >>> ((9 : Int32) &&& 31)) &&& 7))) [] c s h0 h1 → jE 199 418 [some (.ref B), some (.int w), some (.int v), some (.long o), none, some (.int m), some (.int t), some (.int oo), some (.int x), some (.int (aSwa (ρ 324) t oo ((v >>> ((9 : Int32) &&& 31)) &&& 7)))] [] h1 K)) : jE 199 283 [some (.ref B), some (.int w), some (.int v), some (.long o), none, some (.int m), some (.int t), some (.int oo), some (.int x), none] [] h K := by
  refine jx_blk (by decide) [(.aload_n 0, 1), (.iload 6, 2), (.iload 7, 2), (.iload_n 2, 1), (.bipush 9, 2), (.ishr, 1), (.bipush 7, 2), (.iand, 1)] (pc' := 295) (Lv' := [some (.ref B), some (.int w), some (.int v), some (.long o), none, some (.int m), some (.int t), some (.int oo), some (.int x), none]) (st' := [.int ((v >>> ((9 : Int32) &&& 31)) &&& 7), .int oo, .int t, .ref B]) (by decide +kernel) rfl ?_
  refine lx_call (z := 115) (na := 4) (mL := 6) (v := .int (aSwa (ρ 324) t oo ((v >>> ((9 : Int32) &&& 31)) &&& 7))) (ρ' := (hOp ρ (gSwa (ρ 324) t oo ((v >>> ((9 : Int32) &&& 31)) &&& 7)) (nSwa (ρ 324) t oo ((v >>> ((9 : Int32) &&& 31)) &&& 7)))) (r := []) [((v >>> ((9 : Int32) &&& 31)) &&& 7), oo, t] (by decide +kernel) hx xr_swap hx.1.1 rfl rfl (fun _ => rfl) (Nat.le_of_ble_eq_true rfl) (fun h1 hx2 => ?_)
  refine jx_blk (by decide) [(.istore 9, 2)] (pc' := 300) (Lv' := [some (.ref B), some (.int w), some (.int v), some (.long o), none, some (.int m), some (.int t), some (.int oo), some (.int x), some (.int (aSwa (ρ 324) t oo ((v >>> ((9 : Int32) &&& 31)) &&& 7)))]) (st' := []) (by decide +kernel) rfl ?_
  refine jx_goto (off := 118) (b := 418) (by decide) (by decide +kernel) (by decide) ?_
  exact T _ hx2

theorem ds_303 {B n c s : Nat} {ρ : gS} {h0 h : jv_H} {K : jK} {o : Int64} {w v m t oo x : Int32} (hx : LX B n ρ [] c s h0 h) (T : (∀ h1, LX B n (hOp ρ (gMov (ρ 324) t x) (nMov (ρ 324) t x)) [] c s h0 h1 → jE 199 418 [some (.ref B), some (.int w), some (.int v), some (.long o), none, some (.int m), some (.int t), some (.int oo), some (.int x), some (.int (aMov (ρ 324) t x))] [] h1 K)) : jE 199 303 [some (.ref B), some (.int w), some (.int v), some (.long o), none, some (.int m), some (.int t), some (.int oo), some (.int x), none] [] h K := by
  refine jx_blk (by decide) [(.aload_n 0, 1), (.iload 6, 2), (.iload 8, 2)] (pc' := 308) (Lv' := [some (.ref B), some (.int w), some (.int v), some (.long o), none, some (.int m), some (.int t), some (.int oo), some (.int x), none]) (st' := [.int x, .int t, .ref B]) (by decide +kernel) rfl ?_
  refine lx_call (z := 116) (na := 3) (mL := 5) (v := .int (aMov (ρ 324) t x)) (ρ' := (hOp ρ (gMov (ρ 324) t x) (nMov (ρ 324) t x))) (r := []) [x, t] (by decide +kernel) hx xr_move hx.1.1 rfl rfl (fun _ => rfl) (Nat.le_of_ble_eq_true rfl) (fun h1 hx2 => ?_)
  refine jx_blk (by decide) [(.istore 9, 2)] (pc' := 313) (Lv' := [some (.ref B), some (.int w), some (.int v), some (.long o), none, some (.int m), some (.int t), some (.int oo), some (.int x), some (.int (aMov (ρ 324) t x))]) (st' := []) (by decide +kernel) rfl ?_
  refine jx_goto (off := 105) (b := 418) (by decide) (by decide +kernel) (by decide) ?_
  exact T _ hx2

theorem ds_316 {B n c s : Nat} {ρ : gS} {h0 h : jv_H} {K : jK} {o : Int64} {w v m t oo x : Int32} (hx : LX B n ρ [] c s h0 h) (T : ((¬ (if 1 < m then m else 1) = 0) ∧ (∀ h1, LX B n (hOp ρ (gRin (ρ 324) t oo (((v >>> ((8 : Int32) &&& 31)) &&& 255) - ((v >>> ((8 : Int32) &&& 31)) &&& 255) / (if 1 < m then m else 1) * (if 1 < m then m else 1))) (nRin (ρ 324) t oo (((v >>> ((8 : Int32) &&& 31)) &&& 255) - ((v >>> ((8 : Int32) &&& 31)) &&& 255) / (if 1 < m then m else 1) * (if 1 < m then m else 1)))) [] c s h0 h1 → jE 199 418 [some (.ref B), some (.int w), some (.int v), some (.long o), none, some (.int m), some (.int t), some (.int oo), some (.int x), some (.int (aRin (ρ 324) t oo (((v >>> ((8 : Int32) &&& 31)) &&& 255) - ((v >>> ((8 : Int32) &&& 31)) &&& 255) / (if 1 < m then m else 1) * (if 1 < m then m else 1))))] [] h1 K))) : jE 199 316 [some (.ref B), some (.int w), some (.int v), some (.long o), none, some (.int m), some (.int t), some (.int oo), some (.int x), none] [] h K := by
  refine jx_blk (by decide) [(.aload_n 0, 1), (.iload 6, 2), (.iload 7, 2), (.iload_n 2, 1), (.bipush 8, 2), (.ishr, 1), (.sipush 255, 3), (.iand, 1), (.iconst 1, 1), (.iload 5, 2)] (pc' := 332) (Lv' := [some (.ref B), some (.int w), some (.int v), some (.long o), none, some (.int m), some (.int t), some (.int oo), some (.int x), none]) (st' := [.int m, .int 1, .int ((v >>> ((8 : Int32) &&& 31)) &&& 255), .int oo, .int t, .ref B]) (by decide +kernel) rfl ?_
  refine jl_max (r := [.int ((v >>> ((8 : Int32) &&& 31)) &&& 255), .int oo, .int t, .ref B]) (by decide +kernel) (Nat.le_of_ble_eq_true rfl) ?_
  obtain ⟨et1, t1⟩ := T
  refine jx_rem (by decide) (by decide +kernel) et1 ?_
  refine lx_call (z := 117) (na := 4) (mL := 6) (v := .int (aRin (ρ 324) t oo (((v >>> ((8 : Int32) &&& 31)) &&& 255) - ((v >>> ((8 : Int32) &&& 31)) &&& 255) / (if 1 < m then m else 1) * (if 1 < m then m else 1)))) (ρ' := (hOp ρ (gRin (ρ 324) t oo (((v >>> ((8 : Int32) &&& 31)) &&& 255) - ((v >>> ((8 : Int32) &&& 31)) &&& 255) / (if 1 < m then m else 1) * (if 1 < m then m else 1))) (nRin (ρ 324) t oo (((v >>> ((8 : Int32) &&& 31)) &&& 255) - ((v >>> ((8 : Int32) &&& 31)) &&& 255) / (if 1 < m then m else 1) * (if 1 < m then m else 1))))) (r := []) [(((v >>> ((8 : Int32) &&& 31)) &&& 255) - ((v >>> ((8 : Int32) &&& 31)) &&& 255) / (if 1 < m then m else 1) * (if 1 < m then m else 1)), oo, t] (by decide +kernel) hx xr_ring hx.1.1 rfl rfl (fun _ => rfl) (Nat.le_of_ble_eq_true rfl) (fun h2 hx3 => ?_)
  refine jx_blk (by decide) [(.istore 9, 2)] (pc' := 341) (Lv' := [some (.ref B), some (.int w), some (.int v), some (.long o), none, some (.int m), some (.int t), some (.int oo), some (.int x), some (.int (aRin (ρ 324) t oo (((v >>> ((8 : Int32) &&& 31)) &&& 255) - ((v >>> ((8 : Int32) &&& 31)) &&& 255) / (if 1 < m then m else 1) * (if 1 < m then m else 1))))]) (st' := []) (by decide +kernel) rfl ?_
  refine jx_goto (off := 77) (b := 418) (by decide) (by decide +kernel) (by decide) ?_
  exact t1 _ hx3

theorem ds_344 {B n c s : Nat} {ρ : gS} {h0 h : jv_H} {K : jK} {o : Int64} {w v m t oo x : Int32} (hx : LX B n ρ [] c s h0 h) (T : (∀ h1, LX B n (hOp ρ (gStl (ρ 324)) (nStl (ρ 324))) [] c s h0 h1 → jE 199 418 [some (.ref B), some (.int w), some (.int v), some (.long o), none, some (.int m), some (.int t), some (.int oo), some (.int x), some (.int (aStl (ρ 324)))] [] h1 K)) : jE 199 344 [some (.ref B), some (.int w), some (.int v), some (.long o), none, some (.int m), some (.int t), some (.int oo), some (.int x), none] [] h K := by
  refine jx_blk (by decide) [(.aload_n 0, 1)] (pc' := 345) (Lv' := [some (.ref B), some (.int w), some (.int v), some (.long o), none, some (.int m), some (.int t), some (.int oo), some (.int x), none]) (st' := [.ref B]) (by decide +kernel) rfl ?_
  refine lx_call (z := 118) (na := 1) (mL := 3) (v := .int (aStl (ρ 324))) (ρ' := (hOp ρ (gStl (ρ 324)) (nStl (ρ 324)))) (r := []) [] (by decide +kernel) hx xr_settle hx.1.1 rfl rfl (fun _ => rfl) (Nat.le_of_ble_eq_true rfl) (fun h1 hx2 => ?_)
  refine jx_blk (by decide) [(.istore 9, 2)] (pc' := 350) (Lv' := [some (.ref B), some (.int w), some (.int v), some (.long o), none, some (.int m), some (.int t), some (.int oo), some (.int x), some (.int (aStl (ρ 324)))]) (st' := []) (by decide +kernel) rfl ?_
  refine jx_goto (off := 68) (b := 418) (by decide) (by decide +kernel) (by decide) ?_
  exact T _ hx2

theorem ds_353 {B n c s : Nat} {ρ : gS} {h0 h : jv_H} {K : jK} {o : Int64} {w v m t oo x : Int32} (hx : LX B n ρ [] c s h0 h) (T : (∀ h1, LX B n (hOp ρ (gSta (ρ 324) (1 + (v &&& 3))) (stm (1 + (v &&& 3)).toNatClampNeg (ρ 324))) [] c s h0 h1 → jE 199 418 [some (.ref B), some (.int w), some (.int v), some (.long o), none, some (.int m), some (.int t), some (.int oo), some (.int x), some (.int (aSta (ρ 324) (1 + (v &&& 3))))] [] h1 K)) : jE 199 353 [some (.ref B), some (.int w), some (.int v), some (.long o), none, some (.int m), some (.int t), some (.int oo), some (.int x), none] [] h K := by
  refine jx_blk (by decide) [(.aload_n 0, 1), (.iconst 1, 1), (.iload_n 2, 1), (.iconst 3, 1), (.iand, 1), (.iadd, 1)] (pc' := 359) (Lv' := [some (.ref B), some (.int w), some (.int v), some (.long o), none, some (.int m), some (.int t), some (.int oo), some (.int x), none]) (st' := [.int (1 + (v &&& 3)), .ref B]) (by decide +kernel) rfl ?_
  refine lx_call (z := 119) (na := 2) (mL := 4) (v := .int (aSta (ρ 324) (1 + (v &&& 3)))) (ρ' := (hOp ρ (gSta (ρ 324) (1 + (v &&& 3))) (stm (1 + (v &&& 3)).toNatClampNeg (ρ 324)))) (r := []) [(1 + (v &&& 3))] (by decide +kernel) hx xr_station hx.1.1 rfl rfl (fun _ => rfl) (Nat.le_of_ble_eq_true rfl) (fun h1 hx2 => ?_)
  refine jx_blk (by decide) [(.istore 9, 2)] (pc' := 364) (Lv' := [some (.ref B), some (.int w), some (.int v), some (.long o), none, some (.int m), some (.int t), some (.int oo), some (.int x), some (.int (aSta (ρ 324) (1 + (v &&& 3))))]) (st' := []) (by decide +kernel) rfl ?_
  refine jx_goto (off := 54) (b := 418) (by decide) (by decide +kernel) (by decide) ?_
  exact T _ hx2

theorem ds_367 {B n c s : Nat} {ρ : gS} {h0 h : jv_H} {K : jK} {o : Int64} {w v m t oo x : Int32} (hx : LX B n ρ [] c s h0 h) (T : (∀ h1, LX B n (hOp ρ (gFir (ρ 324) (v &&& 7)) (nFir (ρ 324) (v &&& 7))) [] c s h0 h1 → jE 199 418 [some (.ref B), some (.int w), some (.int v), some (.long o), none, some (.int m), some (.int t), some (.int oo), some (.int x), some (.int (aFir (ρ 324) (v &&& 7)))] [] h1 K)) : jE 199 367 [some (.ref B), some (.int w), some (.int v), some (.long o), none, some (.int m), some (.int t), some (.int oo), some (.int x), none] [] h K := by
  refine jx_blk (by decide) [(.aload_n 0, 1), (.iload_n 2, 1), (.bipush 7, 2), (.iand, 1)] (pc' := 372) (Lv' := [some (.ref B), some (.int w), some (.int v), some (.long o), none, some (.int m), some (.int t), some (.int oo), some (.int x), none]) (st' := [.int (v &&& 7), .ref B]) (by decide +kernel) rfl ?_
  refine lx_call (z := 114) (na := 2) (mL := 3) (v := .int (aFir (ρ 324) (v &&& 7))) (ρ' := (hOp ρ (gFir (ρ 324) (v &&& 7)) (nFir (ρ 324) (v &&& 7)))) (r := []) [(v &&& 7)] (by decide +kernel) hx xr_first hx.1.1 rfl rfl (fun _ => rfl) (Nat.le_of_ble_eq_true rfl) (fun h1 hx2 => ?_)
  refine jx_blk (by decide) [(.istore 9, 2)] (pc' := 377) (Lv' := [some (.ref B), some (.int w), some (.int v), some (.long o), none, some (.int m), some (.int t), some (.int oo), some (.int x), some (.int (aFir (ρ 324) (v &&& 7)))]) (st' := []) (by decide +kernel) rfl ?_
  refine jx_goto (off := 41) (b := 418) (by decide) (by decide +kernel) (by decide) ?_
  exact T _ hx2

theorem ds_380 {B n c s : Nat} {ρ : gS} {h0 h : jv_H} {K : jK} {o : Int64} {w v m t oo x : Int32} (hx : LX B n ρ [] c s h0 h) (T : ((¬ (v &&& 1) = 0 → (∀ h1, LX B n (hOp ρ (gRes ρ 1) (rowAt (ρ 328) (1 : Int32).toNatClampNeg)) [] c s h0 h1 → jE 199 418 [some (.ref B), some (.int w), some (.int v), some (.long o), none, some (.int m), some (.int t), some (.int oo), some (.int x), some (.int (aRes ρ 1))] [] h1 K)) ∧ ((v &&& 1) = 0 → (∀ h1, LX B n (if isSl 1 then hKp ρ (1 : Int32).toNatClampNeg else ρ) [] c s h0 h1 → jE 199 418 [some (.ref B), some (.int w), some (.int v), some (.long o), none, some (.int m), some (.int t), some (.int oo), some (.int x), some (.int (if isSl 1 then ρ 324 3 else -1))] [] h1 K)))) : jE 199 380 [some (.ref B), some (.int w), some (.int v), some (.long o), none, some (.int m), some (.int t), some (.int oo), some (.int x), none] [] h K := by
  refine jx_blk (by decide) [(.iload_n 2, 1), (.iconst 1, 1), (.iand, 1)] (pc' := 383) (Lv' := [some (.ref B), some (.int w), some (.int v), some (.long o), none, some (.int m), some (.int t), some (.int oo), some (.int x), none]) (st' := [.int (v &&& 1)]) (by decide +kernel) rfl ?_
  refine jx_if_ne (off := 11) (b := 394) (by decide) (by decide +kernel) (by decide) (fun e1 => ?_) (fun e1 => ?_)
  · have t2 := T.1 e1
    refine jx_blk (by decide) [(.aload_n 0, 1), (.iconst 1, 1)] (pc' := 396) (Lv' := [some (.ref B), some (.int w), some (.int v), some (.long o), none, some (.int m), some (.int t), some (.int oo), some (.int x), none]) (st' := [.int 1, .ref B]) (by decide +kernel) rfl ?_
    refine lx_call (z := 121) (na := 2) (mL := 2) (v := .int (aRes ρ 1)) (ρ' := (hOp ρ (gRes ρ 1) (rowAt (ρ 328) (1 : Int32).toNatClampNeg))) (r := []) [1] (by decide +kernel) hx xr_restore hx.1.1 rfl rfl (fun _ => rfl) (Nat.le_of_ble_eq_true rfl) (fun h4 hx5 => ?_)
    refine jx_blk (by decide) [(.istore 9, 2)] (pc' := 401) (Lv' := [some (.ref B), some (.int w), some (.int v), some (.long o), none, some (.int m), some (.int t), some (.int oo), some (.int x), some (.int (aRes ρ 1))]) (st' := []) (by decide +kernel) rfl ?_
    refine jx_goto (off := 17) (b := 418) (by decide) (by decide +kernel) (by decide) ?_
    exact t2 _ hx5
  · have t3 := T.2 e1
    refine jx_blk (by decide) [(.aload_n 0, 1), (.iconst 1, 1)] (pc' := 388) (Lv' := [some (.ref B), some (.int w), some (.int v), some (.long o), none, some (.int m), some (.int t), some (.int oo), some (.int x), none]) (st' := [.int 1, .ref B]) (by decide +kernel) rfl ?_
    refine lx_call (z := 120) (na := 2) (mL := 2) (v := .int (if isSl 1 then ρ 324 3 else -1)) (ρ' := (if isSl 1 then hKp ρ (1 : Int32).toNatClampNeg else ρ)) (r := []) [1] (by decide +kernel) hx xr_keep hx.1.1 rfl rfl (fun _ => rfl) (Nat.le_of_ble_eq_true rfl) (fun h6 hx7 => ?_)
    refine jx_goto (off := 8) (b := 399) (by decide) (by decide +kernel) (by decide) ?_
    refine jx_blk (by decide) [(.istore 9, 2)] (pc' := 401) (Lv' := [some (.ref B), some (.int w), some (.int v), some (.long o), none, some (.int m), some (.int t), some (.int oo), some (.int x), some (.int (if isSl 1 then ρ 324 3 else -1))]) (st' := []) (by decide +kernel) rfl ?_
    refine jx_goto (off := 17) (b := 418) (by decide) (by decide +kernel) (by decide) ?_
    exact t3 _ hx7

theorem ds_404 {B n c s : Nat} {ρ : gS} {h0 h : jv_H} {K : jK} {o : Int64} {w v m t oo x : Int32} (hx : LX B n ρ [] c s h0 h) (T : (¬ (if ρ 323 6 = 0 then -1 else ρ 323 6 - 1) < (-1) ∧ (∀ h1, LX B n (hUn ρ) [] c s h0 h1 → K (some (.int 1)) h1))) : jE 199 404 [some (.ref B), some (.int w), some (.int v), some (.long o), none, some (.int m), some (.int t), some (.int oo), some (.int x), none] [] h K := by
  refine jx_blk (by decide) [(.aload_n 0, 1)] (pc' := 405) (Lv' := [some (.ref B), some (.int w), some (.int v), some (.long o), none, some (.int m), some (.int t), some (.int oo), some (.int x), none]) (st' := [.ref B]) (by decide +kernel) rfl ?_
  refine lx_call (z := 122) (na := 1) (mL := 1) (v := .int (if ρ 323 6 = 0 then -1 else ρ 323 6 - 1)) (ρ' := (hUn ρ)) (r := []) [] (by decide +kernel) hx xr_undo hx.1.1 rfl rfl (fun _ => rfl) (Nat.le_of_ble_eq_true rfl) (fun h1 hx2 => ?_)
  refine jx_blk (by decide) [(.iconst (-1), 1)] (pc' := 409) (Lv' := [some (.ref B), some (.int w), some (.int v), some (.long o), none, some (.int m), some (.int t), some (.int oo), some (.int x), none]) (st' := [.int (-1), .int (if ρ 323 6 = 0 then -1 else ρ 323 6 - 1)]) (by decide +kernel) rfl ?_
  refine jx_ic_lt (off := 7) (b := 416) (by decide) (by decide +kernel) (by decide) (fun e => absurd e T.1) (fun _ => ?_)
  have t4 := T.2
  refine jx_blk (by decide) [(.iconst 1, 1)] (pc' := 413) (Lv' := [some (.ref B), some (.int w), some (.int v), some (.long o), none, some (.int m), some (.int t), some (.int oo), some (.int x), none]) (st' := [.int 1]) (by decide +kernel) rfl ?_
  refine jx_goto (off := 4) (b := 417) (by decide) (by decide +kernel) (by decide) ?_
  exact jx_zret (by decide) (by decide +kernel) (by decide +kernel) (Or.inr rfl) (t4 _ hx2)

theorem ds_418 {B n c s : Nat} {ρ : gS} {h0 h : jv_H} {K : jK} {o : Int64} {w v m t oo x : Int32} {got : Int32} (hx : LX B n ρ [] c s h0 h) (T : ((¬ got < 0 → (∀ h1, LX B n ρ [] c s h0 h1 → K (some (.int 1)) h1)) ∧ (got < 0 → ((lg_cmp (hsh ρ) o) = 0 ∧ (∀ h1, LX B n ρ [] c s h0 h1 → K (some (.int 1)) h1))))) : jE 199 418 [some (.ref B), some (.int w), some (.int v), some (.long o), none, some (.int m), some (.int t), some (.int oo), some (.int x), some (.int got)] [] h K := by
  refine jx_blk (by decide) [(.iload 9, 2)] (pc' := 420) (Lv' := [some (.ref B), some (.int w), some (.int v), some (.long o), none, some (.int m), some (.int t), some (.int oo), some (.int x), some (.int got)]) (st' := [.int got]) (by decide +kernel) rfl ?_
  refine jx_if_ge (off := 12) (b := 432) (by decide) (by decide +kernel) (by decide) (fun e1 => ?_) (fun e1 => ?_)
  · have t2 := T.1 e1
    refine jx_blk (by decide) [(.iconst 1, 1)] (pc' := 433) (Lv' := [some (.ref B), some (.int w), some (.int v), some (.long o), none, some (.int m), some (.int t), some (.int oo), some (.int x), some (.int got)]) (st' := [.int 1]) (by decide +kernel) rfl ?_
    refine jx_goto (off := 4) (b := 437) (by decide) (by decide +kernel) (by decide) ?_
    exact jx_zret (by decide) (by decide +kernel) (by decide +kernel) (Or.inr rfl) (t2 _ hx)
  · have t3 := T.2 e1
    refine jx_blk (by decide) [(.aload_n 0, 1)] (pc' := 424) (Lv' := [some (.ref B), some (.int w), some (.int v), some (.long o), none, some (.int m), some (.int t), some (.int oo), some (.int x), some (.int got)]) (st' := [.ref B]) (by decide +kernel) rfl ?_
    refine lx_m (z := 192) (na := 1) (mL := 5) (v := .long (hsh ρ)) (r := []) [.ref B] (by decide +kernel) hx (lm_state) rfl rfl (Nat.le_of_ble_eq_true rfl) rfl (fun h4 hx5 => ?_)
    refine jx_blk (by decide) [(.lload_n 3, 1), (.lcmp, 1)] (pc' := 429) (Lv' := [some (.ref B), some (.int w), some (.int v), some (.long o), none, some (.int m), some (.int t), some (.int oo), some (.int x), some (.int got)]) (st' := [.int (lg_cmp (hsh ρ) o)]) (by decide +kernel) rfl ?_
    refine jx_if_ne (off := 7) (b := 436) (by decide) (by decide +kernel) (by decide) (fun e => absurd t3.1 e) (fun _ => ?_)
    have t7 := t3.2
    refine jx_blk (by decide) [(.iconst 1, 1)] (pc' := 433) (Lv' := [some (.ref B), some (.int w), some (.int v), some (.long o), none, some (.int m), some (.int t), some (.int oo), some (.int x), some (.int got)]) (st' := [.int 1]) (by decide +kernel) rfl ?_
    refine jx_goto (off := 4) (b := 437) (by decide) (by decide +kernel) (by decide) ?_
    exact jx_zret (by decide) (by decide +kernel) (by decide +kernel) (Or.inr rfl) (t7 _ hx5)
/-- what the law's rows hold between two of its calls -/
def RWp (b : Nat) (R : gW) : Prop := RP b R ∧ 0 ≤ R 3
theorem RC_RW (b : Nat) : RC (RWp b) := fun R S h hs => ⟨RC_RP b R S h.1 hs, by rw [hs 3 (by decide)]; exact h.2⟩
theorem RW_le {b c : Nat} {ρ : gS} (h : SQ (RWp b) ρ) (hb : b ≤ c) : SQ (RWp c) ρ := SQ_mono h (fun _ q => ⟨RP_le q.1 hb, q.2⟩)
theorem RW_SP {b : Nat} {ρ : gS} (h : SQ (RWp b) ρ) : SP ρ := SQ_mono h (fun _ q => q.1.1)
theorem SQ_cg {Q : gW → Prop} {ρ τ : gS} (h : SQ Q ρ) (e4 : τ 324 = ρ 324) (e6 : τ 323 6 = ρ 323 6) (e7 : τ 327 = ρ 327) (e8 : τ 328 = ρ 328) (e9 : τ 329 = ρ 329) : SQ Q τ := by
  unfold SQ at *
  rw [e4, e6, e7, e8, e9]
  exact h
theorem SQ_un {Q : gW → Prop} {ρ : gS} (hi : RS ρ) (h : SQ Q ρ) : SQ Q (hUn ρ) := by
  unfold hUn
  by_cases z : ρ 323 6 = 0
  · rw [if_pos z]
    exact h
  · rw [if_neg z]
    obtain ⟨C, hC, eu, -⟩ := u8 hi.2
    have c0 : 1 ≤ C := by
      rcases Nat.eq_zero_or_pos C with v | v
      · exact absurd (by rw [eu, v]; rfl) z
      · exact v
    have e1 : ρ 323 6 - 1 = iN (C - 1) := by rw [eu, show (1 : Int32) = iN 1 from rfl, iN_sub (by omega) c0]
    obtain ⟨h1, h2, h3⟩ := h
    have n6 : (ρ 323 6).toNatClampNeg = C := by rw [eu, iN_nat (by omega)]
    rw [n6] at h2
    refine ⟨?_, fun u hu => ?_, fun s hs hz => ?_⟩
    · rw [grow_at, e1, iN_nat (by omega)]
      exact h2 (C - 1) (by omega)
    · rw [grow_ne (by decide), grow_at, rup_at, e1, iN_nat (by omega)] at hu
      rw [grow_ne (by decide), grow_ne (by decide)]
      exact h2 u (by omega)
    · rw [grow_ne (by decide), grow_ne (by decide)] at hz ⊢
      exact h3 s hs hz
theorem SQ_kp {Q : gW → Prop} (hQ : RC Q) {ρ : gS} (h : SQ Q ρ) : SQ Q (hKp ρ 1) := by
  obtain ⟨h1, h2, h3⟩ := h
  unfold hKp
  refine ⟨?_, fun u hu => ?_, fun s hs hz => ?_⟩
  · rw [grow_ne (by decide), grow_ne (by decide)]
    exact h1
  · rw [grow_ne (by decide), grow_ne (by decide)] at hu ⊢
    exact h2 u hu
  · rw [grow_at] at hz
    rw [grow_ne (by decide), grow_at]
    by_cases q : s = 1
    · subst q
      exact hQ _ _ h1 (fun j hj => by rw [rowAt_lt hj]; exact rla_in hj)
    · have s0 : s = 0 := by omega
      subst s0
      rw [rup_ne (by decide)] at hz
      exact hQ _ _ (h3 0 (by decide) hz) (fun j hj => by rw [rowAt_lt hj, rowAt_lt hj, rla_hi (by omega)])
/-- a new traveller's name is no keyword -/
theorem fTn_k {T : gW} {L : Int32} (h : ¬ fTn T L < 0) : ¬ isKey (fTn T L) := by
  unfold fTn at h ⊢
  split
  · rename_i q
    exact q.2.2.2
  · rename_i q
    rw [if_neg q] at h
    exact absurd (by decide) h
section DS
variable {B n c s b : Nat} {ρ : gS} {h0 : jv_H} {K : jK} {o : Int64} {w v m t oo x : Int32}
/-- where does is at its end -/
def dsK (B n c s b : Nat) (h0 : jv_H) (K : jK) : Prop := ∀ (τ : gS) (n' : Nat) (h : jv_H), n' ≤ n + 1 → SQ (RWp (b + 4)) τ → τ 323 8 = 0 → LX B n' τ [] c s h0 h → K (some (.int 1)) h
theorem ds_z {n' : Nat} {h : jv_H} {τ : gS} {got : Int32} (hK : dsK B n c s b h0 K) (hn : n' ≤ n + 1) (hS : SQ (RWp (b + 4)) τ) (h8 : τ 323 8 = 0) (hg : got < 0 → τ 324 = ρ 324) (hx : LX B n' τ [] c s h0 h) : jE 199 418 [some (.ref B), some (.int w), some (.int v), some (.long (hsh ρ)), none, some (.int m), some (.int t), some (.int oo), some (.int x), some (.int got)] [] h K :=
  ds_418 hx ⟨fun _ h1 hx1 => hK τ n' h1 hn hS h8 hx1, fun z => ⟨(lg_cmp_eq _ _).mpr (hsh_cg (hg z)), fun h1 hx1 => hK τ n' h1 hn hS h8 hx1⟩⟩
theorem ds_op {h : jv_H} {got : Int32} {g : Prop} [Decidable g] {N : gW} (hK : dsK B n c s b h0 K) (hI : SQ (RWp b) ρ) (h8 : ρ 323 8 = 0) (hi : RI ρ) (hN : g → RP (b + 4) N) (hg : g → ¬ got < 0) (hx : LX B n (hOp ρ g N) [] c s h0 h) : jE 199 418 [some (.ref B), some (.int w), some (.int v), some (.long (hsh ρ)), none, some (.int m), some (.int t), some (.int oo), some (.int x), some (.int got)] [] h K := by
  have hi1 := hx.inf
  refine ds_z hK (Nat.le_succ n) (SQ_op (RC_RW _) hi.1 (RW_le hI (Nat.le_add_right b 4)) (fun z => ⟨hN z, ?_⟩)) (by rw [hOp_323 (by decide)]; exact h8) (fun z => ?_) hx
  · have := hi1.1.1.1.1
    rw [hOp_324 z] at this
    exact this
  · by_cases q : g
    · exact absurd z (hg q)
    · rw [hOp_f q]
theorem set_nn {R : gW} {w v : Int32} {t : Nat} (hT : bT R) (hF : bF R) (ht : t < nM R) (hw : inR R w v) : ¬ (if w < 2 then fld R t (fof w) + 9 else fld R t (fof w)) < 0 := by
  obtain ⟨f3, f4, f5, f6⟩ := hF t ht
  rcases hw with ⟨z, -⟩ | ⟨z, -⟩ | ⟨z, -⟩ | ⟨z, -⟩
  · rcases z with z | z
    · rw [z, if_pos (by decide), show fof 0 = 3 from by decide]
      obtain ⟨y1, y2⟩ := f3
      grind
    · rw [z, if_pos (by decide), show fof 1 = 4 from by decide]
      obtain ⟨y1, y2⟩ := f4
      grind
  · rw [z, if_neg (by decide), show fof 2 = 5 from by decide]
    exact Int32.not_lt.mpr f5.1
  · rw [z, if_neg (by decide), show fof 3 = 6 from by decide]
    exact Int32.not_lt.mpr f6.1
  · rw [z, if_neg (by decide), show fof 4 = 1 from by decide]
    rcases (hT t ht).1 with y | y <;> rw [y] <;> decide
theorem ds_set {h : jv_H} {u y : Int32} (hK : dsK B n c s b h0 K) (hI : SQ (RWp b) ρ) (h8 : ρ 323 8 = 0) (hi : RI ρ) (hx : LX B n (hOp ρ (gSet (ρ 324) t u y) (nSet (ρ 324) t u y)) [] c s h0 h) : jE 199 418 [some (.ref B), some (.int w), some (.int v), some (.long (hsh ρ)), none, some (.int m), some (.int t), some (.int oo), some (.int x), some (.int (aSet (ρ 324) t u y))] [] h K := by
  have h3 := hi.1.1.1
  refine ds_op hK hI h8 hi (fun g => ?_) (fun g => ?_) hx
  · obtain ⟨k, hk, e⟩ := isT_x h3 g.1.1.1
    have l := (nM_of h3).2
    have g2 := g
    rw [e] at g2 ⊢
    obtain ⟨⟨⟨-, g3⟩, -⟩, g4⟩ := g2
    rw [iN_nat (by omega)] at g4
    exact RP_set hi.1.1.2 hk g3 g4 (RP_le hI.1.1 (Nat.le_add_right b 4))
  · unfold aSet
    rw [if_pos g.1.1, if_neg g.1.2, if_neg g.2]
    exact set_nn hi.2.2.2.2.2.1 hi.2.2.2.2.1 (isT_nn h3 g.1.1.1) g.1.1.2
theorem swa_nn {R : gW} {a d : Nat} {y : Int32} (ba : -200 ≤ fRise R a d a ∧ fRise R a d a ≤ 200) (bd : -200 ≤ fRise R a d d ∧ fRise R a d d ≤ 200) (by_ : 0 ≤ y ∧ y ≤ 9) (g2 : ¬ 0 < fWhy R a d y) : ¬ fRise R a d a + fRise R a d d + 100 < 0 := by
  have z0 : fWhy R a d y = 0 := Decidable.not_not.mp (fun z => g2 ((why_pos _ _ _ _).mpr z))
  have q3 : ¬ fRise R a d a < y ∧ ¬ fRise R a d d < -y := by
    unfold fWhy at z0
    split at z0
    · exact absurd z0 (by decide)
    · split at z0
      · exact absurd z0 (by decide)
      · split at z0
        · exact absurd z0 (by decide)
        · split at z0
          · exact absurd z0 (by decide)
          · rename_i q1 q2
            exact ⟨q1, q2⟩
  obtain ⟨q1, q2⟩ := q3
  obtain ⟨a1, a2⟩ := ba
  obtain ⟨d1, d2⟩ := bd
  obtain ⟨y1, y2⟩ := by_
  grind
theorem mov_nn {R : gW} {a : Nat} {x : Int32} (b1 : -100 ≤ fJoy R a x ∧ fJoy R a x ≤ 100) (b2 : -100 ≤ fJo R a ∧ fJo R a ≤ 100) (g2 : ¬ 0 < fWhyM R a x) : ¬ fJoy R a x - fJo R a < 0 := by
  have z0 := (mv_0le _ _ _).mp g2
  have q : ¬ fJoy R a x < fJo R a := by
    unfold fWhyM at z0
    split at z0
    · exact absurd z0 (by decide)
    · split at z0
      · exact absurd z0 (by decide)
      · split at z0
        · exact absurd z0 (by decide)
        · assumption
  obtain ⟨x1, x2⟩ := b1
  obtain ⟨y1, y2⟩ := b2
  grind
theorem ds_swap {h : jv_H} {y : Int32} (hK : dsK B n c s b h0 K) (hI : SQ (RWp b) ρ) (h8 : ρ 323 8 = 0) (hi : RI ρ) (hx : LX B n (hOp ρ (gSwa (ρ 324) t oo y) (nSwa (ρ 324) t oo y)) [] c s h0 h) : jE 199 418 [some (.ref B), some (.int w), some (.int v), some (.long (hsh ρ)), none, some (.int m), some (.int t), some (.int oo), some (.int x), some (.int (aSwa (ρ 324) t oo y))] [] h K := by
  have h3 := hi.1.1.1
  have l := (nM_of h3).2
  refine ds_op hK hI h8 hi (fun g => ?_) (fun g => ?_) hx
  · obtain ⟨a, ha, e⟩ := isT_x h3 g.1.1.1.1
    obtain ⟨d, hd, e2⟩ := isT_x h3 g.1.1.1.2
    have hne := g.1.1.2
    have g2 := g.2
    rw [e, e2] at hne g2 ⊢
    rw [iN_nat (by omega), iN_nat (by omega)] at g2
    exact RP_swa hi.1.1.2 ha hd (fun z => hne (by rw [z])) g2 (RP_le hI.1.1 (Nat.le_add_right b 4))
  · unfold aSwa
    have g2 := g.2
    rw [if_pos g.1, if_neg g2]
    have na := isT_nn h3 g.1.1.1.1
    have nd := isT_nn h3 g.1.1.1.2
    obtain ⟨a1, a2⟩ := rise_b h3 hi.2.2.2.2.2.1 hi.2.2.2.2.1 na nd na
    obtain ⟨d1, d2⟩ := rise_b h3 hi.2.2.2.2.2.1 hi.2.2.2.2.1 na nd nd
    obtain ⟨y1, y2⟩ := g.1.2
    exact swa_nn ⟨a1, a2⟩ ⟨d1, d2⟩ ⟨y1, y2⟩ g2
theorem ds_move {h : jv_H} (hK : dsK B n c s b h0 K) (hI : SQ (RWp b) ρ) (h8 : ρ 323 8 = 0) (hi : RI ρ) (hx : LX B n (hOp ρ (gMov (ρ 324) t x) (nMov (ρ 324) t x)) [] c s h0 h) : jE 199 418 [some (.ref B), some (.int w), some (.int v), some (.long (hsh ρ)), none, some (.int m), some (.int t), some (.int oo), some (.int x), some (.int (aMov (ρ 324) t x))] [] h K := by
  have h3 := hi.1.1.1
  have l := (nM_of h3).2
  refine ds_op hK hI h8 hi (fun g => ?_) (fun g => ?_) hx
  · obtain ⟨a, ha, e⟩ := isT_x h3 g.1.1
    have g2 := g.2
    rw [e] at g2 ⊢
    rw [iN_nat (by omega)] at g2
    refine RP_mov hi.1.1.2 ha ⟨g.1.2.1, ?_⟩ g2 (RP_le hI.1.1 (Nat.le_add_right b 4))
    have := g.1.2.2
    have := hi.2.2.2.1
    grind
  · unfold aMov
    have g2 := g.2
    rw [if_pos g.1, if_neg g2]
    have na := isT_nn h3 g.1.1
    have b1 := fJoy_b h3 hi.2.2.2.2.1 na (isS_of hi.2.2.2.1 g.1.2)
    have b2 := fJo_b h3 hi.2.2.2.2.2.1 hi.2.2.2.2.1 na
    exact mov_nn b1 b2 g2
theorem ds_ring {h : jv_H} {y : Int32} (hK : dsK B n c s b h0 K) (hI : SQ (RWp b) ρ) (h8 : ρ 323 8 = 0) (hi : RI ρ) (hx : LX B n (hOp ρ (gRin (ρ 324) t oo y) (nRin (ρ 324) t oo y)) [] c s h0 h) : jE 199 418 [some (.ref B), some (.int w), some (.int v), some (.long (hsh ρ)), none, some (.int m), some (.int t), some (.int oo), some (.int x), some (.int (aRin (ρ 324) t oo y))] [] h K := by
  have h3 := hi.1.1.1
  have l := (nM_of h3).2
  have hi1 := hx.inf
  refine ds_op hK hI h8 hi (fun g => ?_) (fun g => ?_) hx
  · obtain ⟨a, ha, e⟩ := isT_x h3 g.1.1.1.1.1
    obtain ⟨d, hd, e2⟩ := isT_x h3 g.1.1.1.1.2
    obtain ⟨k, hk, e5⟩ := isT_x h3 g.1.1.2.1.2
    have n1 := g.1.1.1.2
    have n2 := g.1.1.2.2
    have n3 := g.1.2
    have g2 := g.2
    rw [e, e2] at n1
    rw [e2, e5] at n2
    rw [e, e5] at n3
    rw [e, e2, e5] at g2 ⊢
    rw [iN_nat (by omega), iN_nat (by omega), iN_nat (by omega)] at g2
    exact RP_rin hi.1.1.2 ha hd hk ⟨fun z => n1 (by rw [z]), fun z => n2 (by rw [z]), fun z => n3 (by rw [z])⟩ g2 (RP_le hI.1.1 (Nat.le_add_right b 4))
  · obtain ⟨a, ha, e⟩ := isT_x h3 g.1.1.1.1.1
    obtain ⟨d, hd, e2⟩ := isT_x h3 g.1.1.1.1.2
    obtain ⟨k, hk, e5⟩ := isT_x h3 g.1.1.2.1.2
    have n1 := g.1.1.1.2
    have n2 := g.1.1.2.2
    have n3 := g.1.2
    have g2 := g.2
    have g1 := g.1
    rw [e, e2] at n1
    rw [e2, e5] at n2
    rw [e, e5] at n3
    have eN := hOp_324 (ρ := ρ) (N := nRin (ρ 324) t oo y) g
    rw [e, e2, e5] at g2 g1 eN hi1 ⊢
    rw [iN_nat (by omega), iN_nat (by omega), iN_nat (by omega)] at g2
    have hne : a ≠ d ∧ d ≠ k ∧ a ≠ k := ⟨fun z => n1 (by rw [z]), fun z => n2 (by rw [z]), fun z => n3 (by rw [z])⟩
    have ea : aRin (ρ 324) (iN a) (iN d) (iN k) = fROR (ρ 324) a d k := by
      unfold aRin
      rw [if_pos g1, iN_nat (by omega), iN_nat (by omega), iN_nat (by omega), if_neg g2]
    rw [ea]
    have af := agf_rin hi.1.1.2 l ha hd hk hne
    have en : nM (nRin (ρ 324) (iN a) (iN d) (iN k)) = nM (ρ 324) := (agf_n af).trans (nM_rtu hne)
    have h3N := hi1.1.1.1
    have hTN := hi1.2.2.2.2.2.1
    have hFN := hi1.2.2.2.2.1
    rw [eN] at h3N hTN hFN
    have bN : ∀ o, o < nM (ρ 324) → -100 ≤ fJo (rtu (ρ 324) a d k) o ∧ fJo (rtu (ρ 324) a d k) o ≤ 100 := fun o ho => by
      rw [← agf_Jo af (by rw [en]; exact ho)]
      exact fJo_b h3N hTN hFN (by rw [en]; exact ho)
    have bR : ∀ o, o < nM (ρ 324) → -100 ≤ fJo (ρ 324) o ∧ fJo (ρ 324) o ≤ 100 := fun o ho => fJo_b h3 hi.2.2.2.2.2.1 hi.2.2.2.2.1 ho
    rcases whyR_c (ρ 324) a d k with ⟨w0, wa, wb, wd⟩ | w
    · exact rg_sum (bN a ha) (bR a ha) wa (bN d hd) (bR d hd) wb (bN k hk) (bR k hk) wd
    · exact absurd (by rcases w with w | w <;> rw [w] <;> decide) g2
theorem ds_settle {h : jv_H} (hK : dsK B n c s b h0 K) (hI : SQ (RWp b) ρ) (h8 : ρ 323 8 = 0) (hi : RI ρ) (hx : LX B n (hOp ρ (gStl (ρ 324)) (nStl (ρ 324))) [] c s h0 h) : jE 199 418 [some (.ref B), some (.int w), some (.int v), some (.long (hsh ρ)), none, some (.int m), some (.int t), some (.int oo), some (.int x), some (.int (aStl (ρ 324)))] [] h K := by
  have h3 := hi.1.1.1
  refine ds_op hK hI h8 hi (fun g => RP_stl h3 hi.1.1.2 (RP_le hI.1.1 (Nat.le_add_right b 4))) (fun g => ?_) hx
  have l99 : (fSt 99 (ρ 324)).1 ≤ 99 := fSt_n 99 (ρ 324)
  have ea : aStl (ρ 324) = iN (fSt 99 (ρ 324)).1 := if_neg g
  rw [ea]
  intro z
  exact absurd ((iN_lt (m := 0) (by omega) (by decide)).mp z) (Nat.not_lt_zero _)
theorem sta_nn {R : gW} (hb : bN R) {k : Nat} (hk : k ≤ 50) (g : gSta R (iN k)) : ¬ aSta R (iN k) < 0 := by
  obtain ⟨ss, sb⟩ := stm_sum hb k
  have l := (nM_of hb.1).2
  have e3 := (nM_of hb.1).1
  have hle : nM (stm k R) ≤ nM R := by
    obtain ⟨T, -⟩ : ∃ T : Nat, True := ⟨0, trivial⟩
    have key : ∀ j, nM (stm j R) ≤ nM R := by
      intro j
      induction j with
      | zero => exact Nat.le_refl _
      | succ j ih =>
        have hbj := stm_b hb j
        have := (stp_c (fun _ => true) hbj).1
        have cT : ∀ S : gW, cS (fun _ => true) S = nM S := fun S => cnt_all _ (fun _ _ => rfl)
        rw [cT, cT] at this
        show nM (fStp (stm j R)) ≤ nM R
        omega
    exact key k
  unfold aSta
  rw [if_pos g.1, if_neg g.2, iN_nat (by omega)]
  have eS := (nM_of sb.1).1
  have e8 : stm k R 8 - R 8 = iN (nM R - nM (stm k R)) := by
    have h2 : R 3 - stm k R 3 = iN (nM R - nM (stm k R)) := by rw [e3, eS, iN_sub (by omega) hle]
    rw [← h2]
    grind
  rw [e8]
  intro z
  exact absurd ((iN_lt (m := 0) (by omega) (by decide)).mp z) (Nat.not_lt_zero _)
theorem ds_station {h : jv_H} (hK : dsK B n c s b h0 K) (hb : b ≤ 1000) (hI : SQ (RWp b) ρ) (h8 : ρ 323 8 = 0) (hi : RI ρ) (hx : LX B n (hOp ρ (gSta (ρ 324) (1 + (v &&& 3))) (stm (1 + (v &&& 3)).toNatClampNeg (ρ 324))) [] c s h0 h) : jE 199 418 [some (.ref B), some (.int w), some (.int v), some (.long (hsh ρ)), none, some (.int m), some (.int t), some (.int oo), some (.int x), some (.int (aSta (ρ 324) (1 + (v &&& 3))))] [] h K := by
  obtain ⟨j, hj, ej⟩ := and_n v 3 (by decide)
  have em : 1 + (v &&& 3) = iN (1 + j) := by
    rw [show (3 : Int32) = iN 3 from rfl, ej, show (1 : Int32) = iN 1 from rfl, iN_add]
  rw [em] at hx ⊢
  refine ds_op hK hI h8 hi (fun g => ?_) (fun g => sta_nn hi.1.1 (by omega) g) hx
  rw [iN_nat (by omega)]
  exact RP_le (RP_stm (k := 1 + j) hi.1.1 (by omega) hI.1.1) (by omega)
theorem ds_first {h : jv_H} {y : Int32} (hK : dsK B n c s b h0 K) (hI : SQ (RWp b) ρ) (h8 : ρ 323 8 = 0) (hi : RI ρ) (hx : LX B n (hOp ρ (gFir (ρ 324) y) (nFir (ρ 324) y)) [] c s h0 h) : jE 199 418 [some (.ref B), some (.int w), some (.int v), some (.long (hsh ρ)), none, some (.int m), some (.int t), some (.int oo), some (.int x), some (.int (aFir (ρ 324) y))] [] h K := by
  refine ds_op hK hI h8 hi (fun g => RP_fir hi.1.1.2 g.1 g.2.2 (RP_le hI.1.1 (Nat.le_add_right b 4))) (fun g => ?_) hx
  unfold aFir
  rw [if_pos g.1, if_neg g.2.1, if_neg g.2.2]
  exact Int32.not_lt.mpr hI.1.1.1.1.2.2.2.1
theorem ds_keep {h : jv_H} (hK : dsK B n c s b h0 K) (hI : SQ (RWp b) ρ) (h8 : ρ 323 8 = 0) (hx : LX B n ρ [] c s h0 h) : jE 199 380 [some (.ref B), some (.int w), some (.int v), some (.long (hsh ρ)), none, some (.int m), some (.int t), some (.int oo), some (.int x), none] [] h K := by
  have hi := hx.inf
  refine ds_380 hx ⟨fun _ h1 hx1 => ?_, fun _ h1 hx1 => ?_⟩
  · refine ds_op hK hI h8 hi (fun g => ?_) (fun g => ?_) hx1
    · exact RP_le (hI.2.2 1 (by decide) g.2).1 (Nat.le_add_right b 4)
    · unfold aRes
      rw [if_pos g.1, if_neg g.2]
      exact Int32.not_lt.mpr (hI.2.2 1 (by decide) g.2).2
  · rw [if_pos (by decide)] at hx1
    refine ds_z hK (Nat.le_succ n) (RW_le (SQ_kp (RC_RW b) hI) (Nat.le_add_right b 4)) ?_ (fun z => ?_) hx1
    · show hKp ρ 1 323 8 = 0
      unfold hKp
      rw [grow_ne (by decide), grow_ne (by decide)]
      exact h8
    · rw [if_pos (by decide)] at z
      exact absurd z (Int32.not_lt.mpr hI.1.2)
theorem ds_undo {h : jv_H} (hK : dsK B n c s b h0 K) (hI : SQ (RWp b) ρ) (h8 : ρ 323 8 = 0) (hx : LX B n ρ [] c s h0 h) : jE 199 404 [some (.ref B), some (.int w), some (.int v), some (.long o), none, some (.int m), some (.int t), some (.int oo), some (.int x), none] [] h K := by
  have hi := hx.inf
  refine ds_404 hx ⟨?_, fun h1 hx1 => hK _ n h1 (Nat.le_succ n) (RW_le (SQ_un hi.1 hI) (Nat.le_add_right b 4)) ?_ hx1⟩
  · obtain ⟨C, hC, eu, -⟩ := u8 hi.1.2
    by_cases z : ρ 323 6 = 0
    · rw [if_pos z]
      decide
    · rw [if_neg z, eu]
      have c0 : 1 ≤ C := by
        rcases Nat.eq_zero_or_pos C with v | v
        · exact absurd (by rw [eu, v]; rfl) z
        · exact v
      rw [show (1 : Int32) = iN 1 from rfl, iN_sub (by omega) c0]
      intro y
      have y2 : iN (C - 1) < 0 := Int32.lt_trans y (by decide)
      exact absurd ((iN_lt (m := 0) (by omega) (by decide)).mp y2) (Nat.not_lt_zero _)
  · unfold hUn
    split
    · exact h8
    · rw [grow_ne (by decide), grow_at, rup_ne (by decide)]
      exact h8
theorem ds_come {h : jv_H} (hn : n + 1 ≤ 9000) (hK : dsK B n c s b h0 K) (hI : SQ (RWp b) ρ) (h8 : ρ 323 8 = 0) (hx : LX B n ρ [] (c + 51) (s + 255) h0 h) : jE 199 148 [some (.ref B), some (.int w), some (.int v), some (.long (hsh ρ)), none, some (.int m), some (.int t), some (.int oo), some (.int x), none] [] h K := by
  have hi := hx.inf
  refine ds_148 hn hx ⟨h8, fun τ fd h1 hx1 => ?_⟩
  obtain ⟨⟨f4, f7, f8, f9⟩, fj, fl, ft⟩ := fd
  have hI3 : SQ (RWp b) τ := SQ_cg hI f4 (fj 6 (by decide)) f7 f8 f9
  have rs : RS τ := by
    unfold RS
    rw [f4, fj 6 (by decide)]
    exact hi.1
  obtain ⟨x1, hx1e⟩ : ∃ x1, v &&& 1 = x1 := ⟨_, rfl⟩
  obtain ⟨x2, hx2e⟩ : ∃ x2, (v >>> ((8 : Int32) &&& 31)) &&& 3 = x2 := ⟨_, rfl⟩
  obtain ⟨x3, hx3e⟩ : ∃ x3, (v >>> ((3 : Int32) &&& 31)) &&& 31 = x3 := ⟨_, rfl⟩
  obtain ⟨x4, hx4e⟩ : ∃ x4, 1 + ((v >>> ((5 : Int32) &&& 31)) &&& 31) = x4 := ⟨_, rfl⟩
  rw [hx1e, hx2e, hx3e, hx4e] at hx1 ⊢
  have hi1 := hx1.inf
  by_cases g : gCom τ x x1 x2 x3 x4
  · obtain ⟨⟨ok, n20⟩, hw, hm⟩ := g
    have g : gCom τ x x1 x2 x3 x4 := ⟨⟨ok, n20⟩, hw, hm⟩
    have ea : aCom τ x x1 x2 x3 x4 = τ 324 3 := by
      unfold aCom
      rw [if_pos ok, if_neg n20, if_pos ⟨hw, hm⟩]
    have eh : hCom τ x x1 x2 x3 x4 = grow (grow (hKe τ) 323 (rup (hKe τ 323) 8 0)) 324 (nCom (τ 324) x x1 x2 x3 x4 (fTn (τ 330) (τ 323 8))) := by
      unfold hCom
      rw [if_pos g]
    have eo : hOp τ True (nCom (τ 324) x x1 x2 x3 x4 (fTn (τ 330) (τ 323 8))) = grow (hKe τ) 324 (nCom (τ 324) x x1 x2 x3 x4 (fTn (τ 330) (τ 323 8))) := hOp_t trivial
    have i3 := hi1.1.1.1.1
    rw [eh, grow_at] at i3
    have hS : SQ (RWp (b + 4)) (hOp τ True (nCom (τ 324) x x1 x2 x3 x4 (fTn (τ 330) (τ 323 8)))) := SQ_op (RC_RW _) rs (RW_le hI3 (Nat.le_add_right b 4)) (fun _ => ⟨?_, i3⟩)
    · rw [ea]
      refine ds_188 hx1 ⟨fun _ h2 hx2 => ?_, fun z => absurd z (Int32.not_lt.mpr hI3.1.2)⟩
      rw [eh] at hx2
      rw [eo] at hS
      refine ds_z hK (Nat.le_refl _) (SQ_cg hS ?_ ?_ ?_ ?_ ?_) ?_ (fun z => absurd z (Int32.not_lt.mpr hI3.1.2)) hx2
      · rw [grow_at, grow_at]
      · rw [grow_ne (by decide), grow_at, rup_ne (by decide), grow_ne (by decide)]
      · rw [grow_ne (by decide), grow_ne (by decide), grow_ne (by decide)]
      · rw [grow_ne (by decide), grow_ne (by decide), grow_ne (by decide)]
      · rw [grow_ne (by decide), grow_ne (by decide), grow_ne (by decide)]
      · rw [grow_ne (by decide), grow_at, rup_at]
    · obtain ⟨⟨⟨⟨⟨o1, o2⟩, o3⟩, o4⟩, o5⟩, o6⟩ := ok
      have r0 : 2 ≤ τ 324 0 ∧ τ 324 0 ≤ 10 := by rw [f4]; exact hi.2.2.2.1
      refine RP_com (by rw [f4]; exact hi.1.1.1) (by rw [f4]; exact hi.1.1.2) n20 ⟨o1.1, ?_⟩ r0 hw hm o5 (fTn_k o6) (RP_le hI3.1.1 (Nat.le_add_right b 4))
      have := o1.2
      grind
  · have eh : hCom τ x x1 x2 x3 x4 = τ := by
      unfold hCom
      rw [if_neg g]
    have ea : aCom τ x x1 x2 x3 x4 < 0 := by
      unfold aCom
      by_cases ok : okC τ x x1 x2 x3 x4
      · rw [if_pos ok]
        by_cases n20 : τ 324 3 = 20
        · rw [if_pos n20]
          decide
        · rw [if_neg n20, if_neg (fun z => g ⟨⟨ok, n20⟩, z⟩)]
          decide
      · rw [if_neg ok]
        decide
    rw [eh] at hx1
    have gt : gTru (τ 323 8) 3 := by
      rw [fl]
      decide
    refine ds_188 hx1 ⟨fun z => absurd ea z, fun _ => ⟨?_, fun h2 hx2 => ?_⟩⟩
    · rw [if_pos gt, fl]
      decide
    · unfold hTr at hx2
      rw [if_pos gt] at hx2
      refine ds_z hK (Nat.le_refl _) (SQ_cg (RW_le hI3 (Nat.le_add_right b 4)) ?_ ?_ ?_ ?_ ?_) ?_ (fun _ => ?_) hx2
      · rw [grow_ne (by decide)]
      · rw [grow_at, rup_ne (by decide)]
      · rw [grow_ne (by decide)]
      · rw [grow_ne (by decide)]
      · rw [grow_ne (by decide)]
      · rw [grow_at, rup_at, fl]
        decide
      · rw [grow_ne (by decide)]
        exact f4
theorem ds_sw {h : jv_H} {j : Nat} (hj : j ≤ 15) (hn : n + 1 ≤ 9000) (hb : b ≤ 1000) (hm0 : ¬ (if 1 < m then m else 1) = 0) (hK : dsK B n c s b h0 K) (hI : SQ (RWp b) ρ) (h8 : ρ 323 8 = 0) (hx : LX B n ρ [] (c + 51) (s + 255) h0 h) : jE 199 73 [some (.ref B), some (.int w), some (.int v), some (.long (hsh ρ)), none, some (.int m), some (.int t), some (.int oo), some (.int x), none] [.int (iN j)] h K := by
  have hi := hx.inf
  have hx0 : LX B n ρ [] c s h0 h := hx.le (by omega) (by omega)
  have go : ∀ (d : Nat), jv_br (.tableswitch 331 0 14 #[75, 75, 75, 132, 132, 157, 182, 210, 210, 230, 243, 271, 280, 294, 307]) 73 [.int (iN j)] = some (d, []) → jE 199 d [some (.ref B), some (.int w), some (.int v), some (.long (hsh ρ)), none, some (.int m), some (.int t), some (.int oo), some (.int x), none] [] h K → jE 199 73 [some (.ref B), some (.int w), some (.int v), some (.long (hsh ρ)), none, some (.int m), some (.int t), some (.int oo), some (.int x), none] [.int (iN j)] h K :=
    fun d e hg => jx_br (i := .tableswitch 331 0 14 #[75, 75, 75, 132, 132, 157, 182, 210, 210, 230, 243, 271, 280, 294, 307]) (len := 75) (by decide) (by decide +kernel) rfl rfl rfl rfl e hg
  have hj16 : j = 0 ∨ j = 1 ∨ j = 2 ∨ j = 3 ∨ j = 4 ∨ j = 5 ∨ j = 6 ∨ j = 7 ∨ j = 8 ∨ j = 9 ∨ j = 10 ∨ j = 11 ∨ j = 12 ∨ j = 13 ∨ j = 14 ∨ j = 15 := by omega
  rcases hj16 with rfl | rfl | rfl | rfl | rfl | rfl | rfl | rfl | rfl | rfl | rfl | rfl | rfl | rfl | rfl | rfl
  · exact go 148 (by decide +kernel) (ds_come hn hK hI h8 hx)
  · exact go 148 (by decide +kernel) (ds_come hn hK hI h8 hx)
  · exact go 148 (by decide +kernel) (ds_come hn hK hI h8 hx)
  · exact go 205 (by decide +kernel) (ds_205 hx0 (fun h1 hx1 => ds_set hK hI h8 hi hx1))
  · exact go 205 (by decide +kernel) (ds_205 hx0 (fun h1 hx1 => ds_set hK hI h8 hi hx1))
  · exact go 230 (by decide +kernel) (ds_230 hx0 (fun h1 hx1 => ds_set hK hI h8 hi hx1))
  · exact go 255 (by decide +kernel) (ds_255 hx0 (fun h1 hx1 => ds_set hK hI h8 hi hx1))
  · exact go 283 (by decide +kernel) (ds_283 hx0 (fun h1 hx1 => ds_swap hK hI h8 hi hx1))
  · exact go 283 (by decide +kernel) (ds_283 hx0 (fun h1 hx1 => ds_swap hK hI h8 hi hx1))
  · exact go 303 (by decide +kernel) (ds_303 hx0 (fun h1 hx1 => ds_move hK hI h8 hi hx1))
  · exact go 316 (by decide +kernel) (ds_316 hx0 ⟨hm0, fun h1 hx1 => ds_ring hK hI h8 hi hx1⟩)
  · exact go 344 (by decide +kernel) (ds_344 hx0 (fun h1 hx1 => ds_settle hK hI h8 hi hx1))
  · exact go 353 (by decide +kernel) (ds_353 hx0 (fun h1 hx1 => ds_station hK hb hI h8 hi hx1))
  · exact go 367 (by decide +kernel) (ds_367 hx0 (fun h1 hx1 => ds_first hK hI h8 hi hx1))
  · exact go 380 (by decide +kernel) (ds_keep hK hI h8 hx0)
  · exact go 404 (by decide +kernel) (ds_undo hK hI h8 hx0)
theorem lm_does {h : jv_H} (hn : n + 1 ≤ 9000) (hb : b ≤ 1000) (hI : SQ (RWp b) ρ) (h8 : ρ 323 8 = 0) (hx : LX B n ρ [] (c + 51) (s + 255) h h) : jE 199 0 [some (.ref B), some (.int w), some (.int v), none, none, none, none, none, none, none] [] h (fun r h' => r = some (.int 1) ∧ ∃ τ n', n' ≤ n + 1 ∧ SQ (RWp (b + 4)) τ ∧ τ 323 8 = 0 ∧ LX B n' τ [] c s h h') := by
  have hi := hx.inf
  obtain ⟨e3, l20⟩ := hi.n
  obtain ⟨a, ha10, ha, -⟩ := row_n hi.2.2.2.1
  have hm0 : ¬ (if 1 < ρ 324 3 then ρ 324 3 else 1) = 0 := by
    split
    · rename_i z
      intro y
      rw [y] at z
      exact absurd z (by decide)
    · decide
  have h40 : ¬ 4 * ρ 324 0 = 0 := by
    have := hi.2.2.2.1
    intro z
    grind
  obtain ⟨j, hj, ej⟩ := and_n w 15 (by decide)
  have fin : ∀ (t : Int32) (h1 : jv_H), LX B n ρ [] (c + 51) (s + 255) h h1 → jE 199 29 [some (.ref B), some (.int w), some (.int v), some (.long (hsh ρ)), none, some (.int (ρ 324 3)), none, none, none, none] [.int t] h1 (fun r h' => r = some (.int 1) ∧ ∃ τ n', n' ≤ n + 1 ∧ SQ (RWp (b + 4)) τ ∧ τ 323 8 = 0 ∧ LX B n' τ [] c s h h') := by
    intro t h1 hx1
    have fin2 : ∀ (oo : Int32) (h2 : jv_H), LX B n ρ [] (c + 51) (s + 255) h h2 → jE 199 50 [some (.ref B), some (.int w), some (.int v), some (.long (hsh ρ)), none, some (.int (ρ 324 3)), some (.int t), none, none, none] [.int oo] h2 (fun r h' => r = some (.int 1) ∧ ∃ τ n', n' ≤ n + 1 ∧ SQ (RWp (b + 4)) τ ∧ τ 323 8 = 0 ∧ LX B n' τ [] c s h h') := by
      intro oo h2 hx2
      refine ds_50 hx2 ⟨h40, fun h3 hx3 => ?_⟩
      rw [show (15 : Int32) = iN 15 from rfl, ej]
      exact ds_sw hj hn hb hm0 (fun τ n' h4 a1 a2 a3 a4 => ⟨rfl, τ, n', a1, a2, a3, a4⟩) hI h8 hx3
    exact ds_29 hx1 ⟨fun z => ⟨z, fun h2 hx2 => fin2 _ h2 hx2⟩, fun _ h2 hx2 => fin2 _ h2 hx2⟩
  exact ds_0 hx ⟨fun z => ⟨z, fun h1 hx1 => fin _ h1 hx1⟩, fun _ h1 hx1 => fin _ h1 hx1⟩
end DS
