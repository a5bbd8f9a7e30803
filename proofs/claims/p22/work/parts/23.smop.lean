/-! THE S MACHINE IS RIGHT: the dispatch, the run -/
section SMR
variable {run : sRun} {ρ : Nat → Int32} {L : Nat} {xs : Nat → Int32} {env : sE} {rest : List sF} {H : sH} {gs : List jF} {y pc : Nat} {i : Instr} {len : Nat} {t : List sI} {SL st : List Nat} {Lv : List (Option Value)} {vs : List Value} {h : jv_H}
theorem sm_op_lt {op a b : Nat} {meth : Nat → List sI} (hr : sm_op meth run env y pc t op a b SL st rest H = true) : op < 51 := by
  rcases Nat.lt_or_ge op 51 with q | q
  · exact q
  · exfalso
    have bb : ∀ k, k ≤ 51 → Nat.blt op k = false := fun k hk => by
      cases e : Nat.blt op k with
      | true => have := b_lt e; omega
      | false => rfl
    have e50 : Nat.beq op 50 = false := by
      cases e : Nat.beq op 50 with
      | true => have := b_eq e; omega
      | false => rfl
    unfold sm_op at hr
    rw [bb 25 (by decide), c_f, bb 38 (by decide), c_f, bb 44 (by decide), c_f, bb 47 (by decide), c_f, bb 49 (by decide), c_f, bb 50 (by decide), c_f, e50, c_f] at hr
    cases hr
theorem len_if {a b : Nat} (hl : jv_sw i = true ∨ len = jv_len i) (hk : sk_if pc i a b = true) : len = 3 := by
  unfold sk_if at hk
  split at hk
  · exact jv_len1 hl rfl
  · cases hk
theorem len_icmp {a b : Nat} (hl : jv_sw i = true ∨ len = jv_len i) (hk : sk_icmp pc i a b = true) : len = 3 := by
  unfold sk_icmp at hk
  split at hk
  · exact jv_len1 hl rfl
  · cases hk
theorem len_C {q : Nat × Nat} (hl : jv_sw i = true ∨ len = jv_len i) (hC : jv_isC i = some q) : len = 3 := by
  obtain ⟨ck, idx⟩ := q
  rcases jv_isC_eq hC with ⟨-, rfl⟩ | ⟨-, rfl⟩ | ⟨-, rfl⟩ <;> exact jv_len1 hl rfl
theorem len_call {a b : Nat} (hl : jv_sw i = true ∨ len = jv_len i) (hk : sk_call y i a b = true) : len = 3 := by
  unfold sk_call at hk
  split at hk
  · rename_i hC _ _
    exact len_C hl hC
  · cases hk
theorem len_spec {z ck fr0 lo0 : Nat} (hl : jv_sw i = true ∨ len = jv_len i) (hk : sk_spec y i z ck fr0 lo0 = true) : len = 3 := by
  obtain ⟨idx, ow, kd, na, mL, fr, lo, na', ne, hC, -⟩ := sk_spec_eq hk
  exact len_C hl hC
theorem pv_0 (x : Nat) (v : Value) (ty : FieldType) (ok : s_isI x = true) (hs : sr ρ x v) (hk : pv_k 0 ty = true) : narrow ty v = v ∧ fits ty v = true := by
  obtain ⟨w, rfl⟩ := sr_int ok hs
  cases ty <;> first | (cases hk; done) | exact ⟨rfl, rfl⟩
theorem pv_1 (x : Nat) (v : Value) (ty : FieldType) (ok : s_is01 x = true) (hs : sr ρ x v) (hk : pv_k 1 ty = true) : narrow ty v = v ∧ fits ty v = true := by
  obtain ⟨w, rfl, hw⟩ := s_01 ok hs
  cases ty <;> first | (cases hk; done) | skip
  rcases hw with rfl | rfl <;> exact ⟨by decide, by decide⟩
theorem pv_2 (x : Nat) (v : Value) (ty : FieldType) (ok : s_isR x = true) (hs : sr ρ x v) (hk : pv_k 2 ty = true) : narrow ty v = v ∧ fits ty v = true := by
  have e := (sr_ref ok hs).1
  obtain ⟨u, hu⟩ : ∃ u, u = x - sREF := ⟨_, rfl⟩
  rw [← hu] at e
  subst e
  cases ty <;> first | (cases hk; done) | exact ⟨rfl, rfl⟩
theorem sr_flt {x : Nat} {v : Value} (hx : s_isF x = true) (h : sr ρ x v) : ∃ u, v = .float u := by
  obtain ⟨q1, q2⟩ := s_and hx
  have h1 : 1099511627776 ≤ x := b_le q1
  have h2 : x < 1208925819614629174706176 := b_lt q2
  cases v with
  | float w => exact ⟨w, rfl⟩
  | int w =>
    rcases h with ⟨h7, -⟩ | ⟨k, hk, hk2, -⟩ | hu
    · have : x < 4294967296 := h7
      omega
    · have : x = 17179869184 + k := hk2
      omega
    · have : x = 17179869284 := hu
      omega
  | ref a =>
    have r := sRf_num h
    omega
  | null =>
    have : x = 17179869286 := h
    omega
  | double w =>
    have : x = 1208925819614629174706176 + w.toNat := h
    omega
  | long w => cases h
  | retAddr w => cases h
theorem k_okd {x v : Nat} (h : s_okd x v = true) : x < 2147483648 ∧ v < 2147483648 ∧ 0 < v := by
  obtain ⟨q1, q⟩ := s_and h
  obtain ⟨q2, q3⟩ := s_and q
  exact ⟨b_lt q1, b_lt q2, b_lt q3⟩
set_option maxHeartbeats 8000000 in
theorem sm_op_ok (hrun : ∀ env f rest H, run env f rest H = true → sSnd env f rest H) (X : sX ρ L xs env rest H gs y pc i len t SL st Lv vs h) {op a b : Nat} (hl : jv_sw i = true ∨ len = jv_len i) (hk : sk1 y pc i op a b = true) (hr : sm_op sc_meth run env y (pc + len) t op a b SL st rest H = true) : sG gs y pc Lv vs h := by
  have h51 := sm_op_lt hr
  match op, h51, hk, hr with
  | 0, _, hk, hr =>
    have hr : so_const run env y (pc + len) t a SL st rest H = true := hr
    exact k_const hrun X hk hr
  | 1, _, hk, hr =>
    have hr : so_iload run env y (pc + len) t a SL st rest H = true := hr
    exact k_iload hrun X hk hr
  | 2, _, hk, hr =>
    have hr : so_aload run env y (pc + len) t a SL st rest H = true := hr
    exact k_aload hrun X hk hr
  | 3, _, hk, hr =>
    have hr : so_dload run env y (pc + len) t a SL st rest H = true := hr
    exact k_dload hrun X hk hr
  | 4, _, hk, hr =>
    have hr : so_istore run env y (pc + len) t a SL st rest H = true := hr
    exact k_istore hrun X hk hr
  | 5, _, hk, hr =>
    have hr : so_astore run env y (pc + len) t a SL st rest H = true := hr
    exact k_astore hrun X hk hr
  | 6, _, hk, hr =>
    have hr : so_dstore run env y (pc + len) t a SL st rest H = true := hr
    exact k_dstore hrun X hk hr
  | 7, _, hk, hr =>
    have hr : so_iinc run env y (pc + len) t a b SL st rest H = true := hr
    exact k_iinc hrun X hk hr
  | 8, _, hk, hr =>
    have hr : so_getf run env y (pc + len) t a b SL st rest H = true := hr
    exact k_getf hrun X hk hr
  | 9, _, hk, hr =>
    have hr : so_putf run env y (pc + len) t a b SL st rest H s_isI = true := hr
    exact k_putf hrun X (kd := 0) hk pv_0 hr
  | 10, _, hk, hr =>
    have hr : so_putf run env y (pc + len) t a b SL st rest H s_is01 = true := hr
    exact k_putf hrun X (kd := 1) hk pv_1 hr
  | 11, _, hk, hr =>
    have hr : so_putf run env y (pc + len) t a b SL st rest H s_isR = true := hr
    exact k_putf hrun X (kd := 2) hk pv_2 hr
  | 12, _, hk, hr =>
    have hr : s_goto sc_meth run env y a SL st rest H = true := hr
    exact k_goto hrun X hk hr
  | 13, _, hk, hr =>
    have hr : so_if sc_meth run env y (pc + len) t a b SL st rest H = true := hr
    exact k_if hrun X hk (len_if hl hk) hr
  | 14, _, hk, hr =>
    have hr : so_icmp sc_meth run env y (pc + len) t a b SL st rest H = true := hr
    exact k_icmp hrun X hk (len_icmp hl hk) hr
  | 15, _, hk, hr =>
    have hr : so_two run env y (pc + len) t SL st rest H (fun x v => (x + v) % sM) (fun _ _ => true) = true := hr
    have hk := of_decide_eq_true hk
    subst hk
    exact k_two hrun X (g := fun x y => x + y) rfl rfl (fun x v r hx hv _ => ⟨rfl, Nat.mod_lt _ (by decide), a_add x v⟩) hr
  | 16, _, hk, hr =>
    have hr : so_two run env y (pc + len) t SL st rest H (fun x v => (x + sM - v) % sM) (fun _ _ => true) = true := hr
    have hk := of_decide_eq_true hk
    subst hk
    exact k_two hrun X (g := fun x y => x - y) rfl rfl (fun x v r hx hv _ => ⟨rfl, Nat.mod_lt _ (by decide), a_sub hx hv⟩) hr
  | 17, _, hk, hr =>
    have hr : so_two run env y (pc + len) t SL st rest H (fun x v => (x * v) % sM) (fun _ _ => true) = true := hr
    have hk := of_decide_eq_true hk
    subst hk
    exact k_two hrun X (g := fun x y => x * y) rfl rfl (fun x v r hx hv _ => ⟨rfl, Nat.mod_lt _ (by decide), a_mul x v⟩) hr
  | 18, _, hk, hr =>
    have hr : so_two run env y (pc + len) t SL st rest H (fun x v => x / v) s_okd = true := hr
    have hk := of_decide_eq_true hk
    subst hk
    exact k_two hrun X (g := fun x y => x / y) rfl rfl (fun x v r hx hv ok => ⟨if_neg (a_ne0 hv (k_okd ok).2.2), Nat.lt_of_le_of_lt (Nat.div_le_self x v) hx, a_div (k_okd ok).1 (k_okd ok).2.1⟩) hr
  | 19, _, hk, hr =>
    have hr : so_two run env y (pc + len) t SL st rest H (fun x v => x % v) s_okd = true := hr
    have hk := of_decide_eq_true hk
    subst hk
    exact k_two hrun X (g := fun x y => x - x / y * y) rfl rfl (fun x v r hx hv ok => ⟨if_neg (a_ne0 hv (k_okd ok).2.2), Nat.lt_of_le_of_lt (Nat.mod_le x v) hx, a_rem (k_okd ok).1 (k_okd ok).2.1 (k_okd ok).2.2⟩) hr
  | 20, _, hk, hr =>
    have hr : so_iand run env y (pc + len) t SL st rest H = true := hr
    have hk := of_decide_eq_true hk
    exact k_iand hrun X hk hr
  | 21, _, hk, hr =>
    have hr : so_ishr run env y (pc + len) t SL st rest H = true := hr
    have hk := of_decide_eq_true hk
    exact k_ishr hrun X hk hr
  | 22, _, hk, hr =>
    have hr : so_two run env y (pc + len) t SL st rest H Nat.xor (fun _ _ => true) = true := hr
    have hk := of_decide_eq_true hk
    subst hk
    exact k_two hrun X (g := fun x y => x ^^^ y) rfl rfl (fun x v r hx hv _ => ⟨rfl, Nat.xor_lt_two_pow (n := 32) hx hv, a_xor x v⟩) hr
  | 23, _, hk, hr =>
    have hr : so_iald run env y (pc + len) t SL st rest H = true := hr
    have hk := of_decide_eq_true hk
    exact k_iald hrun X hk hr
  | 24, _, hk, hr =>
    have hr : so_bald run env y (pc + len) t SL st rest H = true := hr
    have hk := of_decide_eq_true hk
    exact k_bald hrun X hk hr
  | 25, _, hk, hr =>
    have hr : so_aald run env y (pc + len) t SL st rest H = true := hr
    have hk := of_decide_eq_true hk
    exact k_aald hrun X hk hr
  | 26, _, hk, hr =>
    have hr : so_ast run env y (pc + len) t SL st rest H 0 s_isI = true := hr
    have hk := of_decide_eq_true hk
    exact k_iast hrun X hk hr
  | 27, _, hk, hr =>
    have hr : so_ast run env y (pc + len) t SL st rest H 1 s_is01 = true := hr
    have hk := of_decide_eq_true hk
    exact k_bast hrun X hk hr
  | 28, _, hk, hr =>
    have hr : so_aast run env y (pc + len) t SL st rest H = true := hr
    have hk := of_decide_eq_true hk
    exact k_aast hrun X hk hr
  | 29, _, hk, hr =>
    have hr : so_alen run env y (pc + len) t SL st rest H = true := hr
    have hk := of_decide_eq_true hk
    exact k_alen hrun X hk hr
  | 30, _, hk, hr =>
    have hr : so_new run env y (pc + len) t a SL st rest H = true := hr
    exact k_new hrun X hk hr
  | 31, _, hk, hr =>
    have hr : so_newa run env y (pc + len) t a SL st rest H 0 = true := hr
    exact k_newa hrun X hk hr
  | 32, _, hk, hr =>
    have hr : so_newa run env y (pc + len) t a SL st rest H sNUL = true := hr
    exact k_anew hrun X hk hr
  | 33, _, hk, hr =>
    have hr : so_dup run env y (pc + len) t SL st rest H = true := hr
    have hk := of_decide_eq_true hk
    exact k_dup hrun X hk hr
  | 34, _, hk, hr =>
    have hr : so_dup2 run env y (pc + len) t SL st rest H = true := hr
    have hk := of_decide_eq_true hk
    exact k_dup2 hrun X hk hr
  | 35, _, hk, hr =>
    have hr : so_pop run env y (pc + len) t SL st rest H = true := hr
    have hk := of_decide_eq_true hk
    exact k_pop hrun X hk hr
  | 36, _, hk, hr =>
    have hr : so_call sc_meth run env y (pc + len) t a b SL st rest H = true := hr
    exact k_call hrun X hk (len_call hl hk) hr
  | 37, _, hk, hr =>
    have hr : so_obj run env y (pc + len) t SL st rest H = true := hr
    exact k_obj hrun X hk (len_spec hl hk) hr
  | 38, _, hk, hr =>
    have hr : so_slen run env y (pc + len) t SL st rest H = true := hr
    exact k_slen hrun X hk (len_spec hl hk) hr
  | 39, _, hk, hr =>
    have hr : so_sat run env y (pc + len) t SL st rest H = true := hr
    exact k_sat hrun X hk (len_spec hl hk) hr
  | 40, _, hk, hr =>
    have hr : so_vret run env st rest H = true := hr
    exact k_vret hrun X hk hr
  | 41, _, hk, hr =>
    have hr : so_ret run env st rest H s_isI = true := hr
    exact k_ret hrun X (fun x v ok hs => sk_ret_1 hk (sr_int ok hs)) hr
  | 42, _, hk, hr =>
    have hr : so_ret run env st rest H s_is01 = true := hr
    exact k_ret hrun X (fun x v ok hs => sk_ret_2 hk (s_01 ok hs)) hr
  | 43, _, hk, hr =>
    have hr : so_ret run env st rest H s_isR = true := hr
    exact k_ret hrun X (fun x v ok hs => sk_ret_3 hk ⟨_, (sr_ref ok hs).1⟩) hr
  | 44, _, hk, hr =>
    have hr : so_ret run env st rest H s_isF = true := hr
    exact k_ret hrun X (fun x v ok hs => sk_ret_4 hk (sr_flt ok hs)) hr
  | 45, _, hk, hr =>
    have hr : so_ret run env st rest H s_isD = true := hr
    exact k_ret hrun X (fun x v ok hs => sk_ret_5 hk (sr_dbl ok hs)) hr
  | 46, _, hk, hr =>
    have hr : so_tab sc_meth run env y a SL st rest H = true := hr
    exact k_tab hrun X hk hr
  | 47, _, hk, hr =>
    have hr : so_pure run env y (pc + len) t a b SL st rest H = true := hr
    exact k_pure hrun X hk hr
  | 48, _, hk, hr =>
    have hr : so_const run env y (pc + len) t a SL st rest H = true := hr
    exact k_ldc hrun X 0 hk hr
  | 49, _, hk, hr =>
    have hr : so_const run env y (pc + len) t a SL st rest H = true := hr
    exact k_ldc hrun X 1 hk hr
  | 50, _, hk, hr =>
    have hr : so_lsw sc_meth run env y a SL st rest H = true := hr
    exact k_lsw hrun X hk hr
  | n + 51, h51, _, _ => exact absurd h51 (by omega)
end SMR
/-- what the S machine answers with true, the law does -/
theorem sm_sound {stopf : sRun} (hs : ∀ env f rest H, stopf env f rest H = true → sSnd env f rest H) : ∀ (n : Nat) (env : sE) (f : sF) (rest : List sF) (H : sH), sm_run stopf sc_meth n env f rest H = true → sSnd env f rest H
  | 0, _, _, _, _, h => by cases h
  | n + 1, env, f, rest, H, hr => by
    have hr : cond (stopf env f rest H) true (match (generalizing := false) f with
      | (_, _, [], _, _) => false
      | (y, pc, (op, a, b, len) :: t, SL, st) => sm_op sc_meth (sm_run stopf sc_meth n) env y (pc + len) t op a b SL st rest H) = true := hr
    rcases s_c2 hr with ⟨q, -⟩ | ⟨-, hr⟩
    · exact hs _ _ _ _ q
    · split at hr
      · cases hr
      · rename_i y pc op a b len t SL st hx1 hx2
        intro L xs ρ hρ hE gs Lv vs h hy hok hL hS hrs hH
        have hok : (s_k y pc (op, a, b, len) && s_ok y (pc + len) t) = true := hok
        obtain ⟨h1, h2⟩ := s_and hok
        unfold s_k at h1
        split at h1
        · rename_i i len2 hcode
          obtain ⟨h3, h4⟩ := s_and h1
          have e : len2 = len := b_eq h3
          subst e
          exact sm_op_ok (sm_sound hs n) ⟨hρ, hE, hy, hcode, h2, hL, hS, hrs, hH⟩ (jv_code_ok hcode).2 h4 hr
        · cases h1
