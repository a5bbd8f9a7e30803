/-! A BUILDER GROWS -/
section SB3
variable {h : jv_H} {K : jK}
theorem jx_aret {y pc a : Nat} {Lv : List (Option Value)} (hy : y < 272) (hcode : jv_code y pc = some (.areturn, 1)) (hrt : (∃ t, (jv_ym y).2.2 = some (.array t)) ∨ ∃ t, (jv_ym y).2.2 = some (.object t)) (hK : K (some (.ref a)) h) : jE y pc Lv [.ref a] h K := by
  refine jx_ret hy hcode ?_ hK
  rcases hrt with ⟨t, e⟩ | ⟨t, e⟩ <;> rw [e] <;> rfl
theorem jx_vret {y pc : Nat} {Lv : List (Option Value)} (hy : y < 272) (hcode : jv_code y pc = some (.return_, 1)) (hrt : (jv_ym y).2.2 = none) (hK : K none h) : jE y pc Lv [] h K := by
  refine jx_ret hy hcode ?_ hK
  rw [hrt]
  rfl
theorem jv_at_add {a n : Nat} {x : jv_E} (ha : a < h.2.1) : (jv_add h x n).1 a = h.1 a := by
  show jv_up h.1 h.2.1 x a = _
  unfold jv_up
  rw [if_neg (Nat.ne_of_lt ha)]
theorem jv_at_new {n : Nat} {x : jv_E} : (jv_add h x n).1 h.2.1 = x := by
  show jv_up h.1 h.2.1 x h.2.1 = _
  unfold jv_up
  rw [if_pos rfl]
theorem jv_at_put {a : Nat} {x : jv_E} : (jv_put h a x).1 a = x := by
  show jv_up h.1 a x a = _
  unfold jv_up
  rw [if_pos rfl]
theorem jv_at_pne {a b : Nat} {x : jv_E} (hne : b ≠ a) : (jv_put h a x).1 b = h.1 b := by
  show jv_up h.1 a x b = _
  unfold jv_up
  rw [if_neg hne]
theorem sb_copy {v m k : Nat} {g : Nat → Int32} (hv : v < h.2.1) (e2 : h.1 v = .inl (4, m, g)) (hfit : ∀ j, j < m → fits .byte (.int (g j)) = true) (hmk : m < k) (hk : k ≤ 100000) (hK : K (some (.ref h.2.1)) (jv_put (jv_add h (.inl (4, k, fun _ => 0)) k) h.2.1 (.inl (4, k, va_cpy g (fun _ => 0) 0 0 m)))) : jE 184 0 [some (.ref v), some (.int (Int32.ofNat k)), none] [] h K := by
  refine jx_ld (i := .iload_n 1) (len := 1) (st' := [.int (Int32.ofNat k)]) (by decide) (by decide +kernel) rfl rfl rfl rfl ?_
  refine jx_ld (i := .aload_n 0) (len := 1) (st' := [.ref v, .int (Int32.ofNat k)]) (by decide) (by decide +kernel) rfl rfl rfl rfl ?_
  refine jx_blen (by decide) (by decide +kernel) (Or.inl hv) e2 ?_
  have hne : ¬ Int32.ofNat k = Int32.ofNat m := by
    intro z
    have z2 := congrArg Int32.toInt z
    rw [Int32.toInt_ofNat_of_lt (by omega), Int32.toInt_ofNat_of_lt (by omega)] at z2
    omega
  refine jx_icmp (c := .ne) (off := 11) (b := 14) (by decide) (by decide +kernel) (by decide) (fun _ => ?_) (fun e => absurd hne (of_decide_eq_false e))
  refine jx_ld (i := .iload_n 1) (len := 1) (st' := [.int (Int32.ofNat k)]) (by decide) (by decide +kernel) rfl rfl rfl rfl ?_
  refine jx_newb (k := k) (by decide) (by decide +kernel) ⟨i_nat (by omega), i_nn (by omega), hk⟩ ?_
  generalize hh1 : jv_add h (.inl (4, k, fun _ => 0)) k = h1 at *
  have t1 : h1.2.1 = h.2.1 + 1 := by rw [← hh1]; rfl
  have c1 : h1.1 v = .inl (4, m, g) := by rw [← hh1, jv_at_add hv]; exact e2
  have c2 : h1.1 h.2.1 = .inl (4, k, fun _ => 0) := by rw [← hh1]; exact jv_at_new
  refine jx_sto (i := .astore_n 2) (len := 1) (Lv' := [some (.ref v), some (.int (Int32.ofNat k)), some (.ref h.2.1)]) (st' := []) (by decide) (by decide +kernel) rfl rfl rfl rfl rfl rfl ?_
  refine jx_ld (i := .aload_n 0) (len := 1) (st' := [.ref v]) (by decide) (by decide +kernel) rfl rfl rfl rfl ?_
  refine jx_pure (i := .iconst 0) (len := 1) (st' := [.int 0, .ref v]) (by decide) (by decide +kernel) rfl rfl rfl ?_
  refine jx_ld (i := .aload_n 2) (len := 1) (st' := [.ref h.2.1, .int 0, .ref v]) (by decide) (by decide +kernel) rfl rfl rfl rfl ?_
  refine jx_pure (i := .iconst 0) (len := 1) (st' := [.int 0, .ref h.2.1, .int 0, .ref v]) (by decide) (by decide +kernel) rfl rfl rfl ?_
  refine jx_ld (i := .aload_n 0) (len := 1) (st' := [.ref v, .int 0, .ref h.2.1, .int 0, .ref v]) (by decide) (by decide +kernel) rfl rfl rfl rfl ?_
  refine jx_blen (by decide) (by decide +kernel) (Or.inl (by omega)) c1 ?_
  refine jx_ld (i := .iload_n 1) (len := 1) (st' := [.int (Int32.ofNat k), .int (Int32.ofNat m), .int 0, .ref h.2.1, .int 0, .ref v]) (by decide) (by decide +kernel) rfl rfl rfl rfl ?_
  refine jx_call (z := 181) (na := 2) (mL := 2) (ck := 0) (ow := 13) (by decide +kernel) (by show 2 ≤ 6; decide) (Nat.le_of_ble_eq_true rfl) rfl (Or.inl rfl) ?_
  refine sb_min ?_
  rw [if_neg (show ¬ Int32.ofNat m > Int32.ofNat k from fun z => by
    have := (i_lt (a := k) (b := m) (by omega) (by omega)).mp z
    omega)]
  have em := i_nat (a := m) (by omega)
  refine jx_acpy (n := Int32.ofNat m) (dp := 0) (sp := 0) (by decide +kernel) (Or.inl (by omega)) (by omega) (by omega) c1 c2 ⟨i_nn (by omega), by decide, by decide⟩ (by rw [em]; show 0 + m ≤ m; omega) (by rw [em]; show 0 + m ≤ k; omega) (fun j hj => ?_) (Nat.le_of_ble_eq_true rfl) ?_
  · rw [em] at hj
    show fits .byte (.int (g (0 + j))) = true
    rw [Nat.zero_add]
    exact hfit j hj
  rw [em]
  refine jx_ld (i := .aload_n 2) (len := 1) (st' := [.ref h.2.1]) (by decide) (by decide +kernel) rfl rfl rfl rfl ?_
  exact jx_aret (by decide) (by decide +kernel) (Or.inl ⟨.byte, by decide +kernel⟩) hK
end SB3
