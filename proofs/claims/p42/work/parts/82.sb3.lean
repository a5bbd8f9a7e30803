/-! A BUILDER GROWS -/
section SB3
variable {h : jv_H} {K : jK}
theorem jx_aret {y pc a : Nat} {Lv : List (Option Value)} (hy : y < 272) (hcode : jv_code y pc = some (.areturn, 1)) (hrt : (∃ t, (jv_ym y).2.2 = some (.array t)) ∨ ∃ t, (jv_ym y).2.2 = some (.object t)) (hK : K (some (.ref a)) h) : jE y pc Lv [.ref a] h K := by
  refine jx_ret hy hcode ?_ hK
  rcases hrt with ⟨t, e⟩ | ⟨t, e⟩ <;> rw [e] <;> rfl
theorem jx_vret {y pc : Nat} {Lv : List (Option Value)} (hy : y < 272) (hcode : jv_code y pc = some (.return_, 1)) (hrt : (jv_ym y).2.2 = none) (hK : K none h) : jE y pc Lv [] h K := by
  refine jx_ret hy hcode ?_ hK
  rw [hrt]
  rfl
theorem jv_at_add {a n : Nat} {x : jv_E} (ha : a < h.2.1) : (jv_add h x n).1 a = h.1 a := by
  show jv_up h.1 h.2.1 x a = _
  unfold jv_up
  rw [if_neg (Nat.ne_of_lt ha)]
theorem jv_at_new {n : Nat} {x : jv_E} : (jv_add h x n).1 h.2.1 = x := by
  show jv_up h.1 h.2.1 x h.2.1 = _
  unfold jv_up
  rw [if_pos rfl]
theorem jv_at_put {a : Nat} {x : jv_E} : (jv_put h a x).1 a = x := by
  show jv_up h.1 a x a = _
  unfold jv_up
  rw [if_pos rfl]
theorem jv_at_pne {a b : Nat} {x : jv_E} (hne : b ≠ a) : (jv_put h a x).1 b = h.1 b := by
  show jv_up h.1 a x b = _
  unfold jv_up
  rw [if_neg hne]
theorem sb_copy {v m k : Nat} {g : Nat → Int32} (hv : v < h.2.1) (e2 : h.1 v = .inl (4, m, g)) (hfit : ∀ j, j < m → fits .byte (.int (g j)) = true) (hmk : m < k) (hk : k ≤ 100000) (hK : K (some (.ref h.2.1)) (jv_put (jv_add h (.inl (4, k, fun _ => 0)) k) h.2.1 (.inl (4, k, va_cpy g (fun _ => 0) 0 0 m)))) : jE 184 0 [some (.ref v), some (.int (Int32.ofNat k)), none] [] h K := by
  refine jx_ld (i := .iload_n 1) (len := 1) (st' := [.int (Int32.ofNat k)]) (by decide) (by decide +kernel) rfl rfl rfl rfl ?_
  refine jx_ld (i := .aload_n 0) (len := 1) (st' := [.ref v, .int (Int32.ofNat k)]) (by decide) (by decide +kernel) rfl rfl rfl rfl ?_
  refine jx_blen (by decide) (by decide +kernel) (Or.inl hv) e2 ?_
  have hne : ¬ Int32.ofNat k = Int32.ofNat m := by
    intro z
    have z2 := congrArg Int32.toInt z
    rw [Int32.toInt_ofNat_of_lt (by omega), Int32.toInt_ofNat_of_lt (by omega)] at z2
    omega
  refine jx_icmp (c := .ne) (off := 11) (b := 14) (by decide) (by decide +kernel) (by decide) (fun _ => ?_) (fun e => absurd hne (of_decide_eq_false e))
  refine jx_ld (i := .iload_n 1) (len := 1) (st' := [.int (Int32.ofNat k)]) (by decide) (by decide +kernel) rfl rfl rfl rfl ?_
  refine jx_newb (k := k) (by decide) (by decide +kernel) ⟨i_nat (by omega), i_nn (by omega), hk⟩ ?_
  generalize hh1 : jv_add h (.inl (4, k, fun _ => 0)) k = h1 at *
  have t1 : h1.2.1 = h.2.1 + 1 := by rw [← hh1]; rfl
  have c1 : h1.1 v = .inl (4, m, g) := by rw [← hh1, jv_at_add hv]; exact e2
  have c2 : h1.1 h.2.1 = .inl (4, k, fun _ => 0) := by rw [← hh1]; exact jv_at_new
  refine jx_sto (i := .astore_n 2) (len := 1) (Lv' := [some (.ref v), some (.int (Int32.ofNat k)), some (.ref h.2.1)]) (st' := []) (by decide) (by decide +kernel) rfl rfl rfl rfl rfl rfl ?_
  refine jx_ld (i := .aload_n 0) (len := 1) (st' := [.ref v]) (by decide) (by decide +kernel) rfl rfl rfl rfl ?_
  refine jx_pure (i := .iconst 0) (len := 1) (st' := [.int 0, .ref v]) (by decide) (by decide +kernel) rfl rfl rfl ?_
  refine jx_ld (i := .aload_n 2) (len := 1) (st' := [.ref h.2.1, .int 0, .ref v]) (by decide) (by decide +kernel) rfl rfl rfl rfl ?_
  refine jx_pure (i := .iconst 0) (len := 1) (st' := [.int 0, .ref h.2.1, .int 0, .ref v]) (by decide) (by decide +kernel) rfl rfl rfl ?_
  refine jx_ld (i := .aload_n 0) (len := 1) (st' := [.ref v, .int 0, .ref h.2.1, .int 0, .ref v]) (by decide) (by decide +kernel) rfl rfl rfl rfl ?_
  refine jx_blen (by decide) (by decide +kernel) (Or.inl (by omega)) c1 ?_
  refine jx_ld (i := .iload_n 1) (len := 1) (st' := [.int (Int32.ofNat k), .int (Int32.ofNat m), .int 0, .ref h.2.1, .int 0, .ref v]) (by decide) (by decide +kernel) rfl rfl rfl rfl ?_
  refine jx_call (z := 181) (na := 2) (mL := 2) (ck := 0) (ow := 13) (by decide +kernel) (by show 2 ≤ 6; decide) (Nat.le_of_ble_eq_true rfl) rfl (Or.inl rfl) ?_
  refine sb_min ?_
  rw [if_neg (show ¬ Int32.ofNat m > Int32.ofNat k from fun z => by
    have := (i_lt (a := k) (b := m) (by omega) (by omega)).mp z
    omega)]
  have em := i_nat (a := m) (by omega)
  refine jx_acpy (n := Int32.ofNat m) (dp := 0) (sp := 0) (by decide +kernel) (Or.inl (by omega)) (by omega) (by omega) c1 c2 ⟨i_nn (by omega), by decide, by decide⟩ (by rw [em]; show 0 + m ≤ m; omega) (by rw [em]; show 0 + m ≤ k; omega) (fun j hj => ?_) (Nat.le_of_ble_eq_true rfl) ?_
  · rw [em] at hj
    show fits .byte (.int (g (0 + j))) = true
    rw [Nat.zero_add]
    exact hfit j hj
  rw [em]
  refine jx_ld (i := .aload_n 2) (len := 1) (st' := [.ref h.2.1]) (by decide) (by decide +kernel) rfl rfl rfl rfl ?_
  exact jx_aret (by decide) (by decide +kernel) (Or.inl ⟨.byte, by decide +kernel⟩) hK
/-- what a builder's call may do: new rows of bytes, no others' cells; what it uses is told by the row's growth -/
def jSu (h h' : jv_H) (q v m v' m' : Nat) : Prop := jFr h h' q v ∧ (v' = v ∨ h.2.1 ≤ v') ∧ (h.2.1 ≤ h'.2.1 ∧ h'.2.1 + m ≤ h.2.1 + m') ∧ (h.2.2 ≤ h'.2.2 ∧ h'.2.2 + 2 * m ≤ h.2.2 + 2 * m')
theorem jSu.rf {q v m : Nat} : jSu h h q v m v m := ⟨jFr.rf, Or.inl rfl, ⟨Nat.le_refl _, Nat.le_refl _⟩, ⟨Nat.le_refl _, Nat.le_refl _⟩⟩
theorem sb_ens {q v m k : Nat} {w : List Int32} (hs : jSB h q v m w) (hk : k ≤ 4000) (hK : ∀ (h' : jv_H) (v' m' : Nat), jSB h' q v' m' w → k ≤ m' → jSu h h' q v m v' m' → K none h') : jE 168 0 [some (.ref q), some (.int (Int32.ofNat k)), none] [] h K := by
  have hs0 := hs
  obtain ⟨⟨hq, hv, hqv⟩, ⟨ml, e1⟩, ⟨g, e2, e3, e4⟩, ⟨l1, l2, l3⟩, hl⟩ := hs
  refine jx_ld (i := .aload_n 0) (len := 1) (st' := [.ref q]) (by decide) (by decide +kernel) rfl rfl rfl rfl ?_
  refine jx_getf (idx := 15) (cx := 9) (k := 0) (by decide) (by decide +kernel) (by decide +kernel) (Or.inl hq) e1 rfl ?_
  refine jx_blen (by decide) (by decide +kernel) (Or.inl hv) e2 ?_
  refine jx_ld (i := .aload_n 0) (len := 1) (st' := [.ref q, .int (Int32.ofNat m)]) (by decide) (by decide +kernel) rfl rfl rfl rfl ?_
  refine jx_getf (idx := 22) (cx := 9) (k := 1) (by decide) (by decide +kernel) (by decide +kernel) (Or.inl hq) e1 rfl ?_
  refine jx_pure (i := .ishr) (len := 1) (st' := [.int (Int32.ofNat m)]) (by decide) (by decide +kernel) rfl rfl ?_ ?_
  · show some [Value.int (Int32.ofNat m >>> ((0 : Int32) &&& 31))] = _
    rw [show (0 : Int32) &&& 31 = 0 by decide, Int32.shiftRight_zero]
  refine jx_sto (i := .istore_n 2) (len := 1) (Lv' := [some (.ref q), some (.int (Int32.ofNat k)), some (.int (Int32.ofNat m))]) (st' := []) (by decide) (by decide +kernel) rfl rfl rfl rfl rfl rfl ?_
  refine jx_ld (i := .iload_n 1) (len := 1) (st' := [.int (Int32.ofNat k)]) (by decide) (by decide +kernel) rfl rfl rfl rfl ?_
  refine jx_ld (i := .iload_n 2) (len := 1) (st' := [.int (Int32.ofNat m), .int (Int32.ofNat k)]) (by decide) (by decide +kernel) rfl rfl rfl rfl ?_
  refine jx_pure (i := .isub) (len := 1) (st' := [.int (Int32.ofNat k - Int32.ofNat m)]) (by decide) (by decide +kernel) rfl rfl rfl ?_
  refine jx_if (c := .le) (off := 24) (b := 38) (by decide) (by decide +kernel) (by decide) (fun e => ?_) (fun e => ?_)
  · refine jx_vret (by decide) (by decide +kernel) (by decide +kernel) (hK h v m hs0 ?_ jSu.rf)
    rcases Nat.lt_or_ge m k with z | z
    · have e := of_decide_eq_true e
      rw [i_sub (Nat.le_of_lt z)] at e
      have e5 : ¬ Int32.ofNat 0 < Int32.ofNat (k - m) := Int32.not_lt.mpr e
      rw [i_lt (by decide) (by omega)] at e5
      omega
    · exact z
  · have hmk : m < k := by
      rcases Nat.lt_or_ge m k with z | z
      · exact z
      · refine absurd ?_ (of_decide_eq_false e)
        show Int32.ofNat k - Int32.ofNat m ≤ 0
        rw [Int32.le_iff_toInt_le, Int32.toInt_sub, Int32.toInt_ofNat_of_lt (by omega), Int32.toInt_ofNat_of_lt (by omega)]
        have e0 : (0 : Int32).toInt = 0 := by decide
        rw [e0, Int.bmod_eq_of_le (by omega) (by omega)]
        omega
    refine jx_ld (i := .aload_n 0) (len := 1) (st' := [.ref q]) (by decide) (by decide +kernel) rfl rfl rfl rfl ?_
    refine jx_ld (i := .aload_n 0) (len := 1) (st' := [.ref q, .ref q]) (by decide) (by decide +kernel) rfl rfl rfl rfl ?_
    refine jx_getf (idx := 15) (cx := 9) (k := 0) (by decide) (by decide +kernel) (by decide +kernel) (Or.inl hq) e1 rfl ?_
    refine jx_ld (i := .aload_n 0) (len := 1) (st' := [.ref q, .ref v, .ref q]) (by decide) (by decide +kernel) rfl rfl rfl rfl ?_
    refine jx_ld (i := .iload_n 1) (len := 1) (st' := [.int (Int32.ofNat k), .ref q, .ref v, .ref q]) (by decide) (by decide +kernel) rfl rfl rfl rfl ?_
    refine jx_call (z := 169) (na := 2) (mL := 6) (ck := 1) (ow := 11) (by decide +kernel) (by show 2 ≤ 4; decide) (Nat.le_of_ble_eq_true rfl) rfl (Or.inr ⟨q, 9, _, rfl, Or.inl hq, e1, rfl⟩) ?_
    refine sb_newCap (v := v) (c := Int32.ofNat w.length) ⟨⟨hq, hv⟩, ⟨ml, e1⟩, g, e2⟩ l3 hk hmk ?_
    generalize hg : (if k - m < m + 2 then m + 2 else k - m) = t at *
    have ht : m + t ≤ 8002 ∧ m + 2 ≤ t ∧ k ≤ m + t := by
      split at hg <;> omega
    refine jx_ld (i := .aload_n 0) (len := 1) (st' := [.ref q, .int (Int32.ofNat (m + t)), .ref v, .ref q]) (by decide) (by decide +kernel) rfl rfl rfl rfl ?_
    refine jx_getf (idx := 22) (cx := 9) (k := 1) (by decide) (by decide +kernel) (by decide +kernel) (Or.inl hq) e1 rfl ?_
    refine jx_pure (i := .ishl) (len := 1) (st' := [.int (Int32.ofNat (m + t)), .ref v, .ref q]) (by decide) (by decide +kernel) rfl rfl ?_ ?_
    · show some [Value.int (Int32.ofNat (m + t) <<< ((0 : Int32) &&& 31)), _, _] = _
      rw [show (0 : Int32) &&& 31 = 0 by decide, Int32.shiftLeft_zero]
    refine jx_call (z := 184) (na := 2) (mL := 3) (ck := 0) (ow := 15) (by decide +kernel) (by show 2 ≤ 3; decide) (Nat.le_of_ble_eq_true rfl) rfl (Or.inl rfl) ?_
    refine sb_copy hv e2 e4 (by omega) (by omega) ?_
    generalize hh2 : jv_put (jv_add h (.inl (4, m + t, fun _ => 0)) (m + t)) h.2.1 (.inl (4, m + t, va_cpy g (fun _ => 0) 0 0 m)) = h2 at *
    have t1 : h2.2.1 = h.2.1 + 1 := by rw [← hh2]; rfl
    have t2 : h2.2.2 = h.2.2 + (m + t) := by rw [← hh2]; rfl
    have c0 : ∀ b, b ≠ h.2.1 → h2.1 b = h.1 b := by
      intro b hb
      rw [← hh2, jv_at_pne hb]
      show jv_up h.1 h.2.1 _ b = _
      unfold jv_up
      rw [if_neg hb]
    have c1 : h2.1 h.2.1 = .inl (4, m + t, va_cpy g (fun _ => 0) 0 0 m) := by rw [← hh2]; exact jv_at_put
    have hqn : q ≠ h.2.1 := by omega
    have c2 : h2.1 q = .inr (.inr (9, [.ref v, .int 0, ml, .int (Int32.ofNat w.length)])) := (c0 q hqn).trans e1
    have f9 : jv_fty 9 0 = .array .byte := by decide +kernel
    refine jx_putf (idx := 15) (cx := 9) (k := 0) (by decide) (by decide +kernel) (by decide +kernel) (by omega) c2 (by show 0 < 4; decide) (by rw [f9]; exact ⟨rfl, rfl⟩) (Or.inl (by decide +kernel)) ?_
    refine jx_vret (by decide) (by decide +kernel) (by decide +kernel) (hK _ h.2.1 (m + t) ⟨⟨by show q < h2.2.1; omega, by show h.2.1 < h2.2.1; omega, hqn⟩, ⟨ml, jv_at_put⟩, ⟨_, (jv_at_pne (fun z => hqn z.symm)).trans c1, fun j hj => ?_, fun j hj => ?_⟩, ⟨by omega, l2, ht.1⟩, hl⟩ ht.2.2 ⟨fun b hb h3 h4 => ?_, Or.inr (Nat.le_refl _), ⟨by show h.2.1 ≤ h2.2.1; omega, by show h2.2.1 + m ≤ _; omega⟩, ⟨by show h.2.2 ≤ h2.2.2; omega, by show h2.2.2 + 2 * m ≤ _; omega⟩⟩)
    · unfold va_cpy
      rw [if_pos (by omega)]
      show g (0 + (j - 0)) = _
      rw [show 0 + (j - 0) = j by omega]
      exact e3 j hj
    · unfold va_cpy
      split
      · rw [show 0 + (j - 0) = j by omega]
        exact e4 j (by omega)
      · rfl
    · have hb2 : b < h.2.1 ∨ h2.2.1 ≤ b := hb
      exact (jv_at_pne h3).trans (c0 b (by omega))
end SB3
