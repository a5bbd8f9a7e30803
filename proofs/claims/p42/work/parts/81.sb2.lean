/-! A BUILDER'S ROOM -/
section SB2
variable {h : jv_H} {K : jK}
theorem i_sub {a b : Nat} (h : b ≤ a) : Int32.ofNat a - Int32.ofNat b = Int32.ofNat (a - b) := by
  rw [Int32.ofNat_sub _ _ h]
theorem i_lt {a b : Nat} (ha : a < 2147483648) (hb : b < 2147483648) : Int32.ofNat a < Int32.ofNat b ↔ a < b := by
  rw [Int32.lt_iff_toInt_lt, Int32.toInt_ofNat_of_lt (by omega), Int32.toInt_ofNat_of_lt (by omega)]
  omega
theorem i_nat {a : Nat} (ha : a < 2147483648) : (Int32.ofNat a).toNatClampNeg = a := by
  show (Int32.ofNat a).toInt.toNat = a
  rw [Int32.toInt_ofNat_of_lt (by omega)]
  omega
theorem i_nn {a : Nat} (ha : a < 2147483648) : ¬ Int32.ofNat a < 0 := by
  rw [show (0 : Int32) = Int32.ofNat 0 from rfl, i_lt ha (by decide)]
  omega
theorem sb_max {a b : Int32} (hK : K (some (.int (if a < b then b else a))) h) : jE 180 0 [some (.int a), some (.int b)] [] h K := by
  refine jx_ld (i := .iload_n 0) (len := 1) (st' := [.int a]) (by decide) (by decide +kernel) rfl rfl rfl rfl ?_
  refine jx_ld (i := .iload_n 1) (len := 1) (st' := [.int b, .int a]) (by decide) (by decide +kernel) rfl rfl rfl rfl ?_
  refine jx_icmp (c := .lt) (off := 7) (b := 9) (by decide) (by decide +kernel) (by decide) (fun e => ?_) (fun e => ?_)
  · rw [if_pos (of_decide_eq_true e)] at hK
    refine jx_ld (i := .iload_n 1) (len := 1) (st' := [.int b]) (by decide) (by decide +kernel) rfl rfl rfl rfl ?_
    exact jx_iret .int (by decide) (by decide +kernel) (by decide +kernel) rfl hK
  · rw [if_neg (of_decide_eq_false e)] at hK
    refine jx_ld (i := .iload_n 0) (len := 1) (st' := [.int a]) (by decide) (by decide +kernel) rfl rfl rfl rfl ?_
    refine jx_goto (off := 4) (b := 10) (by decide) (by decide +kernel) (by decide) ?_
    exact jx_iret .int (by decide) (by decide +kernel) (by decide +kernel) rfl hK
theorem sb_min {a b : Int32} (hK : K (some (.int (if a > b then b else a))) h) : jE 181 0 [some (.int a), some (.int b)] [] h K := by
  refine jx_ld (i := .iload_n 0) (len := 1) (st' := [.int a]) (by decide) (by decide +kernel) rfl rfl rfl rfl ?_
  refine jx_ld (i := .iload_n 1) (len := 1) (st' := [.int b, .int a]) (by decide) (by decide +kernel) rfl rfl rfl rfl ?_
  refine jx_icmp (c := .gt) (off := 7) (b := 9) (by decide) (by decide +kernel) (by decide) (fun e => ?_) (fun e => ?_)
  · rw [if_pos (of_decide_eq_true e)] at hK
    refine jx_ld (i := .iload_n 1) (len := 1) (st' := [.int b]) (by decide) (by decide +kernel) rfl rfl rfl rfl ?_
    exact jx_iret .int (by decide) (by decide +kernel) (by decide +kernel) rfl hK
  · rw [if_neg (of_decide_eq_false e)] at hK
    refine jx_ld (i := .iload_n 0) (len := 1) (st' := [.int a]) (by decide) (by decide +kernel) rfl rfl rfl rfl ?_
    refine jx_goto (off := 4) (b := 10) (by decide) (by decide +kernel) (by decide) ?_
    exact jx_iret .int (by decide) (by decide +kernel) (by decide +kernel) rfl hK
theorem sb_newLen {o a b : Int32} (h1 : 0 < (if a < b then b else a) + o) (h2 : ¬ (if a < b then b else a) + o > 2147483639) (hK : K (some (.int (o + (if a < b then b else a)))) h) : jE 188 0 [some (.int o), some (.int a), some (.int b), none] [] h K := by
  refine jx_ld (i := .iload_n 0) (len := 1) (st' := [.int o]) (by decide) (by decide +kernel) rfl rfl rfl rfl ?_
  refine jx_ld (i := .iload_n 1) (len := 1) (st' := [.int a, .int o]) (by decide) (by decide +kernel) rfl rfl rfl rfl ?_
  refine jx_ld (i := .iload_n 2) (len := 1) (st' := [.int b, .int a, .int o]) (by decide) (by decide +kernel) rfl rfl rfl rfl ?_
  refine jx_call (z := 180) (na := 2) (mL := 2) (ck := 0) (ow := 13) (by decide +kernel) (by show 2 ≤ 3; decide) (Nat.le_of_ble_eq_true rfl) rfl (Or.inl rfl) ?_
  refine sb_max ?_
  generalize (if a < b then b else a) = t at *
  have e0 : t + o = o + t := Int32.add_comm _ _
  rw [e0] at h1 h2
  refine jx_pure (i := .iadd) (len := 1) (st' := [.int (o + t)]) (by decide) (by decide +kernel) rfl rfl rfl ?_
  refine jx_sto (i := .istore_n 3) (len := 1) (Lv' := [some (.int o), some (.int a), some (.int b), some (.int (o + t))]) (st' := []) (by decide) (by decide +kernel) rfl rfl rfl rfl rfl rfl ?_
  refine jx_pure (i := .iconst 0) (len := 1) (st' := [.int 0]) (by decide) (by decide +kernel) rfl rfl rfl ?_
  refine jx_ld (i := .iload_n 3) (len := 1) (st' := [.int (o + t), .int 0]) (by decide) (by decide +kernel) rfl rfl rfl rfl ?_
  refine jx_icmp (c := .ge) (off := 11) (b := 21) (by decide) (by decide +kernel) (by decide) (fun e => absurd (of_decide_eq_true e) (Int32.not_le.mpr h1)) (fun _ => ?_)
  refine jx_ld (i := .iload_n 3) (len := 1) (st' := [.int (o + t)]) (by decide) (by decide +kernel) rfl rfl rfl rfl ?_
  refine jx_ldc (idx := 200) (v := .int 2147483639) (by decide) (by decide +kernel) (by decide +kernel) ?_
  refine jx_icmp (c := .gt) (off := 5) (b := 21) (by decide) (by decide +kernel) (by decide) (fun e => absurd (of_decide_eq_true e) h2) (fun _ => ?_)
  refine jx_ld (i := .iload_n 3) (len := 1) (st' := [.int (o + t)]) (by decide) (by decide +kernel) rfl rfl rfl rfl ?_
  exact jx_iret .int (by decide) (by decide +kernel) (by decide +kernel) rfl hK
/-- a builder's object, its row -/
def jSO (h : jv_H) (q v m : Nat) (c : Int32) : Prop := (q < h.2.1 ∧ v < h.2.1) ∧ (∃ ml, h.1 q = .inr (.inr (9, [.ref v, .int 0, ml, .int c]))) ∧ ∃ g, h.1 v = .inl (4, m, g)
theorem sb_newCap {q v m k : Nat} {c : Int32} (hs : jSO h q v m c) (hm : m ≤ 8002) (hk : k ≤ 4000) (hmk : m < k) (hK : K (some (.int (Int32.ofNat (m + (if k - m < m + 2 then m + 2 else k - m))))) h) : jE 169 0 [some (.ref q), some (.int (Int32.ofNat k)), none, none, none, none] [] h K := by
  obtain ⟨⟨hq, hv⟩, ⟨ml, e1⟩, g, e2⟩ := hs
  have hx : (if Int32.ofNat k - Int32.ofNat m < Int32.ofNat m + 2 then Int32.ofNat m + 2 else Int32.ofNat k - Int32.ofNat m) = Int32.ofNat (if k - m < m + 2 then m + 2 else k - m) := by
    rw [i_sub (Nat.le_of_lt hmk), show Int32.ofNat m + 2 = Int32.ofNat (m + 2) from (Int32.ofNat_add m 2).symm]
    by_cases q : k - m < m + 2
    · rw [if_pos q, if_pos ((i_lt (by omega) (by omega)).mpr q)]
    · rw [if_neg q, if_neg (fun z => q ((i_lt (by omega) (by omega)).mp z))]
  generalize hg : (if k - m < m + 2 then m + 2 else k - m) = t at *
  have ht : t ≤ 8004 ∧ 0 < t := by
    split at hg <;> omega
  refine jx_ld (i := .aload_n 0) (len := 1) (st' := [.ref q]) (by decide) (by decide +kernel) rfl rfl rfl rfl ?_
  refine jx_getf (idx := 15) (cx := 9) (k := 0) (by decide) (by decide +kernel) (by decide +kernel) (Or.inl hq) e1 rfl ?_
  refine jx_blen (by decide) (by decide +kernel) (Or.inl hv) e2 ?_
  refine jx_sto (i := .istore_n 2) (len := 1) (Lv' := [some (.ref q), some (.int (Int32.ofNat k)), some (.int (Int32.ofNat m)), none, none, none]) (st' := []) (by decide) (by decide +kernel) rfl rfl rfl rfl rfl rfl ?_
  refine jx_ld (i := .iload_n 1) (len := 1) (st' := [.int (Int32.ofNat k)]) (by decide) (by decide +kernel) rfl rfl rfl rfl ?_
  refine jx_ld (i := .aload_n 0) (len := 1) (st' := [.ref q, .int (Int32.ofNat k)]) (by decide) (by decide +kernel) rfl rfl rfl rfl ?_
  refine jx_getf (idx := 22) (cx := 9) (k := 1) (by decide) (by decide +kernel) (by decide +kernel) (Or.inl hq) e1 rfl ?_
  refine jx_pure (i := .ishl) (len := 1) (st' := [.int (Int32.ofNat k)]) (by decide) (by decide +kernel) rfl rfl ?_ ?_
  · show some [Value.int (Int32.ofNat k <<< ((0 : Int32) &&& 31))] = _
    rw [show (0 : Int32) &&& 31 = 0 by decide, Int32.shiftLeft_zero]
  refine jx_sto (i := .istore_n 3) (len := 1) (Lv' := [some (.ref q), some (.int (Int32.ofNat k)), some (.int (Int32.ofNat m)), some (.int (Int32.ofNat k)), none, none]) (st' := []) (by decide) (by decide +kernel) rfl rfl rfl rfl rfl rfl ?_
  refine jx_ld (i := .iload_n 3) (len := 1) (st' := [.int (Int32.ofNat k)]) (by decide) (by decide +kernel) rfl rfl rfl rfl ?_
  refine jx_ld (i := .iload_n 2) (len := 1) (st' := [.int (Int32.ofNat m), .int (Int32.ofNat k)]) (by decide) (by decide +kernel) rfl rfl rfl rfl ?_
  refine jx_pure (i := .isub) (len := 1) (st' := [.int (Int32.ofNat k - Int32.ofNat m)]) (by decide) (by decide +kernel) rfl rfl rfl ?_
  refine jx_sto (i := .istore 4) (len := 2) (Lv' := [some (.ref q), some (.int (Int32.ofNat k)), some (.int (Int32.ofNat m)), some (.int (Int32.ofNat k)), some (.int (Int32.ofNat k - Int32.ofNat m)), none]) (st' := []) (by decide) (by decide +kernel) rfl rfl rfl rfl rfl rfl ?_
  refine jx_ld (i := .iload_n 2) (len := 1) (st' := [.int (Int32.ofNat m)]) (by decide) (by decide +kernel) rfl rfl rfl rfl ?_
  refine jx_ld (i := .iload 4) (len := 2) (st' := [.int (Int32.ofNat k - Int32.ofNat m), .int (Int32.ofNat m)]) (by decide) (by decide +kernel) rfl rfl rfl rfl ?_
  refine jx_ld (i := .iload_n 2) (len := 1) (st' := [.int (Int32.ofNat m), .int (Int32.ofNat k - Int32.ofNat m), .int (Int32.ofNat m)]) (by decide) (by decide +kernel) rfl rfl rfl rfl ?_
  refine jx_pure (i := .iconst 2) (len := 1) (st' := [.int 2, .int (Int32.ofNat m), .int (Int32.ofNat k - Int32.ofNat m), .int (Int32.ofNat m)]) (by decide) (by decide +kernel) rfl rfl rfl ?_
  refine jx_ld (i := .aload_n 0) (len := 1) (st' := [.ref q, .int 2, .int (Int32.ofNat m), .int (Int32.ofNat k - Int32.ofNat m), .int (Int32.ofNat m)]) (by decide) (by decide +kernel) rfl rfl rfl rfl ?_
  refine jx_getf (idx := 22) (cx := 9) (k := 1) (by decide) (by decide +kernel) (by decide +kernel) (Or.inl hq) e1 rfl ?_
  refine jx_pure (i := .ishl) (len := 1) (st' := [.int 2, .int (Int32.ofNat m), .int (Int32.ofNat k - Int32.ofNat m), .int (Int32.ofNat m)]) (by decide) (by decide +kernel) rfl rfl rfl ?_
  refine jx_pure (i := .iadd) (len := 1) (st' := [.int (Int32.ofNat m + 2), .int (Int32.ofNat k - Int32.ofNat m), .int (Int32.ofNat m)]) (by decide) (by decide +kernel) rfl rfl rfl ?_
  refine jx_call (z := 188) (na := 3) (mL := 4) (ck := 0) (ow := 16) (by decide +kernel) (by show 3 ≤ 3; decide) (Nat.le_of_ble_eq_true rfl) rfl (Or.inl rfl) ?_
  have e3 : Int32.ofNat t + Int32.ofNat m = Int32.ofNat (t + m) := (Int32.ofNat_add t m).symm
  refine sb_newLen ?_ ?_ ?_
  · rw [hx, e3, show (0 : Int32) = Int32.ofNat 0 from rfl, i_lt (by decide) (by omega)]
    omega
  · rw [hx, e3]
    show ¬ (2147483639 : Int32) < _
    rw [show (2147483639 : Int32) = Int32.ofNat 2147483639 from rfl, i_lt (by decide) (by omega)]
    omega
  rw [hx, show Int32.ofNat m + Int32.ofNat t = Int32.ofNat (m + t) from (Int32.ofNat_add m t).symm]
  refine jx_sto (i := .istore 5) (len := 2) (Lv' := [some (.ref q), some (.int (Int32.ofNat k)), some (.int (Int32.ofNat m)), some (.int (Int32.ofNat k)), some (.int (Int32.ofNat k - Int32.ofNat m)), some (.int (Int32.ofNat (m + t)))]) (st' := []) (by decide) (by decide +kernel) rfl rfl rfl rfl rfl rfl ?_
  refine jx_ld (i := .iload 5) (len := 2) (st' := [.int (Int32.ofNat (m + t))]) (by decide) (by decide +kernel) rfl rfl rfl rfl ?_
  refine jx_ldc (idx := 39) (v := .int 2147483647) (by decide) (by decide +kernel) (by decide +kernel) ?_
  have hne : ¬ Int32.ofNat (m + t) = 2147483647 := by
    intro z
    have z2 := congrArg Int32.toInt z
    rw [Int32.toInt_ofNat_of_lt (by omega)] at z2
    have z3 : (2147483647 : Int32).toInt = 2147483647 := by decide
    omega
  refine jx_icmp (c := .ne) (off := 13) (b := 51) (by decide) (by decide +kernel) (by decide) (fun _ => ?_) (fun e => absurd hne (of_decide_eq_false e))
  refine jx_ld (i := .iload 5) (len := 2) (st' := [.int (Int32.ofNat (m + t))]) (by decide) (by decide +kernel) rfl rfl rfl rfl ?_
  refine jx_ld (i := .aload_n 0) (len := 1) (st' := [.ref q, .int (Int32.ofNat (m + t))]) (by decide) (by decide +kernel) rfl rfl rfl rfl ?_
  refine jx_getf (idx := 22) (cx := 9) (k := 1) (by decide) (by decide +kernel) (by decide +kernel) (Or.inl hq) e1 rfl ?_
  refine jx_pure (i := .ishr) (len := 1) (st' := [.int (Int32.ofNat (m + t))]) (by decide) (by decide +kernel) rfl rfl ?_ ?_
  · show some [Value.int (Int32.ofNat (m + t) >>> ((0 : Int32) &&& 31))] = _
    rw [show (0 : Int32) &&& 31 = 0 by decide, Int32.shiftRight_zero]
  exact jx_iret .int (by decide) (by decide +kernel) (by decide +kernel) rfl hK
end SB2
