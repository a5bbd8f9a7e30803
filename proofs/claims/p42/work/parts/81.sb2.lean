/-! A BUILDER'S ROOM -/
section SB2
variable {h : jv_H} {K : jK}
theorem i_sub {a b : Nat} (h : b ≤ a) : Int32.ofNat a - Int32.ofNat b = Int32.ofNat (a - b) := by
  rw [Int32.ofNat_sub _ _ h]
theorem i_lt {a b : Nat} (ha : a < 2147483648) (hb : b < 2147483648) : Int32.ofNat a < Int32.ofNat b ↔ a < b := by
  rw [Int32.lt_iff_toInt_lt, Int32.toInt_ofNat_of_lt (by omega), Int32.toInt_ofNat_of_lt (by omega)]
  omega
theorem i_nat {a : Nat} (ha : a < 2147483648) : (Int32.ofNat a).toNatClampNeg = a := by
  show (Int32.ofNat a).toInt.toNat = a
  rw [Int32.toInt_ofNat_of_lt (by omega)]
  omega
theorem i_nn {a : Nat} (ha : a < 2147483648) : ¬ Int32.ofNat a < 0 := by
  rw [show (0 : Int32) = Int32.ofNat 0 from rfl, i_lt ha (by decide)]
  omega
theorem sb_max {a b : Int32} (hK : K (some (.int (if a < b then b else a))) h) : jE 180 0 [some (.int a), some (.int b)] [] h K := by
  refine jx_ld (i := .iload_n 0) (len := 1) (st' := [.int a]) (by decide) (by decide +kernel) rfl rfl rfl rfl ?_
  refine jx_ld (i := .iload_n 1) (len := 1) (st' := [.int b, .int a]) (by decide) (by decide +kernel) rfl rfl rfl rfl ?_
  refine jx_icmp (c := .lt) (off := 7) (b := 9) (by decide) (by decide +kernel) (by decide) (fun e => ?_) (fun e => ?_)
  · rw [if_pos (of_decide_eq_true e)] at hK
    refine jx_ld (i := .iload_n 1) (len := 1) (st' := [.int b]) (by decide) (by decide +kernel) rfl rfl rfl rfl ?_
    exact jx_iret .int (by decide) (by decide +kernel) (by decide +kernel) rfl hK
  · rw [if_neg (of_decide_eq_false e)] at hK
    refine jx_ld (i := .iload_n 0) (len := 1) (st' := [.int a]) (by decide) (by decide +kernel) rfl rfl rfl rfl ?_
    refine jx_goto (off := 4) (b := 10) (by decide) (by decide +kernel) (by decide) ?_
    exact jx_iret .int (by decide) (by decide +kernel) (by decide +kernel) rfl hK
theorem sb_min {a b : Int32} (hK : K (some (.int (if a > b then b else a))) h) : jE 181 0 [some (.int a), some (.int b)] [] h K := by
  refine jx_ld (i := .iload_n 0) (len := 1) (st' := [.int a]) (by decide) (by decide +kernel) rfl rfl rfl rfl ?_
  refine jx_ld (i := .iload_n 1) (len := 1) (st' := [.int b, .int a]) (by decide) (by decide +kernel) rfl rfl rfl rfl ?_
  refine jx_icmp (c := .gt) (off := 7) (b := 9) (by decide) (by decide +kernel) (by decide) (fun e => ?_) (fun e => ?_)
  · rw [if_pos (of_decide_eq_true e)] at hK
    refine jx_ld (i := .iload_n 1) (len := 1) (st' := [.int b]) (by decide) (by decide +kernel) rfl rfl rfl rfl ?_
    exact jx_iret .int (by decide) (by decide +kernel) (by decide +kernel) rfl hK
  · rw [if_neg (of_decide_eq_false e)] at hK
    refine jx_ld (i := .iload_n 0) (len := 1) (st' := [.int a]) (by decide) (by decide +kernel) rfl rfl rfl rfl ?_
    refine jx_goto (off := 4) (b := 10) (by decide) (by decide +kernel) (by decide) ?_
    exact jx_iret .int (by decide) (by decide +kernel) (by decide +kernel) rfl hK
end SB2
