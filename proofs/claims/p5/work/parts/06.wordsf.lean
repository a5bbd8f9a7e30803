def jv_ckf1 (ow : Nat) (q : Nat × Nat × Nat) : Bool := decide (q.2.1 < 9 ∧ q.2.2 < jv_fn q.2.1) && jv_in (jv_hf ow q.1) (.fieldLink (jv_own ow) q.1 (jv_fT q.2.1 q.2.2).1 (jv_fT q.2.1 q.2.2).2.1 (jv_fT q.2.1 q.2.2).2.2.1)
def jv_ckc1 (ow : Nat) (q : Nat × Nat × Nat × Nat) : Bool :=
  if q.2.1 = 900 then jv_in (jv_hc ow q.1) (.methodLink (jv_own ow) q.1 Lib.objectInit)
  else if q.2.1 = 901 then jv_in (jv_hc ow q.1) (.methodLink (jv_own ow) q.1 yJ0_length_8abf5)
  else if q.2.1 = 902 then jv_in (jv_hc ow q.1) (.methodLink (jv_own ow) q.1 yJ0_charAt_5068e)
  else match jv_inf q.2.1 with
  | some (_, _, na, _) => decide (na = q.2.2.1 ∧ q.2.1 < 271) && (if q.2.2.2 = 0 then jv_in (jv_hc ow q.1) (.methodLink (jv_own ow) q.1 (jv_ym q.2.1).1) else decide (Cond.methodLinkNest (jv_own ow) q.1 (jv_ym q.2.1).1 "SeatSwap" ∈ jv_nests))
  | none => false
def jv_ckn1 (ow : Nat) (q : Nat × Nat) : Bool := decide (q.2 < 9) && jv_in (jv_hn ow q.1) (.classLink (jv_own ow) q.1 (jv_own q.2))
def jv_ckl1 (ow : Nat) (q : Nat × Value) : Bool := match q.2 with
  | .int v => jv_in (jv_hl ow q.1) (.constant (jv_own ow) q.1 v)
  | .ref a => match jv_tix a with
    | some i => match jv_str[i]? with
      | some (own, idx, _) => decide (own = jv_own ow ∧ idx = q.1)
      | none => false
    | none => false
  | _ => false
theorem jv_kf0 : (jv_fld0).all (jv_ckf1 0) = true := by decide +kernel
theorem jv_kf1 : (jv_fld1).all (jv_ckf1 1) = true := by decide +kernel
theorem jv_kf2 : (jv_fld2).all (jv_ckf1 2) = true := by decide +kernel
theorem jv_kf3 : (jv_fld3).all (jv_ckf1 3) = true := by decide +kernel
theorem jv_kf4 : (jv_fld4).all (jv_ckf1 4) = true := by decide +kernel
