theorem jv_kc0 : (jv_cal0).all (jv_ckc1 0) = true := by decide +kernel
theorem jv_kc1 : (jv_cal1).all (jv_ckc1 1) = true := by decide +kernel
theorem jv_kc2 : (jv_cal2).all (jv_ckc1 2) = true := by decide +kernel
theorem jv_kc3 : (jv_cal3).all (jv_ckc1 3) = true := by decide +kernel
theorem jv_kc4 : (jv_cal4).all (jv_ckc1 4) = true := by decide +kernel
theorem jv_kc5 : (jv_cal5).all (jv_ckc1 5) = true := by decide +kernel
theorem jv_kc6 : (jv_cal6).all (jv_ckc1 6) = true := by decide +kernel
theorem jv_kc7 : (jv_cal7).all (jv_ckc1 7) = true := by decide +kernel
theorem jv_kc8 : (jv_cal8).all (jv_ckc1 8) = true := by decide +kernel
theorem jv_kc9 : (jv_cal9).all (jv_ckc1 9) = true := by decide +kernel
theorem jv_kc10 : (jv_cal10).all (jv_ckc1 10) = true := by decide +kernel
theorem jv_ckc_ok {ow i : Nat} {v : Nat × Nat × Nat} (h : jv_cal ow i = some v) : jv_ckc1 ow (i, v) = true := by
  unfold jv_cal at h
  split at h
  · cases h
  · rename_i a ha
    have hm := jv_as_mem a h
    match ow, ha with
    | 0, ha => cases ha; exact List.all_eq_true.mp jv_kc0 _ hm
    | 1, ha => cases ha; exact List.all_eq_true.mp jv_kc1 _ hm
    | 2, ha => cases ha; exact List.all_eq_true.mp jv_kc2 _ hm
    | 3, ha => cases ha; exact List.all_eq_true.mp jv_kc3 _ hm
    | 4, ha => cases ha; exact List.all_eq_true.mp jv_kc4 _ hm
    | 5, ha => cases ha; exact List.all_eq_true.mp jv_kc5 _ hm
    | 6, ha => cases ha; exact List.all_eq_true.mp jv_kc6 _ hm
    | 7, ha => cases ha; exact List.all_eq_true.mp jv_kc7 _ hm
    | 8, ha => cases ha; exact List.all_eq_true.mp jv_kc8 _ hm
    | 9, ha => cases ha; exact List.all_eq_true.mp jv_kc9 _ hm
    | 10, ha => cases ha; exact List.all_eq_true.mp jv_kc10 _ hm
    | ow + 11, ha => rw [show jv_nth jv_cals (ow + 11) = jv_nth ([] : List (List (Nat × Nat × Nat × Nat))) ow from rfl, jv_nil] at ha; cases ha
