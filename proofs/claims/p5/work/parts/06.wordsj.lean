theorem jv_kl0 : (jv_ldc0).all (jv_ckl1 0) = true := by decide +kernel
theorem jv_kl1 : (jv_ldc1).all (jv_ckl1 1) = true := by decide +kernel
theorem jv_kl2 : (jv_ldc2).all (jv_ckl1 2) = true := by decide +kernel
theorem jv_kl3 : (jv_ldc3).all (jv_ckl1 3) = true := by decide +kernel
theorem jv_kl4 : (jv_ldc4).all (jv_ckl1 4) = true := by decide +kernel
theorem jv_kl5 : (jv_ldc5).all (jv_ckl1 5) = true := by decide +kernel
theorem jv_kl6 : (jv_ldc6).all (jv_ckl1 6) = true := by decide +kernel
theorem jv_kl7 : (jv_ldc7).all (jv_ckl1 7) = true := by decide +kernel
theorem jv_kl8 : (jv_ldc8).all (jv_ckl1 8) = true := by decide +kernel
theorem jv_kl9 : (jv_ldc9).all (jv_ckl1 9) = true := by decide +kernel
theorem jv_kl10 : (jv_ldc10).all (jv_ckl1 10) = true := by decide +kernel
theorem jv_ckl_ok {ow i : Nat} {v : Value} (h : jv_ldc ow i = some v) : jv_ckl1 ow (i, v) = true := by
  unfold jv_ldc at h
  split at h
  · cases h
  · rename_i a ha
    have hm := jv_as_mem a h
    match ow, ha with
    | 0, ha => cases ha; exact List.all_eq_true.mp jv_kl0 _ hm
    | 1, ha => cases ha; exact List.all_eq_true.mp jv_kl1 _ hm
    | 2, ha => cases ha; exact List.all_eq_true.mp jv_kl2 _ hm
    | 3, ha => cases ha; exact List.all_eq_true.mp jv_kl3 _ hm
    | 4, ha => cases ha; exact List.all_eq_true.mp jv_kl4 _ hm
    | 5, ha => cases ha; exact List.all_eq_true.mp jv_kl5 _ hm
    | 6, ha => cases ha; exact List.all_eq_true.mp jv_kl6 _ hm
    | 7, ha => cases ha; exact List.all_eq_true.mp jv_kl7 _ hm
    | 8, ha => cases ha; exact List.all_eq_true.mp jv_kl8 _ hm
    | 9, ha => cases ha; exact List.all_eq_true.mp jv_kl9 _ hm
    | 10, ha => cases ha; exact List.all_eq_true.mp jv_kl10 _ hm
    | ow + 11, ha => rw [show jv_nth jv_ldcs (ow + 11) = jv_nth ([] : List (List (Nat × Value))) ow from rfl, jv_nil] at ha; cases ha
