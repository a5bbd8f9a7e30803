theorem jv_kn0 : (jv_new0).all (jv_ckn1 0) = true := by decide +kernel
theorem jv_kn1 : (jv_new1).all (jv_ckn1 1) = true := by decide +kernel
theorem jv_kn2 : (jv_new2).all (jv_ckn1 2) = true := by decide +kernel
theorem jv_kn3 : (jv_new3).all (jv_ckn1 3) = true := by decide +kernel
theorem jv_kn4 : (jv_new4).all (jv_ckn1 4) = true := by decide +kernel
theorem jv_kn5 : (jv_new5).all (jv_ckn1 5) = true := by decide +kernel
theorem jv_kn6 : (jv_new6).all (jv_ckn1 6) = true := by decide +kernel
theorem jv_kn7 : (jv_new7).all (jv_ckn1 7) = true := by decide +kernel
theorem jv_kn8 : (jv_new8).all (jv_ckn1 8) = true := by decide +kernel
theorem jv_kn9 : (jv_new9).all (jv_ckn1 9) = true := by decide +kernel
theorem jv_kn10 : (jv_new10).all (jv_ckn1 10) = true := by decide +kernel
theorem jv_ckn_ok {ow i : Nat} {v : Nat} (h : jv_new ow i = some v) : jv_ckn1 ow (i, v) = true := by
  unfold jv_new at h
  split at h
  · cases h
  · rename_i a ha
    have hm := jv_as_mem a h
    match ow, ha with
    | 0, ha => cases ha; exact List.all_eq_true.mp jv_kn0 _ hm
    | 1, ha => cases ha; exact List.all_eq_true.mp jv_kn1 _ hm
    | 2, ha => cases ha; exact List.all_eq_true.mp jv_kn2 _ hm
    | 3, ha => cases ha; exact List.all_eq_true.mp jv_kn3 _ hm
    | 4, ha => cases ha; exact List.all_eq_true.mp jv_kn4 _ hm
    | 5, ha => cases ha; exact List.all_eq_true.mp jv_kn5 _ hm
    | 6, ha => cases ha; exact List.all_eq_true.mp jv_kn6 _ hm
    | 7, ha => cases ha; exact List.all_eq_true.mp jv_kn7 _ hm
    | 8, ha => cases ha; exact List.all_eq_true.mp jv_kn8 _ hm
    | 9, ha => cases ha; exact List.all_eq_true.mp jv_kn9 _ hm
    | 10, ha => cases ha; exact List.all_eq_true.mp jv_kn10 _ hm
    | ow + 11, ha => rw [show jv_nth jv_news (ow + 11) = jv_nth ([] : List (List (Nat × Nat))) ow from rfl, jv_nil] at ha; cases ha
