def jv_hl100 : List Nat := [256, 258, 260]
theorem jv_lay0 : (List.range (jv_fn 0)).all (fun k => jv_in (jv_hl100.getD k 0) (u_lay (jv_own 0) (jv_fT 0) k)) = true := by decide +kernel
def jv_hl101 : List Nat := [333, 335, 337]
theorem jv_lay1 : (List.range (jv_fn 1)).all (fun k => jv_in (jv_hl101.getD k 0) (u_lay (jv_own 1) (jv_fT 1) k)) = true := by decide +kernel
def jv_hl102 : List Nat := [206, 208, 210, 212, 214, 216]
theorem jv_lay2 : (List.range (jv_fn 2)).all (fun k => jv_in (jv_hl102.getD k 0) (u_lay (jv_own 2) (jv_fT 2) k)) = true := by decide +kernel
def jv_hl103 : List Nat := [230, 232, 234]
theorem jv_lay3 : (List.range (jv_fn 3)).all (fun k => jv_in (jv_hl103.getD k 0) (u_lay (jv_own 3) (jv_fT 3) k)) = true := by decide +kernel
def jv_hl104 : List Nat := [117, 119]
theorem jv_lay4 : (List.range (jv_fn 4)).all (fun k => jv_in (jv_hl104.getD k 0) (u_lay (jv_own 4) (jv_fT 4) k)) = true := by decide +kernel
def jv_hl105 : List Nat := [291, 293, 295, 297, 299, 301, 303, 305, 307, 309, 311, 313, 315]
theorem jv_lay5 : (List.range (jv_fn 5)).all (fun k => jv_in (jv_hl105.getD k 0) (u_lay (jv_own 5) (jv_fT 5) k)) = true := by decide +kernel
def jv_hl106 : List Nat := [177, 179, 181, 183, 185, 187, 189, 191, 193, 195]
theorem jv_lay6 : (List.range (jv_fn 6)).all (fun k => jv_in (jv_hl106.getD k 0) (u_lay (jv_own 6) (jv_fT 6) k)) = true := by decide +kernel
def jv_hl107 : List Nat := [351, 353, 355, 357, 359, 361, 363, 365, 367, 369]
theorem jv_lay7 : (List.range (jv_fn 7)).all (fun k => jv_in (jv_hl107.getD k 0) (u_lay (jv_own 7) (jv_fT 7) k)) = true := by decide +kernel
def jv_hl108 : List Nat := [1071, 1073, 1075, 1077, 1079, 1081, 1083, 1085, 1087, 1089, 1091, 1093, 1095, 1097, 1099, 1101, 1103, 1105]
theorem jv_lay8 : (List.range (jv_fn 8)).all (fun k => jv_in (jv_hl108.getD k 0) (u_lay (jv_own 8) (jv_fT 8) k)) = true := by decide +kernel
theorem jv_ws_in (c : Nat) (h : c < 9) : ∀ w ∈ u_ws (jv_own c) (jv_fT c) (jv_fn c), w ∈ jv_T := by
  intro w hw
  obtain ⟨k, hk, rfl⟩ := List.mem_map.mp hw
  match c, h with
  | 0, _ => exact jv_in_ok (List.all_eq_true.mp jv_lay0 k hk)
  | 1, _ => exact jv_in_ok (List.all_eq_true.mp jv_lay1 k hk)
  | 2, _ => exact jv_in_ok (List.all_eq_true.mp jv_lay2 k hk)
  | 3, _ => exact jv_in_ok (List.all_eq_true.mp jv_lay3 k hk)
  | 4, _ => exact jv_in_ok (List.all_eq_true.mp jv_lay4 k hk)
  | 5, _ => exact jv_in_ok (List.all_eq_true.mp jv_lay5 k hk)
  | 6, _ => exact jv_in_ok (List.all_eq_true.mp jv_lay6 k hk)
  | 7, _ => exact jv_in_ok (List.all_eq_true.mp jv_lay7 k hk)
  | 8, _ => exact jv_in_ok (List.all_eq_true.mp jv_lay8 k hk)
  | c + 9, h => omega
