theorem jv_ty_ok (c : Nat) (h : c < 9) : ∀ k, k < jv_fn c → parseFieldDescriptor (jv_fT c k).2.2.1 = some (jv_fty c k) := by
  match c, h with
  | 0, _ => exact tyX0_ok
  | 1, _ => exact tyX1_ok
  | 2, _ => exact tyX2_ok
  | 3, _ => exact tyX3_ok
  | 4, _ => exact tyX4_ok
  | 5, _ => exact tyX5_ok
  | 6, _ => exact tyX6_ok
  | 7, _ => exact tyX7_ok
  | 8, _ => exact tyX8_ok
  | c + 9, h => omega
theorem jv_nm_ok (c : Nat) (h : c < 9) : ∀ a, a < jv_fn c → ∀ b, b < jv_fn c → a ≠ b → (jv_fT c a).2.1 ≠ (jv_fT c b).2.1 := by
  match c, h with
  | 0, _ => exact nmX0
  | 1, _ => exact nmX1
  | 2, _ => exact nmX2
  | 3, _ => exact nmX3
  | 4, _ => exact nmX4
  | 5, _ => exact nmX5
  | 6, _ => exact nmX6
  | 7, _ => exact nmX7
  | 8, _ => exact nmX8
  | c + 9, h => omega
