theorem jv_dcl_ok : ∀ c, c < 9 → ∀ k, k < jv_fn c → (jv_fT c k).1 = jv_own c := by decide +kernel
theorem jv_inst_ok : ∀ c, c < 9 → jv_in (([247, 322, 102, 220, 108, 238, 124, 94, 1049] : List Nat).getD c 0) (.instantiable (jv_own c) (jv_fn c)) = true ∧ jv_in (([85, 86, 80, 83, 81, 84, 82, 79, 87] : List Nat).getD c 0) (.initialized (jv_own c)) = true := by decide +kernel
theorem jv_arrI : jv_in 122 (.arrayClass .int) = true := by decide +kernel
theorem jv_arrZ : jv_in 340 (.arrayClass .boolean) = true := by decide +kernel
theorem jv_arrT6 : Cond.arrayOver (.object "SeatSwap$Traveller") ∈ lw_tbl := List.mem_of_getElem? (i := 244) (by decide +kernel)
theorem jv_arrT5 : Cond.arrayOver (.object "SeatSwap$Train") ∈ lw_tbl := List.mem_of_getElem? (i := 320) (by decide +kernel)
theorem jv_obI : jv_in 99 (.instanceMethod Lib.objectInit) = true := by decide +kernel
theorem jv_obC : jv_in 100 (.code Lib.objectInit ⟨#[0xb1]⟩ 1 none) = true := by decide +kernel

