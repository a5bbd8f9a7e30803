/-! THE START: what the Statement gives of it, as the J machine's knowledge -/
def jv_flat : List Cond := flatC (Jvm.Cond.and given_1 narrow_1)
def jv_tm (i : Nat) : Term := Term.string (jv_str.getD i ("", 0, "")).1 (jv_str.getD i ("", 0, "")).2.1
theorem jv_fl1 : ∀ i, i < 20 → Cond.exactly (jv_tm i) "java/lang/String" ∈ jv_flat := by decide +kernel
theorem jv_fl2 : ∀ i, i < 20 → Cond.eq (.field (jv_tm i) "java/lang/String" "coder" "B") (.int 0) ∈ jv_flat := by decide +kernel
theorem jv_fl3 : ∀ i, i < 20 → Cond.arrayOf (.field (jv_tm i) "java/lang/String" "value" "[B") .byte ∈ jv_flat := by decide +kernel
theorem jv_fl4 : ∀ i, i < 20 → Cond.eq (.length (.field (jv_tm i) "java/lang/String" "value" "[B")) (.int (Int32.ofNat (jv_lens.getD i 0))) ∈ jv_flat := by decide +kernel
theorem jv_fl5 : ∀ i, i < 20 → ∀ j, j < jv_lens.getD i 0 → Cond.eq (.elem (.field (jv_tm i) "java/lang/String" "value" "[B") (.int (Int32.ofNat j))) (.int ((jv_byt.getD i []).getD j 0)) ∈ jv_flat := by decide +kernel
def jv_fp : List (List Nat) := [[0, 27, 36, 48, 61, 75, 89, 102, 119, 135, 154, 175, 195, 218, 243, 269, 295, 320, 349, 377],
  [27, 0, 37, 49, 62, 76, 90, 103, 120, 136, 155, 176, 196, 219, 244, 270, 296, 321, 350, 378],
  [36, 37, 0, 50, 63, 77, 91, 104, 121, 137, 156, 177, 197, 220, 245, 271, 297, 322, 351, 379],
  [48, 49, 50, 0, 64, 78, 92, 105, 122, 138, 157, 178, 198, 221, 246, 272, 298, 323, 352, 380],
  [61, 62, 63, 64, 0, 79, 93, 106, 123, 139, 158, 179, 199, 222, 247, 273, 299, 324, 353, 381],
  [75, 76, 77, 78, 79, 0, 94, 107, 124, 140, 159, 180, 200, 223, 248, 274, 300, 325, 354, 382],
  [89, 90, 91, 92, 93, 94, 0, 108, 125, 141, 160, 181, 201, 224, 249, 275, 301, 326, 355, 383],
  [102, 103, 104, 105, 106, 107, 108, 0, 126, 142, 161, 182, 202, 225, 250, 276, 302, 327, 356, 384],
  [119, 120, 121, 122, 123, 124, 125, 126, 0, 143, 162, 183, 203, 226, 251, 277, 303, 328, 357, 385],
  [135, 136, 137, 138, 139, 140, 141, 142, 143, 0, 163, 184, 204, 227, 252, 278, 304, 329, 358, 386],
  [154, 155, 156, 157, 158, 159, 160, 161, 162, 163, 0, 185, 205, 228, 253, 279, 305, 330, 359, 387],
  [175, 176, 177, 178, 179, 180, 181, 182, 183, 184, 185, 0, 206, 229, 254, 280, 306, 331, 360, 388],
  [195, 196, 197, 198, 199, 200, 201, 202, 203, 204, 205, 206, 0, 230, 255, 281, 307, 332, 361, 389],
  [218, 219, 220, 221, 222, 223, 224, 225, 226, 227, 228, 229, 230, 0, 256, 282, 308, 333, 362, 390],
  [243, 244, 245, 246, 247, 248, 249, 250, 251, 252, 253, 254, 255, 256, 0, 283, 309, 334, 363, 391],
  [269, 270, 271, 272, 273, 274, 275, 276, 277, 278, 279, 280, 281, 282, 283, 0, 310, 335, 364, 392],
  [295, 296, 297, 298, 299, 300, 301, 302, 303, 304, 305, 306, 307, 308, 309, 310, 0, 336, 365, 393],
  [320, 321, 322, 323, 324, 325, 326, 327, 328, 329, 330, 331, 332, 333, 334, 335, 336, 0, 366, 394],
  [349, 350, 351, 352, 353, 354, 355, 356, 357, 358, 359, 360, 361, 362, 363, 364, 365, 366, 0, 395],
  [377, 378, 379, 380, 381, 382, 383, 384, 385, 386, 387, 388, 389, 390, 391, 392, 393, 394, 395, 0]]
theorem jv_fl6_0 : ∀ j, j < 20 → 0 ≠ j → jv_flat[(jv_fp.getD 0 []).getD j 0]? = some (Cond.not (Cond.eq (jv_tm 0) (jv_tm j))) ∨ jv_flat[(jv_fp.getD 0 []).getD j 0]? = some (Cond.not (Cond.eq (jv_tm j) (jv_tm 0))) := by decide +kernel
theorem jv_fl6_1 : ∀ j, j < 20 → 1 ≠ j → jv_flat[(jv_fp.getD 1 []).getD j 0]? = some (Cond.not (Cond.eq (jv_tm 1) (jv_tm j))) ∨ jv_flat[(jv_fp.getD 1 []).getD j 0]? = some (Cond.not (Cond.eq (jv_tm j) (jv_tm 1))) := by decide +kernel
theorem jv_fl6_2 : ∀ j, j < 20 → 2 ≠ j → jv_flat[(jv_fp.getD 2 []).getD j 0]? = some (Cond.not (Cond.eq (jv_tm 2) (jv_tm j))) ∨ jv_flat[(jv_fp.getD 2 []).getD j 0]? = some (Cond.not (Cond.eq (jv_tm j) (jv_tm 2))) := by decide +kernel
theorem jv_fl6_3 : ∀ j, j < 20 → 3 ≠ j → jv_flat[(jv_fp.getD 3 []).getD j 0]? = some (Cond.not (Cond.eq (jv_tm 3) (jv_tm j))) ∨ jv_flat[(jv_fp.getD 3 []).getD j 0]? = some (Cond.not (Cond.eq (jv_tm j) (jv_tm 3))) := by decide +kernel
theorem jv_fl6_4 : ∀ j, j < 20 → 4 ≠ j → jv_flat[(jv_fp.getD 4 []).getD j 0]? = some (Cond.not (Cond.eq (jv_tm 4) (jv_tm j))) ∨ jv_flat[(jv_fp.getD 4 []).getD j 0]? = some (Cond.not (Cond.eq (jv_tm j) (jv_tm 4))) := by decide +kernel
theorem jv_fl6_5 : ∀ j, j < 20 → 5 ≠ j → jv_flat[(jv_fp.getD 5 []).getD j 0]? = some (Cond.not (Cond.eq (jv_tm 5) (jv_tm j))) ∨ jv_flat[(jv_fp.getD 5 []).getD j 0]? = some (Cond.not (Cond.eq (jv_tm j) (jv_tm 5))) := by decide +kernel
theorem jv_fl6_6 : ∀ j, j < 20 → 6 ≠ j → jv_flat[(jv_fp.getD 6 []).getD j 0]? = some (Cond.not (Cond.eq (jv_tm 6) (jv_tm j))) ∨ jv_flat[(jv_fp.getD 6 []).getD j 0]? = some (Cond.not (Cond.eq (jv_tm j) (jv_tm 6))) := by decide +kernel
theorem jv_fl6_7 : ∀ j, j < 20 → 7 ≠ j → jv_flat[(jv_fp.getD 7 []).getD j 0]? = some (Cond.not (Cond.eq (jv_tm 7) (jv_tm j))) ∨ jv_flat[(jv_fp.getD 7 []).getD j 0]? = some (Cond.not (Cond.eq (jv_tm j) (jv_tm 7))) := by decide +kernel
theorem jv_fl6_8 : ∀ j, j < 20 → 8 ≠ j → jv_flat[(jv_fp.getD 8 []).getD j 0]? = some (Cond.not (Cond.eq (jv_tm 8) (jv_tm j))) ∨ jv_flat[(jv_fp.getD 8 []).getD j 0]? = some (Cond.not (Cond.eq (jv_tm j) (jv_tm 8))) := by decide +kernel
theorem jv_fl6_9 : ∀ j, j < 20 → 9 ≠ j → jv_flat[(jv_fp.getD 9 []).getD j 0]? = some (Cond.not (Cond.eq (jv_tm 9) (jv_tm j))) ∨ jv_flat[(jv_fp.getD 9 []).getD j 0]? = some (Cond.not (Cond.eq (jv_tm j) (jv_tm 9))) := by decide +kernel
theorem jv_fl6_10 : ∀ j, j < 20 → 10 ≠ j → jv_flat[(jv_fp.getD 10 []).getD j 0]? = some (Cond.not (Cond.eq (jv_tm 10) (jv_tm j))) ∨ jv_flat[(jv_fp.getD 10 []).getD j 0]? = some (Cond.not (Cond.eq (jv_tm j) (jv_tm 10))) := by decide +kernel
theorem jv_fl6_11 : ∀ j, j < 20 → 11 ≠ j → jv_flat[(jv_fp.getD 11 []).getD j 0]? = some (Cond.not (Cond.eq (jv_tm 11) (jv_tm j))) ∨ jv_flat[(jv_fp.getD 11 []).getD j 0]? = some (Cond.not (Cond.eq (jv_tm j) (jv_tm 11))) := by decide +kernel
