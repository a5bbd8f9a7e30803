/-! THE START: what the Statement gives of it, as the J machine's knowledge -/
def jv_flat : List Cond := flatC (Jvm.Cond.and given_1 narrow_1)
def jv_tm (i : Nat) : Term := Term.string (jv_str.getD i ("", 0, "")).1 (jv_str.getD i ("", 0, "")).2.1
def jv_pf : List Nat := [9, 18, 28, 38, 51, 65, 80, 95, 109, 127, 144, 164, 186, 207, 231, 257, 284, 311, 337, 367]
theorem jv_fm1 : ∀ i, i < 20 → jv_flat[jv_pf.getD i 0]? = some (Cond.exactly (jv_tm i) "java/lang/String") := by decide +kernel
theorem jv_fl1 : ∀ i, i < 20 → Cond.exactly (jv_tm i) "java/lang/String" ∈ jv_flat := fun i hi => List.mem_of_getElem? (jv_fm1 i hi)
theorem jv_fm2 : ∀ i, i < 20 → jv_flat[jv_pf.getD i 0 + 1]? = some (Cond.eq (.field (jv_tm i) "java/lang/String" "coder" "B") (.int 0)) := by decide +kernel
theorem jv_fl2 : ∀ i, i < 20 → Cond.eq (.field (jv_tm i) "java/lang/String" "coder" "B") (.int 0) ∈ jv_flat := fun i hi => List.mem_of_getElem? (jv_fm2 i hi)
theorem jv_fm3 : ∀ i, i < 20 → jv_flat[jv_pf.getD i 0 + 2]? = some (Cond.arrayOf (.field (jv_tm i) "java/lang/String" "value" "[B") .byte) := by decide +kernel
theorem jv_fl3 : ∀ i, i < 20 → Cond.arrayOf (.field (jv_tm i) "java/lang/String" "value" "[B") .byte ∈ jv_flat := fun i hi => List.mem_of_getElem? (jv_fm3 i hi)
theorem jv_fm4 : ∀ i, i < 20 → jv_flat[jv_pf.getD i 0 + 3]? = some (Cond.eq (.length (.field (jv_tm i) "java/lang/String" "value" "[B")) (.int (Int32.ofNat (jv_lens.getD i 0)))) := by decide +kernel
theorem jv_fl4 : ∀ i, i < 20 → Cond.eq (.length (.field (jv_tm i) "java/lang/String" "value" "[B")) (.int (Int32.ofNat (jv_lens.getD i 0))) ∈ jv_flat := fun i hi => List.mem_of_getElem? (jv_fm4 i hi)
theorem jv_fm5 : ∀ i, i < 20 → ∀ j, j < jv_lens.getD i 0 → jv_flat[jv_pf.getD i 0 + 4 + j]? = some (Cond.eq (.elem (.field (jv_tm i) "java/lang/String" "value" "[B") (.int (Int32.ofNat j))) (.int ((jv_byt.getD i []).getD j 0))) := by decide +kernel
theorem jv_fl5 : ∀ i, i < 20 → ∀ j, j < jv_lens.getD i 0 → Cond.eq (.elem (.field (jv_tm i) "java/lang/String" "value" "[B") (.int (Int32.ofNat j))) (.int ((jv_byt.getD i []).getD j 0)) ∈ jv_flat := fun i hi j hj => List.mem_of_getElem? (jv_fm5 i hi j hj)
def jv_fp : List (List Nat) := [[0, 27, 36, 48, 61, 75, 89, 102, 119, 135, 154, 175, 195, 218, 243, 269, 295, 320, 349, 377],
  [27, 0, 37, 49, 62, 76, 90, 103, 120, 136, 155, 176, 196, 219, 244, 270, 296, 321, 350, 378],
  [36, 37, 0, 50, 63, 77, 91, 104, 121, 137, 156, 177, 197, 220, 245, 271, 297, 322, 351, 379],
  [48, 49, 50, 0, 64, 78, 92, 105, 122, 138, 157, 178, 198, 221, 246, 272, 298, 323, 352, 380],
  [61, 62, 63, 64, 0, 79, 93, 106, 123, 139, 158, 179, 199, 222, 247, 273, 299, 324, 353, 381],
  [75, 76, 77, 78, 79, 0, 94, 107, 124, 140, 159, 180, 200, 223, 248, 274, 300, 325, 354, 382],
  [89, 90, 91, 92, 93, 94, 0, 108, 125, 141, 160, 181, 201, 224, 249, 275, 301, 326, 355, 383],
  [102, 103, 104, 105, 106, 107, 108, 0, 126, 142, 161, 182, 202, 225, 250, 276, 302, 327, 356, 384],
  [119, 120, 121, 122, 123, 124, 125, 126, 0, 143, 162, 183, 203, 226, 251, 277, 303, 328, 357, 385],
  [135, 136, 137, 138, 139, 140, 141, 142, 143, 0, 163, 184, 204, 227, 252, 278, 304, 329, 358, 386],
  [154, 155, 156, 157, 158, 159, 160, 161, 162, 163, 0, 185, 205, 228, 253, 279, 305, 330, 359, 387],
  [175, 176, 177, 178, 179, 180, 181, 182, 183, 184, 185, 0, 206, 229, 254, 280, 306, 331, 360, 388],
  [195, 196, 197, 198, 199, 200, 201, 202, 203, 204, 205, 206, 0, 230, 255, 281, 307, 332, 361, 389],
  [218, 219, 220, 221, 222, 223, 224, 225, 226, 227, 228, 229, 230, 0, 256, 282, 308, 333, 362, 390],
  [243, 244, 245, 246, 247, 248, 249, 250, 251, 252, 253, 254, 255, 256, 0, 283, 309, 334, 363, 391],
  [269, 270, 271, 272, 273, 274, 275, 276, 277, 278, 279, 280, 281, 282, 283, 0, 310, 335, 364, 392],
  [295, 296, 297, 298, 299, 300, 301, 302, 303, 304, 305, 306, 307, 308, 309, 310, 0, 336, 365, 393],
  [320, 321, 322, 323, 324, 325, 326, 327, 328, 329, 330, 331, 332, 333, 334, 335, 336, 0, 366, 394],
  [349, 350, 351, 352, 353, 354, 355, 356, 357, 358, 359, 360, 361, 362, 363, 364, 365, 366, 0, 395],
  [377, 378, 379, 380, 381, 382, 383, 384, 385, 386, 387, 388, 389, 390, 391, 392, 393, 394, 395, 0]]
theorem jv_fl6_0 : ∀ j, j < 20 → 0 ≠ j → jv_flat[(jv_fp.getD 0 []).getD j 0]? = some (Cond.not (Cond.eq (jv_tm 0) (jv_tm j))) ∨ jv_flat[(jv_fp.getD 0 []).getD j 0]? = some (Cond.not (Cond.eq (jv_tm j) (jv_tm 0))) := by decide +kernel
theorem jv_fl6_1 : ∀ j, j < 20 → 1 ≠ j → jv_flat[(jv_fp.getD 1 []).getD j 0]? = some (Cond.not (Cond.eq (jv_tm 1) (jv_tm j))) ∨ jv_flat[(jv_fp.getD 1 []).getD j 0]? = some (Cond.not (Cond.eq (jv_tm j) (jv_tm 1))) := by decide +kernel
theorem jv_fl6_2 : ∀ j, j < 20 → 2 ≠ j → jv_flat[(jv_fp.getD 2 []).getD j 0]? = some (Cond.not (Cond.eq (jv_tm 2) (jv_tm j))) ∨ jv_flat[(jv_fp.getD 2 []).getD j 0]? = some (Cond.not (Cond.eq (jv_tm j) (jv_tm 2))) := by decide +kernel
theorem jv_fl6_3 : ∀ j, j < 20 → 3 ≠ j → jv_flat[(jv_fp.getD 3 []).getD j 0]? = some (Cond.not (Cond.eq (jv_tm 3) (jv_tm j))) ∨ jv_flat[(jv_fp.getD 3 []).getD j 0]? = some (Cond.not (Cond.eq (jv_tm j) (jv_tm 3))) := by decide +kernel
theorem jv_fl6_4 : ∀ j, j < 20 → 4 ≠ j → jv_flat[(jv_fp.getD 4 []).getD j 0]? = some (Cond.not (Cond.eq (jv_tm 4) (jv_tm j))) ∨ jv_flat[(jv_fp.getD 4 []).getD j 0]? = some (Cond.not (Cond.eq (jv_tm j) (jv_tm 4))) := by decide +kernel
theorem jv_fl6_5 : ∀ j, j < 20 → 5 ≠ j → jv_flat[(jv_fp.getD 5 []).getD j 0]? = some (Cond.not (Cond.eq (jv_tm 5) (jv_tm j))) ∨ jv_flat[(jv_fp.getD 5 []).getD j 0]? = some (Cond.not (Cond.eq (jv_tm j) (jv_tm 5))) := by decide +kernel
theorem jv_fl6_6 : ∀ j, j < 20 → 6 ≠ j → jv_flat[(jv_fp.getD 6 []).getD j 0]? = some (Cond.not (Cond.eq (jv_tm 6) (jv_tm j))) ∨ jv_flat[(jv_fp.getD 6 []).getD j 0]? = some (Cond.not (Cond.eq (jv_tm j) (jv_tm 6))) := by decide +kernel
theorem jv_fl6_7 : ∀ j, j < 20 → 7 ≠ j → jv_flat[(jv_fp.getD 7 []).getD j 0]? = some (Cond.not (Cond.eq (jv_tm 7) (jv_tm j))) ∨ jv_flat[(jv_fp.getD 7 []).getD j 0]? = some (Cond.not (Cond.eq (jv_tm j) (jv_tm 7))) := by decide +kernel
theorem jv_fl6_8 : ∀ j, j < 20 → 8 ≠ j → jv_flat[(jv_fp.getD 8 []).getD j 0]? = some (Cond.not (Cond.eq (jv_tm 8) (jv_tm j))) ∨ jv_flat[(jv_fp.getD 8 []).getD j 0]? = some (Cond.not (Cond.eq (jv_tm j) (jv_tm 8))) := by decide +kernel
theorem jv_fl6_9 : ∀ j, j < 20 → 9 ≠ j → jv_flat[(jv_fp.getD 9 []).getD j 0]? = some (Cond.not (Cond.eq (jv_tm 9) (jv_tm j))) ∨ jv_flat[(jv_fp.getD 9 []).getD j 0]? = some (Cond.not (Cond.eq (jv_tm j) (jv_tm 9))) := by decide +kernel
theorem jv_fl6_10 : ∀ j, j < 20 → 10 ≠ j → jv_flat[(jv_fp.getD 10 []).getD j 0]? = some (Cond.not (Cond.eq (jv_tm 10) (jv_tm j))) ∨ jv_flat[(jv_fp.getD 10 []).getD j 0]? = some (Cond.not (Cond.eq (jv_tm j) (jv_tm 10))) := by decide +kernel
theorem jv_fl6_11 : ∀ j, j < 20 → 11 ≠ j → jv_flat[(jv_fp.getD 11 []).getD j 0]? = some (Cond.not (Cond.eq (jv_tm 11) (jv_tm j))) ∨ jv_flat[(jv_fp.getD 11 []).getD j 0]? = some (Cond.not (Cond.eq (jv_tm j) (jv_tm 11))) := by decide +kernel
theorem jv_fl6_12 : ∀ j, j < 20 → 12 ≠ j → jv_flat[(jv_fp.getD 12 []).getD j 0]? = some (Cond.not (Cond.eq (jv_tm 12) (jv_tm j))) ∨ jv_flat[(jv_fp.getD 12 []).getD j 0]? = some (Cond.not (Cond.eq (jv_tm j) (jv_tm 12))) := by decide +kernel
theorem jv_fl6_13 : ∀ j, j < 20 → 13 ≠ j → jv_flat[(jv_fp.getD 13 []).getD j 0]? = some (Cond.not (Cond.eq (jv_tm 13) (jv_tm j))) ∨ jv_flat[(jv_fp.getD 13 []).getD j 0]? = some (Cond.not (Cond.eq (jv_tm j) (jv_tm 13))) := by decide +kernel
theorem jv_fl6_14 : ∀ j, j < 20 → 14 ≠ j → jv_flat[(jv_fp.getD 14 []).getD j 0]? = some (Cond.not (Cond.eq (jv_tm 14) (jv_tm j))) ∨ jv_flat[(jv_fp.getD 14 []).getD j 0]? = some (Cond.not (Cond.eq (jv_tm j) (jv_tm 14))) := by decide +kernel
theorem jv_fl6_15 : ∀ j, j < 20 → 15 ≠ j → jv_flat[(jv_fp.getD 15 []).getD j 0]? = some (Cond.not (Cond.eq (jv_tm 15) (jv_tm j))) ∨ jv_flat[(jv_fp.getD 15 []).getD j 0]? = some (Cond.not (Cond.eq (jv_tm j) (jv_tm 15))) := by decide +kernel
theorem jv_fl6_16 : ∀ j, j < 20 → 16 ≠ j → jv_flat[(jv_fp.getD 16 []).getD j 0]? = some (Cond.not (Cond.eq (jv_tm 16) (jv_tm j))) ∨ jv_flat[(jv_fp.getD 16 []).getD j 0]? = some (Cond.not (Cond.eq (jv_tm j) (jv_tm 16))) := by decide +kernel
theorem jv_fl6_17 : ∀ j, j < 20 → 17 ≠ j → jv_flat[(jv_fp.getD 17 []).getD j 0]? = some (Cond.not (Cond.eq (jv_tm 17) (jv_tm j))) ∨ jv_flat[(jv_fp.getD 17 []).getD j 0]? = some (Cond.not (Cond.eq (jv_tm j) (jv_tm 17))) := by decide +kernel
theorem jv_fl6_18 : ∀ j, j < 20 → 18 ≠ j → jv_flat[(jv_fp.getD 18 []).getD j 0]? = some (Cond.not (Cond.eq (jv_tm 18) (jv_tm j))) ∨ jv_flat[(jv_fp.getD 18 []).getD j 0]? = some (Cond.not (Cond.eq (jv_tm j) (jv_tm 18))) := by decide +kernel
theorem jv_fl6_19 : ∀ j, j < 20 → 19 ≠ j → jv_flat[(jv_fp.getD 19 []).getD j 0]? = some (Cond.not (Cond.eq (jv_tm 19) (jv_tm j))) ∨ jv_flat[(jv_fp.getD 19 []).getD j 0]? = some (Cond.not (Cond.eq (jv_tm j) (jv_tm 19))) := by decide +kernel
theorem jv_fl6 : ∀ i, i < 20 → ∀ j, j < 20 → i ≠ j → Cond.not (Cond.eq (jv_tm i) (jv_tm j)) ∈ jv_flat ∨ Cond.not (Cond.eq (jv_tm j) (jv_tm i)) ∈ jv_flat := by
  intro i hi j hj hij
  match i, hi, hij with
  | 0, _, hij => exact (jv_fl6_0 j hj hij).imp List.mem_of_getElem? List.mem_of_getElem?
  | 1, _, hij => exact (jv_fl6_1 j hj hij).imp List.mem_of_getElem? List.mem_of_getElem?
  | 2, _, hij => exact (jv_fl6_2 j hj hij).imp List.mem_of_getElem? List.mem_of_getElem?
  | 3, _, hij => exact (jv_fl6_3 j hj hij).imp List.mem_of_getElem? List.mem_of_getElem?
  | 4, _, hij => exact (jv_fl6_4 j hj hij).imp List.mem_of_getElem? List.mem_of_getElem?
  | 5, _, hij => exact (jv_fl6_5 j hj hij).imp List.mem_of_getElem? List.mem_of_getElem?
  | 6, _, hij => exact (jv_fl6_6 j hj hij).imp List.mem_of_getElem? List.mem_of_getElem?
  | 7, _, hij => exact (jv_fl6_7 j hj hij).imp List.mem_of_getElem? List.mem_of_getElem?
  | 8, _, hij => exact (jv_fl6_8 j hj hij).imp List.mem_of_getElem? List.mem_of_getElem?
  | 9, _, hij => exact (jv_fl6_9 j hj hij).imp List.mem_of_getElem? List.mem_of_getElem?
  | 10, _, hij => exact (jv_fl6_10 j hj hij).imp List.mem_of_getElem? List.mem_of_getElem?
  | 11, _, hij => exact (jv_fl6_11 j hj hij).imp List.mem_of_getElem? List.mem_of_getElem?
  | 12, _, hij => exact (jv_fl6_12 j hj hij).imp List.mem_of_getElem? List.mem_of_getElem?
  | 13, _, hij => exact (jv_fl6_13 j hj hij).imp List.mem_of_getElem? List.mem_of_getElem?
  | 14, _, hij => exact (jv_fl6_14 j hj hij).imp List.mem_of_getElem? List.mem_of_getElem?
  | 15, _, hij => exact (jv_fl6_15 j hj hij).imp List.mem_of_getElem? List.mem_of_getElem?
  | 16, _, hij => exact (jv_fl6_16 j hj hij).imp List.mem_of_getElem? List.mem_of_getElem?
  | 17, _, hij => exact (jv_fl6_17 j hj hij).imp List.mem_of_getElem? List.mem_of_getElem?
  | 18, _, hij => exact (jv_fl6_18 j hj hij).imp List.mem_of_getElem? List.mem_of_getElem?
  | 19, _, hij => exact (jv_fl6_19 j hj hij).imp List.mem_of_getElem? List.mem_of_getElem?
  | i + 20, hi, _ => omega
theorem jv_fl7 : Cond.eq (.static "java/lang/String" "COMPACT_STRINGS" "Z") (.int 1) ∈ jv_flat := by decide +kernel
theorem jv_fl8 : Cond.isRef (.static "jdk/internal/util/Preconditions" "SIOOBE_FORMATTER" "Ljava/util/function/BiFunction;") ∈ jv_flat := by decide +kernel
theorem jv_tb1 : Cond.laysStatic "java/lang/String" "COMPACT_STRINGS" "Z" ∈ lw_tbl := by decide +kernel
theorem jv_tb2 : Cond.laysStatic "jdk/internal/util/Preconditions" "SIOOBE_FORMATTER" "Ljava/util/function/BiFunction;" ∈ lw_tbl := by decide +kernel
theorem jv_tb3 : ∀ i, i < 20 → Cond.stringRef (jv_str.getD i ("", 0, "")).1 (jv_str.getD i ("", 0, "")).2.1 (jv_str.getD i ("", 0, "")).2.2 ∈ lw_tbl := by decide +kernel
theorem jv_lens_lt : ∀ i, i < 20 → jv_lens.getD i 0 < 2 ^ 31 := by decide +kernel
set_option maxHeartbeats 4000000 in
set_option maxRecDepth 100000 in
theorem jv_begin {s : State} {b L : Nat} {xs : Nat → Int32} (hts : ∀ w ∈ lw_tbl, w.before #[Value.ref b] s = true) (hX : va_X b L xs s s.heap) (hbl : b < s.heap.size) (hgv : (Jvm.Cond.and given_1 narrow_1).before #[Value.ref b] s = true) :
    ∃ (D : va_G) (dA : Nat → ClassId) (adK adV : Nat → Nat), jv_Kn D dA (s.heap.size, b, adK) adV L xs s := by
  have hg : ∀ w ∈ jv_flat, w.before #[Value.ref b] s = true := flat_of_before _ hgv
  have hT : ∀ w ∈ jv_T, w.before #[Value.ref b] s = true := fun w hw => hts w (List.mem_filter.mp hw).1
  have hA : ∀ a : Nat, a < s.heap.size → ¬ (fun q : Nat => s.heap.size ≤ q) a := fun a h => Nat.not_le.mpr h
  have kn : ∀ c : Nat, c < 9 → ∃ (cC : ClassId) (iS : Nat → Nat), u_Kn s (jv_own c) (jv_fT c) (jv_fn c) cC iS := fun c h => u_known (n := jv_fn c) hT (jv_ws_in c h) (hT _ (jv_in_ok (jv_inst_ok c h).1))
  obtain ⟨c0, f0, -⟩ := kn 0 (by decide)
  have hcl : ∀ c : Nat, ∃ q : ClassId × (Nat → Nat), c < 9 → u_Kn s (jv_own c) (jv_fT c) (jv_fn c) q.1 q.2 := by
    intro c
    by_cases h : c < 9
    · obtain ⟨cC, iS, hk⟩ := kn c h
      exact ⟨(cC, iS), fun _ => hk⟩
    · exact ⟨(c0, f0), fun q => absurd q h⟩
  obtain ⟨F, hF⟩ := Classical.axiomOfChoice hcl
  obtain ⟨cI, kI, coI, i1, i2, i3⟩ := Cond.arrayClass_spec (args := #[Value.ref b]) (first := s) (o := none) (s := s) (idx := []) (hT _ (jv_in_ok jv_arrI))
  obtain ⟨cZ, kZ, coZ, z1, z2, z3⟩ := Cond.arrayClass_spec (args := #[Value.ref b]) (first := s) (o := none) (s := s) (idx := []) (hT _ (jv_in_ok jv_arrZ))
  obtain ⟨coT, cT, kT, t1, t2, t3, t4, t5⟩ := Cond.arrayOver_spec (args := #[Value.ref b]) (first := s) (o := none) (s := s) (idx := []) (hts _ jv_arrT6)
  obtain ⟨coR, cR, kR, r1, r2, r3, r4, r5⟩ := Cond.arrayOver_spec (args := #[Value.ref b]) (first := s) (o := none) (s := s) (idx := []) (hts _ jv_arrT5)
  obtain ⟨adK, adV, hS, hev⟩ := vk_Sof (args := #[Value.ref b]) (s := s) (N := 20) (tm := jv_tm) (len := jv_lens) (byt := jv_byt) (A := fun q => s.heap.size ≤ q) jv_lens_lt (fun i hi => hg _ (jv_fl1 i hi)) (fun i hi => hg _ (jv_fl2 i hi)) (fun i hi => hg _ (jv_fl3 i hi)) (fun i hi => hg _ (jv_fl4 i hi)) (fun i hi j hj => hg _ (jv_fl5 i hi j hj)) (fun i j hi hj hij => (jv_fl6 i hi j hj hij).imp (hg _) (hg _)) hA
  refine ⟨(fun c => (F c).1, fun c => (F c).2), fun k => match k with
    | 0 => cI
    | 1 => cZ
    | 2 => cT
    | _ => cR, adK, adV, ⟨?_, ?_⟩, hX, hbl, Nat.le_refl _, hS, ?_, va_AO.of (hts _ jv_arrT6), va_AO.of (hts _ jv_arrT5), ?_, ?_, ?_⟩
  · intro c q hq
    have hc9 : c < 9 := (List.getElem?_eq_some_iff.mp hq).1
    have hq2 := (jv_cls_ok c hc9).symm.trans hq
    cases hq2
    exact hF c hc9
  · intro k q hq
    match k, hq with
    | 0, hq => cases hq; exact ⟨fun n z => ⟨fun k h => (by cases h), kI, i2, coI, i3⟩, i1⟩
    | 1, hq => cases hq; exact ⟨fun n z => ⟨fun k h => (by cases h), kZ, z2, coZ, z3⟩, z1⟩
    | 2, hq => cases hq; exact ⟨fun n z => ⟨fun k h => (by cases h), kT, t3, coT, t4⟩, kT, coT, t3, t4, t1, t5⟩
    | 3, hq => cases hq; exact ⟨fun n z => ⟨fun k h => (by cases h), kR, r3, coR, r4⟩, kR, coR, r3, r4, r1, r5⟩
    | k + 4, hq => simp at hq
  · intro i q hq
    have hi : i < 20 := (List.getElem?_eq_some_iff.mp hq).1
    have hd : jv_str.getD i ("", 0, "") = q := by rw [List.getD_eq_getElem?_getD, hq]; rfl
    have h1 := hts _ (jv_tb3 i hi)
    have h2 := hev i hi
    unfold jv_tm at h2
    rw [hd] at h1 h2
    exact vk_R.of h1 h2
  · intro w hw
    have hw2 := hts w (jv_nests_in w hw)
    simp only [jv_nests, List.mem_cons, List.not_mem_nil, or_false] at hw
    rcases hw with rfl | rfl | rfl | rfl | rfl <;> exact va_Nw.of rfl hw2
  · exact va_Zof (hts _ jv_tb1) (hT _ jw_ini0) (va_eqi (hg _ jv_fl7)) hA
  · obtain ⟨v, hv, hr⟩ := Cond.isRef_spec (args := #[Value.ref b]) (first := s) (o := none) (s := s) (idx := []) (hg _ jv_fl8)
    refine ⟨v, ?_, va_Zof (hts _ jv_tb2) (hT _ jw_ini3) hv hA⟩
    cases v <;> first | exact Or.inl rfl | exact Or.inr ⟨_, rfl⟩ | cases hr
/-- the J machine's start -/
def jv_L0 : List (Option Value) := [some (.ref 1000000), none, none, none, none, none, none, none]
def jv_h0 (L : Nat) (xs : Nat → Int32) : jv_H := (fun _ => .inl (9, L, xs), 0, 0)
theorem jv_fix0 (L : Nat) (xs : Nat → Int32) : jv_fix L xs (jv_h0 L xs) := rfl
/-- the law's run in the J machine answers 1, within the room -/
def jv_law (N : Nat) : Prop := ∀ (L : Nat) (xs : Nat → Int32), L ≤ N → ∃ (n : Nat) (h' : jv_H), jv_run n 271 0 jv_L0 [] (jv_h0 L xs) = some (some (.int 1), h') ∧ h'.2.1 ≤ 600000 ∧ h'.2.2 ≤ 7302250
