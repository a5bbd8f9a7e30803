theorem jv_fl6 : ∀ i, i < 20 → ∀ j, j < 20 → i ≠ j → Cond.not (Cond.eq (jv_tm i) (jv_tm j)) ∈ jv_flat ∨ Cond.not (Cond.eq (jv_tm j) (jv_tm i)) ∈ jv_flat := by
  intro i hi j hj hij
  match i, hi, hij with
  | 0, _, hij => exact (jv_fl6_0 j hj hij).imp List.mem_of_getElem? List.mem_of_getElem?
  | 1, _, hij => exact (jv_fl6_1 j hj hij).imp List.mem_of_getElem? List.mem_of_getElem?
  | 2, _, hij => exact (jv_fl6_2 j hj hij).imp List.mem_of_getElem? List.mem_of_getElem?
  | 3, _, hij => exact (jv_fl6_3 j hj hij).imp List.mem_of_getElem? List.mem_of_getElem?
  | 4, _, hij => exact (jv_fl6_4 j hj hij).imp List.mem_of_getElem? List.mem_of_getElem?
  | 5, _, hij => exact (jv_fl6_5 j hj hij).imp List.mem_of_getElem? List.mem_of_getElem?
  | 6, _, hij => exact (jv_fl6_6 j hj hij).imp List.mem_of_getElem? List.mem_of_getElem?
  | 7, _, hij => exact (jv_fl6_7 j hj hij).imp List.mem_of_getElem? List.mem_of_getElem?
  | 8, _, hij => exact (jv_fl6_8 j hj hij).imp List.mem_of_getElem? List.mem_of_getElem?
  | 9, _, hij => exact (jv_fl6_9 j hj hij).imp List.mem_of_getElem? List.mem_of_getElem?
  | 10, _, hij => exact (jv_fl6_10 j hj hij).imp List.mem_of_getElem? List.mem_of_getElem?
  | 11, _, hij => exact (jv_fl6_11 j hj hij).imp List.mem_of_getElem? List.mem_of_getElem?
  | 12, _, hij => exact (jv_fl6_12 j hj hij).imp List.mem_of_getElem? List.mem_of_getElem?
  | 13, _, hij => exact (jv_fl6_13 j hj hij).imp List.mem_of_getElem? List.mem_of_getElem?
  | 14, _, hij => exact (jv_fl6_14 j hj hij).imp List.mem_of_getElem? List.mem_of_getElem?
  | 15, _, hij => exact (jv_fl6_15 j hj hij).imp List.mem_of_getElem? List.mem_of_getElem?
  | 16, _, hij => exact (jv_fl6_16 j hj hij).imp List.mem_of_getElem? List.mem_of_getElem?
  | 17, _, hij => exact (jv_fl6_17 j hj hij).imp List.mem_of_getElem? List.mem_of_getElem?
  | 18, _, hij => exact (jv_fl6_18 j hj hij).imp List.mem_of_getElem? List.mem_of_getElem?
  | 19, _, hij => exact (jv_fl6_19 j hj hij).imp List.mem_of_getElem? List.mem_of_getElem?
  | i + 20, hi, _ => omega
