def jv_hl (ow i : Nat) : Nat := ((jv_nth jv_hls ow).bind (fun a => jv_as a i)).getD 0
/-- the classes -/
theorem jv_cls_ok : ∀ c, c < 9 → vwCl[c]? = some (jv_own c, jv_fT c, jv_fn c) := by
  intro c h
  match c, h with
  | 0, _ => rfl
  | 1, _ => rfl
  | 2, _ => rfl
  | 3, _ => rfl
  | 4, _ => rfl
  | 5, _ => rfl
  | 6, _ => rfl
  | 7, _ => rfl
  | 8, _ => rfl
  | c + 9, h => omega
/-- links to private members of nest mates: no words of the tables, carried beside them -/
def jv_nests : List Cond := [.methodLinkNest (jv_own 2) 20 (jv_ym 101).1 "SeatSwap", .methodLinkNest (jv_own 5) 17 (jv_ym 101).1 "SeatSwap", .methodLinkNest (jv_own 5) 79 (jv_ym 147).1 "SeatSwap", .methodLinkNest (jv_own 7) 23 (jv_ym 33).1 "SeatSwap", .methodLinkNest (jv_own 7) 40 (jv_ym 101).1 "SeatSwap"]
theorem jv_nests_in : ∀ w ∈ jv_nests, w ∈ lw_tbl := by
  intro w hw
  have h : jv_nests = ([125, 245, 602, 221, 319] : List Nat).filterMap (fun i => lw_tbl[i]?) := by decide +kernel
  rw [h] at hw
  obtain ⟨i, -, hi⟩ := List.mem_filterMap.mp hw
  exact List.mem_of_getElem? hi
