/-! THE TABLES' WORDS, by their places in lw_tbl: printed by wip/gen/words.py -/
/-- the words that every method here is given -/
def jv_T : List Cond := lw_tbl.filter goodWord
def jv_in (i : Nat) (w : Cond) : Bool := decide (lw_tbl[i]? = some w) && goodWord w
theorem jv_in_ok {i : Nat} {w : Cond} (h : jv_in i w = true) : w ∈ jv_T := by
  simp only [jv_in, Bool.and_eq_true, decide_eq_true_eq] at h
  exact List.mem_filter.mpr ⟨List.mem_of_getElem? h.1, h.2⟩
theorem jv_as_mem {α : Type} {n : Nat} {v : α} : ∀ (l : List (Nat × α)), jv_as l n = some v → (n, v) ∈ l
  | [], h => by cases h
  | a :: l, h => by
    unfold jv_as at h
    split at h
    · rename_i e
      cases h
      rw [← e]
      exact List.mem_cons_self
    · exact List.mem_cons_of_mem _ (jv_as_mem l h)
def jv_byt : List (List Int32) := [[116, 114, 97, 105, 110], [102, 105, 114, 115, 116], [115, 101, 97, 116], [116, 105, 99, 107, 101, 116], [102, 97, 109, 105, 108, 121], [119, 105, 110, 100, 111, 119], [97, 104, 101, 97, 100], [114, 111, 119], [115, 119, 101, 101, 116, 115], [115, 116, 111, 112], [116, 114, 97, 105, 110, 32], [32, 102, 105, 114, 115, 116, 32], [115, 101, 97, 116, 32], [32, 116, 105, 99, 107, 101, 116], [32, 102, 97, 109, 105, 108, 121, 32], [32, 119, 105, 110, 100, 111, 119, 32], [32, 97, 104, 101, 97, 100, 32], [32, 114, 111, 119, 32], [32, 115, 119, 101, 101, 116, 115, 32], [32, 115, 116, 111, 112, 32]]
def jv_lens : List Nat := [5, 5, 4, 6, 6, 6, 5, 3, 6, 4, 6, 7, 5, 7, 8, 8, 7, 5, 8, 6]
/-- which text lies at a place: 1000001 + its number -/
def jv_tix (a : Nat) : Option Nat := (List.range 20).find? (fun i => Nat.beq a (1000001 + i))
theorem jv_tix_eq {a i : Nat} (h : jv_tix a = some i) : i < 20 ∧ a = 1000001 + i := by
  unfold jv_tix at h
  exact ⟨List.mem_range.mp (List.mem_of_find?_eq_some h), Nat.eq_of_beq_eq_true (List.find?_some (p := fun i => Nat.beq a (1000001 + i)) h)⟩
