/-- the J machine's start -/
def jv_L0 : List (Option Value) := [some (.ref 1000000), none, none, none, none, none, none, none]
def jv_h0 (L : Nat) (xs : Nat → Int32) : jv_H := (fun _ => .inl (9, L, xs), 0, 0)
theorem jv_fix0 (L : Nat) (xs : Nat → Int32) : jv_fix L xs (jv_h0 L xs) := rfl
/-- the law's run in the J machine answers 1, within the room -/
def jv_law (N : Nat) : Prop := ∀ (L : Nat) (xs : Nat → Int32), L ≤ N → ∃ (n : Nat) (h' : jv_H), jv_run n 271 0 jv_L0 [] (jv_h0 L xs) = some (some (.int 1), h') ∧ h'.2.1 ≤ 600000 ∧ h'.2.2 ≤ 7302250

