/-- the length of an instruction (switches apart) -/
def jv_len (i : Instr) : Nat := match i with
  | .bipush _ | .iload _ | .istore _ | .aload _ | .astore _ | .dload _ | .dstore _ | .ldc _ | .newarray _ => 2
  | .sipush _ | .iinc _ _ | .getfield _ | .putfield _ | .invokestatic _ | .invokevirtual _ | .invokespecial _ | .ifCond _ _ | .if_icmp _ _ | .goto _ | .new _ | .anewarray _ => 3
  | _ => 1
def jv_sw (i : Instr) : Bool := match i with
  | .tableswitch _ _ _ _ => true
  | .lookupswitch _ _ => true
  | _ => false
def jv_ck1 (b : ByteArray) (pc : Nat) : List jv_I → Bool
  | [] => true
  | none :: l => jv_ck1 b (pc + 1) l
  | some (i, len) :: l => decide (decode b pc = .ok (i, len)) && (jv_sw i || decide (len = jv_len i)) && jv_ck1 b (pc + 1) l
def jv_ck2 (b : ByteArray) (pc : Nat) : List (List jv_I) → Bool
  | [] => true
  | c :: l => decide (c.length ≤ 16) && jv_ck1 b pc c && jv_ck2 b (pc + 16) l
def jv_ck3 (y : Nat) : List (List (List jv_I)) → Bool
  | [] => true
  | c :: l => jv_ck2 (jv_ym y).2.1 0 c && jv_ck3 (y + 1) l
theorem jv_nil {α : Type} (n : Nat) : jv_nth ([] : List α) n = none := by cases n <;> rfl
theorem jv_ck1_of {b : ByteArray} {i : Instr} {len : Nat} : ∀ (l : List jv_I) (pc r : Nat), jv_ck1 b pc l = true → jv_nth l r = some (some (i, len)) → decode b (pc + r) = .ok (i, len) ∧ (jv_sw i = true ∨ len = jv_len i)
  | [], pc, r, _, h2 => by rw [jv_nil] at h2; cases h2
  | none :: l, pc, 0, h1, h2 => by cases h2
  | none :: l, pc, r + 1, h1, h2 => by
    have h3 := jv_ck1_of l (pc + 1) r h1 h2
    rw [show pc + (r + 1) = pc + 1 + r by omega]
    exact h3
  | some (j, len') :: l, pc, 0, h1, h2 => by
    simp only [jv_ck1, Bool.and_eq_true, decide_eq_true_eq, Bool.or_eq_true] at h1
    have h3 : some (some (j, len')) = some (some (i, len)) := h2
    cases h3
    exact ⟨h1.1.1, h1.1.2⟩
  | some (j, len') :: l, pc, r + 1, h1, h2 => by
    simp only [jv_ck1, Bool.and_eq_true] at h1
    have h3 := jv_ck1_of l (pc + 1) r h1.2 h2
    rw [show pc + (r + 1) = pc + 1 + r by omega]
    exact h3
theorem jv_ck2_of {b : ByteArray} {i : Instr} {len : Nat} {c : List jv_I} : ∀ (l : List (List jv_I)) (pc q r : Nat), jv_ck2 b pc l = true → jv_nth l q = some c → jv_nth c r = some (some (i, len)) → decode b (pc + 16 * q + r) = .ok (i, len) ∧ (jv_sw i = true ∨ len = jv_len i)
  | [], pc, q, r, _, h2, _ => by rw [jv_nil] at h2; cases h2
  | d :: l, pc, 0, r, h1, h2, h3 => by
    simp only [jv_ck2, Bool.and_eq_true] at h1
    have h4 : some d = some c := h2
    cases h4
    exact jv_ck1_of _ pc r h1.1.2 h3
  | d :: l, pc, q + 1, r, h1, h2, h3 => by
    simp only [jv_ck2, Bool.and_eq_true] at h1
    have h4 := jv_ck2_of l (pc + 16) q r h1.2 h2 h3
    rw [show pc + 16 * (q + 1) + r = pc + 16 + 16 * q + r by omega]
    exact h4
theorem jv_ck3_of {c : List (List jv_I)} : ∀ (l : List (List (List jv_I))) (y q : Nat), jv_ck3 y l = true → jv_nth l q = some c → jv_ck2 (jv_ym (y + q)).2.1 0 c = true
  | [], y, q, _, h2 => by rw [jv_nil] at h2; cases h2
  | d :: l, y, 0, h1, h2 => by
    simp only [jv_ck3, Bool.and_eq_true] at h1
    have h4 : some d = some c := h2
    cases h4
    exact h1.1
  | d :: l, y, q + 1, h1, h2 => by
    simp only [jv_ck3, Bool.and_eq_true] at h1
    rw [show y + (q + 1) = y + 1 + q by omega]
    exact jv_ck3_of l (y + 1) q h1.2 h2
def jv_ck4 (y : Nat) : List (List (List (List jv_I))) → Bool
  | [] => true
  | c :: l => jv_ck3 y c && jv_ck4 (y + 16) l
theorem jv_ck4_of {a : List (List (List jv_I))} : ∀ (l : List (List (List (List jv_I)))) (y q : Nat), jv_ck4 y l = true → jv_nth l q = some a → jv_ck3 (y + 16 * q) a = true
  | [], y, q, _, h2 => by rw [jv_nil] at h2; cases h2
  | d :: l, y, 0, h1, h2 => by
    simp only [jv_ck4, Bool.and_eq_true] at h1
    have h4 : some d = some a := h2
    cases h4
    exact h1.1
  | d :: l, y, q + 1, h1, h2 => by
    simp only [jv_ck4, Bool.and_eq_true] at h1
    rw [show y + 16 * (q + 1) = y + 16 + 16 * q by omega]
    exact jv_ck4_of l (y + 16) q h1.2 h2
theorem jv_and {a b : Bool} (h1 : a = true) (h2 : b = true) : (a && b) = true := by rw [h1, h2]; rfl
theorem jv_ck2_app {b : ByteArray} : ∀ (l1 l2 : List (List jv_I)) (pc : Nat), jv_ck2 b pc (l1 ++ l2) = (jv_ck2 b pc l1 && jv_ck2 b (pc + 16 * l1.length) l2)
  | [], l2, pc => by simp [jv_ck2]
  | c :: l1, l2, pc => by
    show (decide (c.length ≤ 16) && jv_ck1 b pc c && jv_ck2 b (pc + 16) (l1 ++ l2)) = (decide (c.length ≤ 16) && jv_ck1 b pc c && jv_ck2 b (pc + 16) l1 && jv_ck2 b (pc + 16 * (l1.length + 1)) l2)
    rw [jv_ck2_app l1 l2 (pc + 16), show pc + 16 + 16 * l1.length = pc + 16 * (l1.length + 1) by omega]
    simp only [Bool.and_assoc]
