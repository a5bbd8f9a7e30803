/-! NUMBERS -/
theorem c_f {α : Type} (a b : α) : cond false a b = b := rfl
theorem b_lt {a b : Nat} (h : Nat.blt a b = true) : a < b := Eq.mp Nat.blt_eq h
theorem b_nlt {a b : Nat} (h : Nat.blt a b = false) : b ≤ a := Nat.not_lt.mp (fun q => by rw [show Nat.blt a b = true from Eq.mpr Nat.blt_eq q] at h; cases h)
theorem b_le {a b : Nat} (h : Nat.ble a b = true) : a ≤ b := Nat.le_of_ble_eq_true h
theorem b_eq {a b : Nat} (h : Nat.beq a b = true) : a = b := Nat.eq_of_beq_eq_true h
theorem b_ne {a b : Nat} (h : Nat.beq a b = false) : ¬ a = b := Nat.ne_of_beq_eq_false h
theorem s_and {a b : Bool} (h : (a && b) = true) : a = true ∧ b = true := by
  cases a
  · cases h
  · exact ⟨rfl, h⟩
theorem s_or {a b : Bool} (h : (a || b) = true) : a = true ∨ b = true := by
  cases a
  · exact Or.inr h
  · exact Or.inl rfl
/-- a whole number, moved up so that the least is 0 -/
def sb (w : Int32) : Nat := (w.toInt + 2147483648).toNat
def sRf (x a : Nat) : Prop := x = sREF + a ∧ a < sM
theorem sRf_num {x a : Nat} (h : sRf x a) : 4294967296 ≤ x ∧ x < 8589934592 ∧ x - 4294967296 = a := by
  have h1 : x = 4294967296 + a := h.1
  have h2 : a < 4294967296 := h.2
  omega
/-- x stands for v -/
def sr (ρ : Nat → Int32) (x : Nat) (v : Value) : Prop := match v with
  | .int w => (x < sM ∧ w = Int32.ofNat x) ∨ (∃ k, k < 8 ∧ x = sSYM + k ∧ w = ρ k) ∨ x = sUNK
  | .ref a => sRf x a
  | .null => x = sNUL
  | .float u => x = sFLT + u.toNat
  | .double u => x = sDBL + u.toNat
  | _ => False
theorem sr_num {ρ : Nat → Int32} {x : Nat} {v : Value} (hx : x < sM) (h : sr ρ x v) : v = .int (Int32.ofNat x) := by
  have hx2 : x < 4294967296 := hx
  cases v with
  | int w =>
    rcases h with ⟨-, rfl⟩ | ⟨k, hk, hk2, -⟩ | hu
    · rfl
    · have : x = 17179869184 + k := hk2
      omega
    · have : x = 17179869284 := hu
      omega
  | ref a =>
    have r := sRf_num h
    omega
  | null =>
    have : x = 17179869286 := h
    omega
  | float u =>
    have : x = 1099511627776 + u.toNat := h
    omega
  | double u =>
    have : x = 1208925819614629174706176 + u.toNat := h
    omega
  | long u => cases h
  | retAddr u => cases h
theorem sr_ref {ρ : Nat → Int32} {x : Nat} {v : Value} (hx : s_isR x = true) (h : sr ρ x v) : v = .ref (x - sREF) ∧ x - sREF < sM ∧ x = sREF + (x - sREF) := by
  obtain ⟨q1, q2⟩ := s_and hx
  have h1 : 4294967296 ≤ x := b_le q1
  have h2 : x < 17179869184 := b_lt q2
  cases v with
  | int w =>
    rcases h with ⟨h3, -⟩ | ⟨k, hk, hk2, -⟩ | hu
    · have : x < 4294967296 := h3
      omega
    · have : x = 17179869184 + k := hk2
      omega
    · have : x = 17179869284 := hu
      omega
  | ref a =>
    obtain ⟨r1, r2, r3⟩ := sRf_num h
    refine ⟨?_, ?_, ?_⟩
    · show Value.ref a = .ref (x - 4294967296)
      rw [r3]
    · show x - 4294967296 < 4294967296
      omega
    · show x = 4294967296 + (x - 4294967296)
      omega
  | null =>
    have : x = 17179869286 := h
    omega
  | float u =>
    have : x = 1099511627776 + u.toNat := h
    omega
  | double u =>
    have : x = 1208925819614629174706176 + u.toNat := h
    omega
  | long u => cases h
  | retAddr u => cases h
/-- the symbols lie in their intervals -/
def sEk (ρ : Nat → Int32) (env : sE) : Prop := ∀ k, (s_iv env k).1 ≤ sb (ρ k) ∧ sb (ρ k) ≤ (s_iv env k).2
def s_ccn (c : ClassFile.Cond) : Nat := match c with
  | .eq => 0
  | .ne => 1
  | .lt => 2
  | .ge => 3
  | .gt => 4
  | .le => 5
theorem s_all_ok {f : Nat → Bool} {lo : Nat} : ∀ (n v : Nat), s_all f lo n = true → lo ≤ v → v < lo + n → f v = true
  | 0, v, _, h1, h2 => by omega
  | n + 1, v, h, h1, h2 => by
    obtain ⟨h3, h4⟩ := s_and (show (f (lo + n) && s_all f lo n) = true from h)
    by_cases hv : v = lo + n
    · rw [hv]; exact h3
    · exact s_all_ok n v h4 h1 (by omega)
