section
/-! THE S MACHINE STANDS FOR THE J MACHINE: numbers, symbols, comparisons -/
theorem c_t {α : Type} (a b : α) : cond true a b = a := rfl
theorem c_f {α : Type} (a b : α) : cond false a b = b := rfl
theorem b_lt {a b : Nat} (h : Nat.blt a b = true) : a < b := Eq.mp Nat.blt_eq h
theorem b_nlt {a b : Nat} (h : Nat.blt a b = false) : b ≤ a := Nat.not_lt.mp (fun q => by rw [show Nat.blt a b = true from Eq.mpr Nat.blt_eq q] at h; cases h)
theorem b_le {a b : Nat} (h : Nat.ble a b = true) : a ≤ b := Nat.le_of_ble_eq_true h
theorem b_nle {a b : Nat} (h : Nat.ble a b = false) : b < a := Nat.not_le.mp (fun q => by rw [Nat.ble_eq_true_of_le q] at h; cases h)
theorem b_eq {a b : Nat} (h : Nat.beq a b = true) : a = b := Nat.eq_of_beq_eq_true h
theorem b_ne {a b : Nat} (h : Nat.beq a b = false) : ¬ a = b := Nat.ne_of_beq_eq_false h
theorem s_c1 {c a : Bool} (h : cond c a false = true) : c = true ∧ a = true := by
  cases c
  · cases h
  · exact ⟨rfl, h⟩
theorem s_c2 {c a b : Bool} (h : cond c a b = true) : (c = true ∧ a = true) ∨ (c = false ∧ b = true) := by
  cases c
  · exact Or.inr ⟨rfl, h⟩
  · exact Or.inl ⟨rfl, h⟩
theorem s_and {a b : Bool} (h : (a && b) = true) : a = true ∧ b = true := by
  cases a
  · cases h
  · exact ⟨rfl, h⟩
theorem s_or {a b : Bool} (h : (a || b) = true) : a = true ∨ b = true := by
  cases a
  · exact Or.inr h
  · exact Or.inl rfl
theorem s_or0 {a b : Bool} (h : (a || b) = false) : a = false ∧ b = false := by
  cases a
  · exact ⟨rfl, h⟩
  · cases h
theorem s_frc_eq (n : Nat) (k : Nat → Bool) : s_frc n k = k n := by cases n <;> rfl
/-- a whole number, moved up so that the least is 0 -/
def sb (w : Int32) : Nat := (w.toInt + 2147483648).toNat
theorem sb_lo (w : Int32) : -2147483648 ≤ w.toInt := by have h := Int32.le_toInt w; omega
theorem sb_hi (w : Int32) : w.toInt < 2147483648 := by have h := Int32.toInt_lt w; omega
theorem s_bias_eq (x : Nat) : (x < 2147483648 → s_bias x = x + 2147483648) ∧ (2147483648 ≤ x → s_bias x = x - 2147483648) := by
  unfold s_bias
  cases h : Nat.blt x 2147483648 with
  | true =>
    rw [c_t]
    have h2 := b_lt h
    exact ⟨fun _ => Eq.refl _, fun q => absurd h2 (Nat.not_lt.mpr q)⟩
  | false =>
    rw [c_f]
    have h2 := b_nlt h
    exact ⟨fun q => absurd q (Nat.not_lt.mpr h2), fun _ => Eq.refl _⟩
theorem sb_of {x : Nat} (h : x < sM) : sb (Int32.ofNat x) = s_bias x := by
  obtain ⟨b1, b2⟩ := s_bias_eq x
  unfold sb
  rw [Int32.toInt_ofNat']
  have h2 : x < 4294967296 := h
  have h3 : (x : Int).bmod Int32.size = (x : Int).bmod 4294967296 := rfl
  rw [h3, Int.bmod_def]
  rcases Nat.lt_or_ge x 2147483648 with q | q
  · rw [b1 q]
    split <;> omega
  · rw [b2 q]
    split <;> omega
theorem sb_max (w : Int32) : sb w < sM := by
  have h1 := sb_lo w
  have h2 := sb_hi w
  show sb w < 4294967296
  unfold sb
  omega
theorem sb_lt (a b : Int32) : a < b ↔ sb a < sb b := by
  have h1 := sb_lo a
  have h2 := sb_lo b
  rw [Int32.lt_iff_toInt_lt]
  unfold sb
  omega
theorem sb_inj {a b : Int32} (h : sb a = sb b) : a = b := by
  have h1 := sb_lo a
  have h2 := sb_lo b
  unfold sb at h
  exact Int32.toInt_inj.1 (by omega)
theorem s_bias_lt {x : Nat} (h : x < sM) : s_bias x < sM := by
  obtain ⟨b1, b2⟩ := s_bias_eq x
  have h2 : x < 4294967296 := h
  show s_bias x < 4294967296
  rcases Nat.lt_or_ge x 2147483648 with q | q
  · rw [b1 q]; omega
  · rw [b2 q]; omega
theorem s_bias2 {x : Nat} (h : x < sM) : s_bias (s_bias x) = x := by
  have h2 : x < 4294967296 := h
  rcases Nat.lt_or_ge x 2147483648 with q | q
  · rw [(s_bias_eq x).1 q, (s_bias_eq (x + 2147483648)).2 (by omega)]; omega
  · rw [(s_bias_eq x).2 q, (s_bias_eq (x - 2147483648)).1 (by omega)]; omega
theorem sb_inv {v : Nat} {w : Int32} (hv : v < sM) (h : sb w = v) : w = Int32.ofNat (s_bias v) := by
  refine sb_inj ?_
  rw [sb_of (s_bias_lt hv), s_bias2 hv]
  exact h
def sRf (x a : Nat) : Prop := x = sREF + a ∧ a < sM
theorem sRf_num {x a : Nat} (h : sRf x a) : 4294967296 ≤ x ∧ x < 8589934592 ∧ x - 4294967296 = a := by
  have h1 : x = 4294967296 + a := h.1
  have h2 : a < 4294967296 := h.2
  omega
/-- x stands for v -/
def sr (ρ : Nat → Int32) (x : Nat) (v : Value) : Prop := match v with
  | .int w => (x < sM ∧ w = Int32.ofNat x) ∨ (∃ k, k < 8 ∧ x = sSYM + k ∧ w = ρ k) ∨ x = sUNK
  | .ref a => sRf x a
  | .null => x = sNUL
  | .float u => x = sFLT + u.toNat
  | .double u => x = sDBL + u.toNat
  | _ => False
theorem sr_num {ρ : Nat → Int32} {x : Nat} {v : Value} (hx : x < sM) (h : sr ρ x v) : v = .int (Int32.ofNat x) := by
  have hx2 : x < 4294967296 := hx
  cases v with
  | int w =>
    rcases h with ⟨-, rfl⟩ | ⟨k, hk, hk2, -⟩ | hu
    · rfl
    · have : x = 17179869184 + k := hk2
      omega
    · have : x = 17179869284 := hu
      omega
  | ref a =>
    have r := sRf_num h
    omega
  | null =>
    have : x = 17179869286 := h
    omega
  | float u =>
    have : x = 1099511627776 + u.toNat := h
    omega
  | double u =>
    have : x = 1208925819614629174706176 + u.toNat := h
    omega
  | long u => cases h
  | retAddr u => cases h
theorem sr_int {ρ : Nat → Int32} {x : Nat} {v : Value} (hx : s_isI x = true) (h : sr ρ x v) : ∃ w, v = .int w := by
  have hx2 : x < 4294967296 ∨ (17179869184 ≤ x ∧ x ≤ 17179869284) := by
    rcases s_or hx with q | q
    · exact Or.inl (b_lt q)
    · obtain ⟨q1, q2⟩ := s_and q
      exact Or.inr ⟨b_le q1, b_le q2⟩
  cases v with
  | int w => exact ⟨w, rfl⟩
  | ref a =>
    obtain ⟨r1, r2, -⟩ := sRf_num h
    omega
  | null =>
    have : x = 17179869286 := h
    omega
  | float u =>
    have : x = 1099511627776 + u.toNat := h
    omega
  | double u =>
    have : x = 1208925819614629174706176 + u.toNat := h
    omega
  | long u => cases h
  | retAddr u => cases h
theorem sr_ref {ρ : Nat → Int32} {x : Nat} {v : Value} (hx : s_isR x = true) (h : sr ρ x v) : v = .ref (x - sREF) ∧ x - sREF < sM ∧ x = sREF + (x - sREF) := by
  obtain ⟨q1, q2⟩ := s_and hx
  have h1 : 4294967296 ≤ x := b_le q1
  have h2 : x < 17179869184 := b_lt q2
  cases v with
  | int w =>
    rcases h with ⟨h3, -⟩ | ⟨k, hk, hk2, -⟩ | hu
    · have : x < 4294967296 := h3
      omega
    · have : x = 17179869184 + k := hk2
      omega
    · have : x = 17179869284 := hu
      omega
  | ref a =>
    obtain ⟨r1, r2, r3⟩ := sRf_num h
    refine ⟨?_, ?_, ?_⟩
    · show Value.ref a = .ref (x - 4294967296)
      rw [r3]
    · show x - 4294967296 < 4294967296
      omega
    · show x = 4294967296 + (x - 4294967296)
      omega
  | null =>
    have : x = 17179869286 := h
    omega
  | float u =>
    have : x = 1099511627776 + u.toNat := h
    omega
  | double u =>
    have : x = 1208925819614629174706176 + u.toNat := h
    omega
  | long u => cases h
  | retAddr u => cases h
theorem sr_dbl {ρ : Nat → Int32} {x : Nat} {v : Value} (hx : s_isD x = true) (h : sr ρ x v) : ∃ u, v = .double u := by
  have hx2 : 1208925819614629174706176 ≤ x := b_le hx
  cases v with
  | int w =>
    rcases h with ⟨h3, -⟩ | ⟨k, hk, hk2, -⟩ | hu
    · have : x < 4294967296 := h3
      omega
    · have : x = 17179869184 + k := hk2
      omega
    · have : x = 17179869284 := hu
      omega
  | ref a =>
    obtain ⟨r1, r2, -⟩ := sRf_num h
    omega
  | null =>
    have : x = 17179869286 := h
    omega
  | float u =>
    have h3 : x = 1099511627776 + u.toNat := h
    have h4 := u.toNat_lt
    omega
  | double u => exact ⟨u, rfl⟩
  | long u => cases h
  | retAddr u => cases h
/-- what is no double takes one word -/
theorem sr_cat {ρ : Nat → Int32} {x : Nat} {v : Value} (hx : x < sDBL) (h : sr ρ x v) : v.category = 1 := by
  cases v with
  | double u =>
    have h3 : x = 1208925819614629174706176 + u.toNat := h
    have h4 : x < 1208925819614629174706176 := hx
    omega
  | long u => cases h
  | retAddr u => cases h
  | int w => rfl
  | ref a => rfl
  | null => rfl
  | float u => rfl
theorem sr_sym {ρ : Nat → Int32} {x : Nat} {v : Value} (hx : s_isS x = true) (h : sr ρ x v) : ∃ k, k < 8 ∧ x = sSYM + k ∧ x - sSYM = k ∧ v = .int (ρ k) := by
  obtain ⟨q1, q2⟩ := s_and hx
  have h1 : 17179869184 ≤ x := b_le q1
  have h2 : x < 17179869192 := b_lt q2
  have hI : s_isI x = true := by
    unfold s_isI
    rw [show Nat.ble sSYM x = true from Nat.ble_eq_true_of_le h1, show Nat.ble x sUNK = true from Nat.ble_eq_true_of_le (by show x ≤ 17179869284; omega)]
    cases Nat.blt x sM <;> rfl
  obtain ⟨w, rfl⟩ := sr_int hI h
  rcases h with ⟨h3, -⟩ | ⟨k, hk, hk2, rfl⟩ | hu
  · have : x < 4294967296 := h3
    omega
  · have h4 : x = 17179869184 + k := hk2
    exact ⟨k, hk, hk2, by show x - 17179869184 = k; omega, rfl⟩
  · have : x = 17179869284 := hu
    omega
/-- the symbols lie in their intervals -/
def sEk (ρ : Nat → Int32) (env : sE) : Prop := ∀ k, (s_iv env k).1 ≤ sb (ρ k) ∧ sb (ρ k) ≤ (s_iv env k).2
theorem s_eset_iv : ∀ (env : sE) (k : Nat) (p : Nat × Nat) (j : Nat), s_iv (s_eset env k p) j = s_iv env j ∨ (j = k ∧ s_iv (s_eset env k p) j = p)
  | [], _, _, _ => Or.inl rfl
  | a :: t, 0, p, 0 => Or.inr ⟨rfl, rfl⟩
  | a :: t, 0, p, j + 1 => Or.inl rfl
  | a :: t, k + 1, p, 0 => Or.inl rfl
  | a :: t, k + 1, p, j + 1 => by
    rcases s_eset_iv t k p j with h | ⟨h1, h2⟩
    · exact Or.inl h
    · exact Or.inr ⟨by rw [h1], h2⟩
theorem sEk_set {ρ : Nat → Int32} {env : sE} {k : Nat} {p : Nat × Nat} (h : sEk ρ env) (h1 : p.1 ≤ sb (ρ k)) (h2 : sb (ρ k) ≤ p.2) : sEk ρ (s_eset env k p) := by
  intro j
  rcases s_eset_iv env k p j with q | ⟨rfl, q⟩
  · rw [q]; exact h j
  · rw [q]; exact ⟨h1, h2⟩
theorem s_res_eq (env : sE) (x : Nat) : s_res env x = x ∨ (s_isS x = true ∧ (s_iv env (x - sSYM)).1 = (s_iv env (x - sSYM)).2 ∧ s_res env x = s_bias (s_iv env (x - sSYM)).1) := by
  unfold s_res
  cases h1 : Nat.blt x sM with
  | true =>
    rw [c_t]
    exact Or.inl (Eq.refl _)
  | false =>
    rw [c_f]
    cases h2 : s_isS x with
    | false =>
      rw [c_f]
      exact Or.inl (Eq.refl _)
    | true =>
      rw [c_t]
      cases h3 : Nat.beq (s_iv env (x - sSYM)).1 (s_iv env (x - sSYM)).2 with
      | false =>
        rw [c_f]
        exact Or.inl (Eq.refl _)
      | true =>
        rw [c_t]
        exact Or.inr ⟨Eq.refl _, b_eq h3, Eq.refl _⟩
theorem sr_res {ρ : Nat → Int32} {env : sE} {x : Nat} {v : Value} (hE : sEk ρ env) (h : sr ρ x v) : sr ρ (s_res env x) v := by
  rcases s_res_eq env x with e | ⟨h2, h4, e⟩
  · rw [e]; exact h
  · rw [e]
    obtain ⟨k, hk, hx, hxk, rfl⟩ := sr_sym h2 h
    rw [hxk] at h4 ⊢
    obtain ⟨e1, e2⟩ := hE k
    have h5 : sb (ρ k) = (s_iv env k).1 := by omega
    have h6 : (s_iv env k).1 < sM := by rw [← h5]; exact sb_max _
    exact Or.inl ⟨s_bias_lt h6, sb_inv h6 h5⟩
theorem s_lt_ok {ρ : Nat → Int32} {env : sE} {x y : Nat} {kt kf : sE → Bool} {a b : Int32} (h : s_lt env x y kt kf = true) (hE : sEk ρ env) (hx : sr ρ x (.int a)) (hy : sr ρ y (.int b)) :
    (a < b ∧ ∃ env', sEk ρ env' ∧ kt env' = true) ∨ (¬ a < b ∧ ∃ env', sEk ρ env' ∧ kf env' = true) := by
  unfold s_lt at h
  rcases s_c2 h with ⟨x1, h⟩ | ⟨x1, h⟩
  · have hx1 := b_lt x1
    cases sr_num hx1 hx
    rcases s_c2 h with ⟨y1, h⟩ | ⟨y1, h⟩
    · have hy1 := b_lt y1
      cases sr_num hy1 hy
      rw [sb_lt, sb_of hx1, sb_of hy1]
      rcases s_c2 h with ⟨q, h⟩ | ⟨q, h⟩
      · exact Or.inl ⟨b_lt q, env, hE, h⟩
      · exact Or.inr ⟨Nat.not_lt.mpr (b_nlt q), env, hE, h⟩
    · obtain ⟨y2, h⟩ := s_c1 h
      obtain ⟨k, hk, hyk, hyk2, he⟩ := sr_sym y2 hy
      cases he
      rw [hyk2] at h
      obtain ⟨e1, e2⟩ := hE k
      rw [sb_lt, sb_of hx1]
      rcases s_c2 h with ⟨q, h⟩ | ⟨q, h⟩
      · have := b_lt q
        exact Or.inl ⟨by omega, env, hE, h⟩
      · rcases s_c2 h with ⟨q2, h⟩ | ⟨q2, h⟩
        · have := b_le q2
          exact Or.inr ⟨by omega, env, hE, h⟩
        · obtain ⟨h1, h2⟩ := s_and h
          by_cases c : s_bias x < sb (ρ k)
          · exact Or.inl ⟨c, _, sEk_set (p := (s_bias x + 1, (s_iv env k).2)) hE (by dsimp only; omega) e2, h1⟩
          · exact Or.inr ⟨c, _, sEk_set (p := ((s_iv env k).1, s_bias x)) hE e1 (by dsimp only; omega), h2⟩
  · obtain ⟨x2, h⟩ := s_c1 h
    obtain ⟨x3, y1⟩ := s_and x2
    have hy1 := b_lt y1
    cases sr_num hy1 hy
    obtain ⟨k, hk, hxk, hxk2, he⟩ := sr_sym x3 hx
    cases he
    rw [hxk2] at h
    obtain ⟨e1, e2⟩ := hE k
    rw [sb_lt, sb_of hy1]
    rcases s_c2 h with ⟨q, h⟩ | ⟨q, h⟩
    · have := b_lt q
      exact Or.inl ⟨by omega, env, hE, h⟩
    · rcases s_c2 h with ⟨q2, h⟩ | ⟨q2, h⟩
      · have := b_le q2
        exact Or.inr ⟨by omega, env, hE, h⟩
      · obtain ⟨h1, h2⟩ := s_and h
        by_cases c : sb (ρ k) < s_bias y
        · exact Or.inl ⟨c, _, sEk_set (p := ((s_iv env k).1, s_bias y - 1)) hE e1 (by dsimp only; omega), h1⟩
        · exact Or.inr ⟨c, _, sEk_set (p := (s_bias y, (s_iv env k).2)) hE (by dsimp only; omega) e2, h2⟩
theorem s_eq1_ok {ρ : Nat → Int32} {env : sE} {k c : Nat} {kt kf : sE → Bool} (h : s_eq1 env k c kt kf = true) (hE : sEk ρ env) :
    (sb (ρ k) = c ∧ ∃ env', sEk ρ env' ∧ kt env' = true) ∨ (¬ sb (ρ k) = c ∧ ∃ env', sEk ρ env' ∧ kf env' = true) := by
  unfold s_eq1 at h
  obtain ⟨e1, e2⟩ := hE k
  rcases s_c2 h with ⟨q, h⟩ | ⟨q, h⟩
  · rcases s_or q with q | q
    · have := b_lt q
      exact Or.inr ⟨by omega, env, hE, h⟩
    · have := b_lt q
      exact Or.inr ⟨by omega, env, hE, h⟩
  · obtain ⟨q1, q2⟩ := s_or0 q
    have q1 := b_nlt q1
    have q2 := b_nlt q2
    rcases s_c2 h with ⟨q3, h⟩ | ⟨q3, h⟩
    · have := b_eq q3
      exact Or.inl ⟨by omega, env, hE, h⟩
    · obtain ⟨h1, h⟩ := s_and h
      by_cases hc : sb (ρ k) = c
      · exact Or.inl ⟨hc, _, sEk_set (p := (c, c)) hE (by dsimp only; omega) (by dsimp only; omega), h1⟩
      · refine Or.inr ⟨hc, ?_⟩
        rcases s_c2 h with ⟨q4, h⟩ | ⟨q4, h⟩
        · have := b_eq q4
          exact ⟨_, sEk_set (p := (c + 1, (s_iv env k).2)) hE (by dsimp only; omega) e2, h⟩
        · rcases s_c2 h with ⟨q5, h⟩ | ⟨q5, h⟩
          · have := b_eq q5
            exact ⟨_, sEk_set (p := ((s_iv env k).1, c - 1)) hE e1 (by dsimp only; omega), h⟩
          · obtain ⟨h2, h3⟩ := s_and h
            by_cases hl : sb (ρ k) < c
            · exact ⟨_, sEk_set (p := ((s_iv env k).1, c - 1)) hE e1 (by dsimp only; omega), h2⟩
            · exact ⟨_, sEk_set (p := (c + 1, (s_iv env k).2)) hE (by dsimp only; omega) e2, h3⟩
theorem s_eq_ok {ρ : Nat → Int32} {env : sE} {x y : Nat} {kt kf : sE → Bool} {a b : Int32} (h : s_eq env x y kt kf = true) (hE : sEk ρ env) (hx : sr ρ x (.int a)) (hy : sr ρ y (.int b)) :
    (a = b ∧ ∃ env', sEk ρ env' ∧ kt env' = true) ∨ (¬ a = b ∧ ∃ env', sEk ρ env' ∧ kf env' = true) := by
  have key : ∀ a b : Int32, a = b ↔ sb a = sb b := fun a b => ⟨fun q => by rw [q], sb_inj⟩
  unfold s_eq at h
  rcases s_c2 h with ⟨x1, h⟩ | ⟨x1, h⟩
  · have hx1 := b_lt x1
    cases sr_num hx1 hx
    rcases s_c2 h with ⟨y1, h⟩ | ⟨y1, h⟩
    · have hy1 := b_lt y1
      cases sr_num hy1 hy
      rcases s_c2 h with ⟨q, h⟩ | ⟨q, h⟩
      · exact Or.inl ⟨by rw [b_eq q], env, hE, h⟩
      · refine Or.inr ⟨fun e => b_ne q ?_, env, hE, h⟩
        have e2 : s_bias x = s_bias y := by rw [← sb_of hx1, ← sb_of hy1, e]
        rw [← s_bias2 hx1, ← s_bias2 hy1, e2]
    · obtain ⟨y2, h⟩ := s_c1 h
      obtain ⟨k, hk, hyk, hyk2, he⟩ := sr_sym y2 hy
      cases he
      rw [hyk2] at h
      rw [key, sb_of hx1]
      rcases s_eq1_ok h hE with ⟨q, r⟩ | ⟨q, r⟩
      · exact Or.inl ⟨q.symm, r⟩
      · exact Or.inr ⟨fun e => q e.symm, r⟩
  · obtain ⟨x2, h⟩ := s_c1 h
    obtain ⟨x3, y1⟩ := s_and x2
    have hy1 := b_lt y1
    cases sr_num hy1 hy
    obtain ⟨k, hk, hxk, hxk2, he⟩ := sr_sym x3 hx
    cases he
    rw [hxk2] at h
    rw [key, sb_of hy1]
    exact s_eq1_ok h hE
def s_ccn (c : ClassFile.Cond) : Nat := match c with
  | .eq => 0
  | .ne => 1
  | .lt => 2
  | .ge => 3
  | .gt => 4
  | .le => 5
theorem s_cc_ok {ρ : Nat → Int32} {env : sE} {x y : Nat} {kt kf : sE → Bool} {a b : Int32} {cn : ClassFile.Cond} (h : s_cc env (s_ccn cn) x y kt kf = true) (hE : sEk ρ env) (hx : sr ρ x (.int a)) (hy : sr ρ y (.int b)) :
    (jv_cc cn a b = true ∧ ∃ env', sEk ρ env' ∧ kt env' = true) ∨ (¬ jv_cc cn a b = true ∧ ∃ env', sEk ρ env' ∧ kf env' = true) := by
  have hle : ∀ a b : Int32, a ≤ b ↔ ¬ b < a := fun a b => Int32.not_lt.symm
  cases cn <;> simp only [jv_cc, decide_eq_true_eq]
  · exact s_eq_ok h hE hx hy
  · rcases s_eq_ok h hE hx hy with ⟨q, r⟩ | ⟨q, r⟩
    · exact Or.inr ⟨fun z => z q, r⟩
    · exact Or.inl ⟨q, r⟩
  · exact s_lt_ok h hE hx hy
  · show (b ≤ a ∧ _) ∨ (¬ b ≤ a ∧ _)
    rw [hle]
    rcases s_lt_ok h hE hx hy with ⟨q, r⟩ | ⟨q, r⟩
    · exact Or.inr ⟨fun z => z q, r⟩
    · exact Or.inl ⟨q, r⟩
  · show (b < a ∧ _) ∨ (¬ b < a ∧ _)
    exact s_lt_ok h hE hy hx
  · rw [hle]
    rcases s_lt_ok h hE hy hx with ⟨q, r⟩ | ⟨q, r⟩
    · exact Or.inr ⟨fun z => z q, r⟩
    · exact Or.inl ⟨q, r⟩
theorem s_all_ok {f : Nat → Bool} {lo : Nat} : ∀ (n v : Nat), s_all f lo n = true → lo ≤ v → v < lo + n → f v = true
  | 0, v, _, h1, h2 => by omega
  | n + 1, v, h, h1, h2 => by
    obtain ⟨h3, h4⟩ := s_and (show (f (lo + n) && s_all f lo n) = true from h)
    by_cases hv : v = lo + n
    · rw [hv]; exact h3
    · exact s_all_ok n v h4 h1 (by omega)
theorem s_conc_ok {ρ : Nat → Int32} {env : sE} {x : Nat} {k : Nat → sE → Bool} {a : Int32} (h : s_conc env x k = true) (hE : sEk ρ env) (hx : sr ρ x (.int a)) : ∃ (z : Nat) (env' : sE), sEk ρ env' ∧ z < sM ∧ a = Int32.ofNat z ∧ k z env' = true := by
  unfold s_conc at h
  rcases s_c2 h with ⟨x1, h⟩ | ⟨x1, h⟩
  · have hx1 := b_lt x1
    cases sr_num hx1 hx
    exact ⟨x, env, hE, hx1, rfl, h⟩
  · obtain ⟨x2, h⟩ := s_c1 h
    obtain ⟨-, h⟩ := s_c1 h
    obtain ⟨j, hj, hxj, hxj2, he⟩ := sr_sym x2 hx
    cases he
    rw [hxj2] at h
    obtain ⟨e1, e2⟩ := hE j
    have h3 := s_all_ok _ (sb (ρ j)) h e1 (by omega)
    rw [s_frc_eq] at h3
    obtain ⟨h4, h5⟩ := s_c1 h3
    exact ⟨_, _, sEk_set (p := (sb (ρ j), sb (ρ j))) hE (Nat.le_refl _) (Nat.le_refl _), s_bias_lt (b_lt h4), sb_inv (b_lt h4) rfl, h5⟩
/-! arithmetic below 2^32 -/
theorem a_mod (n : Nat) : Int32.ofNat (n % sM) = Int32.ofNat n := by
  apply Int32.toBitVec.inj
  show BitVec.ofNat 32 (n % 4294967296) = BitVec.ofNat 32 n
  apply BitVec.eq_of_toNat_eq
  rw [BitVec.toNat_ofNat, BitVec.toNat_ofNat]
  exact Nat.mod_mod n 4294967296
theorem a_add (x y : Nat) : Int32.ofNat x + Int32.ofNat y = Int32.ofNat ((x + y) % sM) := by rw [a_mod, Int32.ofNat_add]
theorem a_mul (x y : Nat) : Int32.ofNat x * Int32.ofNat y = Int32.ofNat ((x * y) % sM) := by rw [a_mod, Int32.ofNat_mul]
theorem a_sub {x y : Nat} (hx : x < sM) (hy : y < sM) : Int32.ofNat x - Int32.ofNat y = Int32.ofNat ((x + sM - y) % sM) := by
  have hx2 : x < 4294967296 := hx
  have hy2 : y < 4294967296 := hy
  rw [a_mod]
  apply Int32.toBitVec.inj
  show BitVec.ofNat 32 x - BitVec.ofNat 32 y = BitVec.ofNat 32 (x + 4294967296 - y)
  apply BitVec.eq_of_toNat_eq
  rw [BitVec.toNat_sub, BitVec.toNat_ofNat, BitVec.toNat_ofNat, BitVec.toNat_ofNat]
  show (4294967296 - y % 4294967296 + x % 4294967296) % 4294967296 = (x + 4294967296 - y) % 4294967296
  omega
theorem a_xor (x y : Nat) : Int32.ofNat x ^^^ Int32.ofNat y = Int32.ofNat (Nat.xor x y) := by
  apply Int32.toBitVec.inj
  show BitVec.ofNat 32 x ^^^ BitVec.ofNat 32 y = BitVec.ofNat 32 (x ^^^ y)
  apply BitVec.eq_of_toNat_eq
  simp [Nat.xor_mod_two_pow]
theorem a_and (x y : Nat) : Int32.ofNat x &&& Int32.ofNat y = Int32.ofNat (Nat.land x y) := by
  apply Int32.toBitVec.inj
  show BitVec.ofNat 32 x &&& BitVec.ofNat 32 y = BitVec.ofNat 32 (x &&& y)
  apply BitVec.eq_of_toNat_eq
  simp [Nat.and_mod_two_pow]
theorem a_div {x y : Nat} (hx : x < 2147483648) (hy : y < 2147483648) : Int32.ofNat x / Int32.ofNat y = Int32.ofNat (x / y) := by
  have hxy : x / y ≤ x := Nat.div_le_self x y
  have hne : Int32.ofNat y ≠ -1 := by
    intro q
    have h1 := congrArg Int32.toInt q
    rw [Int32.toInt_ofNat_of_lt (by omega)] at h1
    have h2 : (-1 : Int32).toInt = -1 := by decide
    rw [h2] at h1
    omega
  apply Int32.toInt_inj.1
  rw [Int32.toInt_div_of_ne_right _ _ hne, Int32.toInt_ofNat_of_lt (by omega), Int32.toInt_ofNat_of_lt (by omega), Int32.toInt_ofNat_of_lt (by omega)]
  rfl
theorem a_rem {x y : Nat} (hx : x < 2147483648) (hy : y < 2147483648) (h0 : 0 < y) : Int32.ofNat x - Int32.ofNat x / Int32.ofNat y * Int32.ofNat y = Int32.ofNat (x % y) := by
  rw [a_div hx hy, a_mul]
  have h1 : x / y * y ≤ x := Nat.div_mul_le_self x y
  have h2 : x / y * y + x % y = x := by have := Nat.div_add_mod x y; rw [Nat.mul_comm] at this; exact this
  have h3 : x % y < y := Nat.mod_lt x h0
  have e : (x / y * y) % sM = x / y * y := Nat.mod_eq_of_lt (by show _ < 4294967296; omega)
  rw [e, a_sub (by show _ < 4294967296; omega) (by show _ < 4294967296; omega)]
  congr 1
  show (x + 4294967296 - x / y * y) % 4294967296 = x % y
  omega
theorem a_ne0 {y : Nat} (h : y < sM) (h0 : 0 < y) : ¬ Int32.ofNat y = 0 := by
  intro q
  have h1 : sb (Int32.ofNat y) = sb (Int32.ofNat 0) := by rw [q]; rfl
  have h2 : y < 4294967296 := h
  rw [sb_of h, sb_of (by decide)] at h1
  have h3 := s_bias2 h
  rw [h1] at h3
  have h4 : s_bias (s_bias 0) = 0 := s_bias2 (by decide)
  omega
end
section
/-! THE S MACHINE STANDS FOR THE J MACHINE: code, frames, cells -/
def sow (y : Nat) : Nat := ((jv_inf y).getD (0, 0, 0, 0, 0, 0)).1
def sini (y : Nat) : Bool := decide (((jv_inf y).getD (0, 0, 0, 0, 0, 0)).2.1 = 2)
def sk_const (i : Instr) (a : Nat) : Bool := match i with
  | .iconst n => decide (Int32.ofInt n = Int32.ofNat a ∧ a < sM)
  | .bipush n => decide ((Int8.ofInt n).toInt32 = Int32.ofNat a ∧ a < sM)
  | .sipush n => decide ((Int16.ofInt n).toInt32 = Int32.ofNat a ∧ a < sM)
  | _ => false
def sk_iload (i : Instr) (a : Nat) : Bool := match i with
  | .iload_n k => decide (k.val = a)
  | .iload k => decide (k = a)
  | _ => false
def sk_aload (i : Instr) (a : Nat) : Bool := match i with
  | .aload_n k => decide (k.val = a)
  | .aload k => decide (k = a)
  | _ => false
def sk_dload (i : Instr) (a : Nat) : Bool := match i with
  | .dload_n k => decide (k.val = a)
  | .dload k => decide (k = a)
  | _ => false
def sk_istore (i : Instr) (a : Nat) : Bool := match i with
  | .istore_n k => decide (k.val = a)
  | .istore k => decide (k = a)
  | _ => false
def sk_astore (i : Instr) (a : Nat) : Bool := match i with
  | .astore_n k => decide (k.val = a)
  | .astore k => decide (k = a)
  | _ => false
def sk_dstore (i : Instr) (a : Nat) : Bool := match i with
  | .dstore_n k => decide (k.val = a)
  | .dstore k => decide (k = a)
  | _ => false
def sk_iinc (i : Instr) (a b : Nat) : Bool := match i with
  | .iinc k n => decide (k = a ∧ Int32.ofInt n = Int32.ofNat b ∧ b < sM)
  | _ => false
def sk_getf (y : Nat) (i : Instr) (a b : Nat) : Bool := match i with
  | .getfield idx => decide (jv_fld (sow y) idx = some (a, b))
  | _ => false
/-- kinds: 0 whole number, 1 truth, 2 reference -/
def pv_k (kd : Nat) (ty : FieldType) : Bool := match kd, ty with
  | 0, .int => true
  | 1, .boolean => true
  | 2, .object _ => true
  | 2, .array _ => true
  | _, _ => false
def sk_putf (y : Nat) (i : Instr) (a b kd : Nat) : Bool := match i with
  | .putfield idx => decide (jv_fld (sow y) idx = some (a, b) ∧ ((jv_fT a b).2.2.2 = false ∨ (sini y = true ∧ a = sow y))) && pv_k kd (jv_fty a b)
  | _ => false
def sk_goto (pc : Nat) (i : Instr) (a : Nat) : Bool := match i with
  | .goto off => decide ((pc : Int) + off = (a : Int))
  | _ => false
def sk_if (pc : Nat) (i : Instr) (a b : Nat) : Bool := match i with
  | .ifCond c off => decide (s_ccn c = a ∧ (pc : Int) + off = (b : Int))
  | _ => false
def sk_icmp (pc : Nat) (i : Instr) (a b : Nat) : Bool := match i with
  | .if_icmp c off => decide (s_ccn c = a ∧ (pc : Int) + off = (b : Int))
  | _ => false
def sk_new (y : Nat) (i : Instr) (a : Nat) : Bool := match i with
  | .new idx => decide (jv_new (sow y) idx = some a ∧ a < 9)
  | _ => false
def sk_newa (i : Instr) (a : Nat) : Bool := match i with
  | .newarray .int => decide (a = 0)
  | .newarray .boolean => decide (a = 1)
  | _ => false
def sk_anew (y : Nat) (i : Instr) (a : Nat) : Bool := match i with
  | .anewarray idx => decide ((jv_new (sow y) idx = some 6 ∧ a = 2) ∨ (jv_new (sow y) idx = some 5 ∧ a = 3))
  | _ => false
def sk_call (y : Nat) (i : Instr) (a b : Nat) : Bool := match jv_isC i, jv_inf y, jv_inf a with
  | some (ck, idx), some (ow, _, _, _, fr, lo), some (ow2, kd2, na2, mL2, fr2, lo2) => decide (jv_cal ow idx = some (a, na2, ((jv_cal ow idx).getD (0, 0, 0)).2.2) ∧ a < 272 ∧ ck = kd2 ∧ b = na2 + 16 * mL2 + 1024 * (if kd2 = 0 then 0 else ow2 + 1) ∧ na2 < 16 ∧ mL2 < 64 ∧ na2 ≤ mL2 ∧ (kd2 = 0 ∨ 1 ≤ na2) ∧ fr2 + 1 ≤ fr ∧ 19 + mL2 + lo2 ≤ lo)
  | _, _, _ => false
def sk_spec (y : Nat) (i : Instr) (z ck fr0 lo0 : Nat) : Bool := match jv_isC i, jv_inf y with
  | some (ck1, idx), some (ow, _, _, _, fr, lo) => match jv_cal ow idx with
    | some (z1, _, _) => decide (z1 = z ∧ ck1 = ck ∧ fr0 ≤ fr ∧ lo0 ≤ lo)
    | none => false
  | _, _ => false
def sk_r0 (i : Instr) (rt : Option FieldType) : Bool := match i, rt with
  | .return_, none => true
  | _, _ => false
def sk_r1 (i : Instr) (rt : Option FieldType) : Bool := match i, rt with
  | .ireturn, some .int => true
  | _, _ => false
def sk_r2 (i : Instr) (rt : Option FieldType) : Bool := match i, rt with
  | .ireturn, some .boolean => true
  | _, _ => false
def sk_r3 (i : Instr) (rt : Option FieldType) : Bool := match i, rt with
  | .areturn, some (.object _) => true
  | _, _ => false
def sk_r4 (i : Instr) (rt : Option FieldType) : Bool := match i, rt with
  | .freturn, some .float => true
  | _, _ => false
def sk_r5 (i : Instr) (rt : Option FieldType) : Bool := match i, rt with
  | .dreturn, some .double => true
  | _, _ => false
def sk_ret (y : Nat) (i : Instr) (kd : Nat) : Bool := match kd with
  | 0 => sk_r0 i (jv_ym y).2.2
  | 1 => sk_r1 i (jv_ym y).2.2
  | 2 => sk_r2 i (jv_ym y).2.2
  | 3 => sk_r3 i (jv_ym y).2.2
  | 4 => sk_r4 i (jv_ym y).2.2
  | _ => sk_r5 i (jv_ym y).2.2
def sk_tab (pc : Nat) (i : Instr) (a : Nat) : Bool := match i with
  | .tableswitch d lo hi offs => decide (a = pc ∧ 0 ≤ (pc : Int) + d ∧ -2147483648 ≤ lo ∧ lo < 2147483648 ∧ -2147483648 ≤ hi ∧ hi < 2147483648) && offs.toList.all (fun off => decide (0 ≤ (pc : Int) + off))
  | _ => false
def sk_lsw (pc : Nat) (i : Instr) (a : Nat) : Bool := match i with
  | .lookupswitch d ps => decide (a = pc ∧ 0 ≤ (pc : Int) + d ∧ 0 < ps.toList.length) && ((ps.toList.zip (ps.toList.drop 1)).all (fun (a, next) => a.1 < next.1) && ps.toList.all (fun p => decide (0 ≤ (pc : Int) + p.2 ∧ -2147483648 ≤ p.1 ∧ p.1 < 2147483648)))
  | _ => false
def sk_pure (pc : Nat) (i : Instr) (a b : Nat) : Bool := match i with
  | .fconst _ => decide (a = pc ∧ b = 0)
  | .dconst _ => decide (a = pc ∧ b = 0)
  | .i2f => decide (a = pc ∧ b = 1)
  | .i2d => decide (a = pc ∧ b = 1)
  | .f2d => decide (a = pc ∧ b = 1)
  | .fdiv => decide (a = pc ∧ b = 2)
  | .ddiv => decide (a = pc ∧ b = 2)
  | .dcmp _ => decide (a = pc ∧ b = 2)
  | _ => false
def sk_ldc (y : Nat) (i : Instr) (a kd : Nat) : Bool := match i with
  | .ldc idx => match jv_ldc (sow y) idx, kd with
    | some (.int w), 0 => decide (w = Int32.ofNat a ∧ a < sM)
    | some (.ref p), 1 => decide (a = sREF + p ∧ p < sM)
    | _, _ => false
  | _ => false
def sk1 (y pc : Nat) (i : Instr) (op a b : Nat) : Bool := match op with
  | 0 => sk_const i a
  | 1 => sk_iload i a
  | 2 => sk_aload i a
  | 3 => sk_dload i a
  | 4 => sk_istore i a
  | 5 => sk_astore i a
  | 6 => sk_dstore i a
  | 7 => sk_iinc i a b
  | 8 => sk_getf y i a b
  | 9 => sk_putf y i a b 0
  | 10 => sk_putf y i a b 1
  | 11 => sk_putf y i a b 2
  | 12 => sk_goto pc i a
  | 13 => sk_if pc i a b
  | 14 => sk_icmp pc i a b
  | 15 => decide (i = .iadd)
  | 16 => decide (i = .isub)
  | 17 => decide (i = .imul)
  | 18 => decide (i = .idiv)
  | 19 => decide (i = .irem)
  | 20 => decide (i = .iand)
  | 21 => decide (i = .ishr)
  | 22 => decide (i = .ixor)
  | 23 => decide (i = .iaload)
  | 24 => decide (i = .baload)
  | 25 => decide (i = .aaload)
  | 26 => decide (i = .iastore)
  | 27 => decide (i = .bastore)
  | 28 => decide (i = .aastore)
  | 29 => decide (i = .arraylength)
  | 30 => sk_new y i a
  | 31 => sk_newa i a
  | 32 => sk_anew y i a
  | 33 => decide (i = .dup)
  | 34 => decide (i = .dup2)
  | 35 => decide (i = .pop)
  | 36 => sk_call y i a b
  | 37 => sk_spec y i 900 2 1 20
  | 38 => sk_spec y i 901 1 2 40
  | 39 => sk_spec y i 902 1 6 120
  | 40 => sk_ret y i 0
  | 41 => sk_ret y i 1
  | 42 => sk_ret y i 2
  | 43 => sk_ret y i 3
  | 44 => sk_ret y i 4
  | 45 => sk_ret y i 5
  | 46 => sk_tab pc i a
  | 47 => sk_pure pc i a b
  | 48 => sk_ldc y i a 0
  | 49 => sk_ldc y i a 1
  | 50 => sk_lsw pc i a
  | _ => true
def s_k (y pc : Nat) (e : sI) : Bool := match jv_code y pc with
  | some (i, len) => Nat.beq len e.2.2.2 && sk1 y pc i e.1 e.2.1 e.2.2.1
  | none => false
def s_ok (y : Nat) : Nat → List sI → Bool
  | _, [] => true
  | pc, e :: t => s_k y pc e && s_ok y (pc + e.2.2.2) t
theorem s_find_ok {y tgt : Nat} {cl : List sI} : ∀ (l : List sI) (pc : Nat), s_ok y pc l = true → s_find l pc tgt = some cl → s_ok y tgt cl = true
  | [], pc, _, h => by cases h
  | e :: t, pc, h1, h2 => by
    have h3 : cond (Nat.beq pc tgt) (some (e :: t)) (s_find t (pc + e.2.2.2) tgt) = some cl := h2
    cases hq : Nat.beq pc tgt with
    | true =>
      rw [hq] at h3
      cases h3
      rw [← b_eq hq]
      exact h1
    | false =>
      rw [hq] at h3
      exact s_find_ok t _ (s_and h1).2 h3
end
