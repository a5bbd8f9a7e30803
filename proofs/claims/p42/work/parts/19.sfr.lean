/-! STEPS OF THE J MACHINE -/
abbrev jF : Type := Nat × Nat × List (Option Value) × List Value
/-- with enough fuel it comes to x -/
def jv_ev (y pc : Nat) (Lv : List (Option Value)) (st : List Value) (h : jv_H) (x : Option Value × jv_H) : Prop := ∃ N, ∀ n, N ≤ n → jv_run n y pc Lv st h = some x
def jv_isR (i : Instr) : Bool := match i with
  | .return_ => true
  | .ireturn => true
  | .areturn => true
  | .lreturn => true
  | .freturn => true
  | .dreturn => true
  | _ => false
theorem jv_ret_no {rt : Option FieldType} {i : Instr} {st : List Value} (h : jv_isR i = false) : jv_ret rt i st = none := by
  unfold jv_ret
  split <;> first | rfl | cases h
theorem jv_run_step {n y pc pc' : Nat} {Lv Lv' : List (Option Value)} {st st' : List Value} {h h1 : jv_H} {i : Instr} {len ow kd na mL fr lo : Nat} (hinf : jv_inf y = some (ow, kd, na, mL, fr, lo)) (hcode : jv_code y pc = some (i, len)) (hr : jv_isR i = false) (hc : jv_isC i = none) (hs : jv_step ow (decide (kd = 2)) i len pc Lv st h = some (pc', Lv', st', h1)) :
    jv_run (n + 1) y pc Lv st h = jv_run n y pc' Lv' st' h1 := by
  rw [jv_run]
  simp only [hinf, hcode, jv_ret_no hr, hc, hs]
theorem jv_run_ret {n y pc : Nat} {Lv : List (Option Value)} {st : List Value} {h : jv_H} {i : Instr} {len ow kd na mL fr lo : Nat} {r : Option Value} (hinf : jv_inf y = some (ow, kd, na, mL, fr, lo)) (hcode : jv_code y pc = some (i, len)) (hr : jv_ret (jv_ym y).2.2 i st = some r) : jv_run (n + 1) y pc Lv st h = some (r, h) := by
  rw [jv_run]
  simp only [hinf, hcode, hr]
theorem jv_isC_noR {i : Instr} {q : Nat × Nat} (h : jv_isC i = some q) : jv_isR i = false := by
  obtain ⟨ck, idx⟩ := q
  rcases jv_isC_eq h with ⟨-, rfl⟩ | ⟨-, rfl⟩ | ⟨-, rfl⟩ <;> rfl
theorem jv_run_call {n y pc ck idx z na' ne : Nat} {Lv : List (Option Value)} {st : List Value} {h h1 : jv_H} {i : Instr} {len ow kd na mL fr lo : Nat} {q : Nat × Nat × Nat × Nat × Nat × Nat} {r1 : Option Value} (hinf : jv_inf y = some (ow, kd, na, mL, fr, lo)) (hcode : jv_code y pc = some (i, len)) (hc : jv_isC i = some (ck, idx)) (hcal : jv_cal ow idx = some (z, na', ne)) (h0 : z ≠ 900) (h1' : z ≠ 903) (h2 : z ≠ 904) (h3' : z ≠ 905) (hq : jv_inf z = some q) (hmay : jv_may ck fr lo q na' st h = true)
    (hr1 : jv_run n z 0 ((st.take na').reverse.map some ++ List.replicate (q.2.2.2.1 - na') none) [] h = some (r1, h1)) : jv_run (n + 1) y pc Lv st h = jv_run n y (pc + 3) Lv (r1.toList ++ st.drop na') h1 := by
  rw [jv_run]
  simp only [hinf, hcode, jv_ret_no (jv_isC_noR hc), hc, hcal, if_neg h0, if_neg h1', if_neg h2, if_neg h3', hq, hmay, if_true, hr1]
theorem jv_ev_step {y pc y' pc' : Nat} {Lv Lv' : List (Option Value)} {st st' : List Value} {h h1 : jv_H} {x : Option Value × jv_H} (hs : ∀ n, jv_run (n + 1) y pc Lv st h = jv_run n y' pc' Lv' st' h1) (hx : jv_ev y' pc' Lv' st' h1 x) : jv_ev y pc Lv st h x := by
  obtain ⟨N, hN⟩ := hx
  refine ⟨N + 1, fun n hn => ?_⟩
  obtain ⟨m, rfl⟩ : ∃ m, n = m + 1 := ⟨n - 1, by omega⟩
  rw [hs m]
  exact hN m (by omega)
/-- locals and stacks, number by number -/
def sO (ρ : Nat → Int32) (x : Nat) (o : Option Value) : Prop := match o with
  | none => x = sUNS
  | some v => sr ρ x v
def sL (ρ : Nat → Int32) : List Nat → List (Option Value) → Prop
  | [], M => M = []
  | x :: t, M => ∃ o M', M = o :: M' ∧ sO ρ x o ∧ sL ρ t M'
def sS (ρ : Nat → Int32) : List Nat → List Value → Prop
  | [], M => M = []
  | x :: t, M => ∃ v M', M = v :: M' ∧ sr ρ x v ∧ sS ρ t M'
theorem jv_cat2_one {M : List (Option Value)} {i : Nat} (h : ∀ v, M[i]? = some (some v) → v.category = 1) : ¬ jv_cat2 M i = true := by
  unfold jv_cat2
  split
  · rename_i hq
    cases h _ hq
  · rename_i hq
    cases h _ hq
  · intro q; cases q
/-- cells -/
def sRo (x : Nat) (o : Option Nat) : Prop := match o with
  | none => x = sNUL
  | some b => x = sREF + b ∧ b < sM
def sCk (ρ : Nat → Int32) (c : Nat × Nat × (Nat → Nat)) (x : jv_E) : Prop := match x with
  | .inl (ty, n, f) => c.1 = ty ∧ ty < 2 ∧ c.2.1 = n ∧ ∀ i, i < n → sr ρ (c.2.2 i) (.int (f i))
  | .inr (.inl (ty, n, f)) => c.1 = ty ∧ (ty = 2 ∨ ty = 3) ∧ c.2.1 = n ∧ ∀ i, i < n → sRo (c.2.2 i) (f i)
  | .inr (.inr (d, fs)) => c.1 = 16 + d ∧ c.2.1 = fs.length ∧ ∀ (i : Nat) (v : Value), fs[i]? = some v → sr ρ (c.2.2 i) v
def sHk (ρ : Nat → Int32) (L : Nat) (xs : Nat → Int32) (H : sH) (h : jv_H) : Prop := h.2.1 = H.2.1 ∧ h.2.2 = H.2.2 ∧ H.2.1 ≤ 600000 ∧ h.1 1000000 = .inl (9, L, xs) ∧ ∀ a, a < H.2.1 → sCk ρ (H.1 a) (h.1 a)
def sRho (L : Nat) (xs ρ : Nat → Int32) : Prop := L ≤ 3072 ∧ (∀ k, k < 6 → ρ k = xs k) ∧ ρ 6 = Int32.ofNat L ∧ ρ 7 = xs 0 &&& 63
def sFs (ρ : Nat → Int32) : List sF → List jF → Prop
  | [], gs => gs = []
  | f :: t, gs => ∃ g gs', gs = g :: gs' ∧ (f.1 = g.1 ∧ f.2.1 = g.2.1 ∧ f.1 < 272 ∧ s_ok f.1 f.2.1 f.2.2.1 = true ∧ sL ρ f.2.2.2.1 g.2.2.1 ∧ sS ρ f.2.2.2.2 g.2.2.2) ∧ sFs ρ t gs'
def sX (ρ : Nat → Int32) (L : Nat) (xs : Nat → Int32) (env : sE) (rest : List sF) (H : sH) (gs : List jF) (y pc : Nat) (i : Instr) (len : Nat) (t : List sI) (SL st : List Nat) (Lv : List (Option Value)) (vs : List Value) (h : jv_H) : Prop :=
  sRho L xs ρ ∧ sEk ρ env ∧ y < 272 ∧ jv_code y pc = some (i, len) ∧ s_ok y (pc + len) t = true ∧ sL ρ SL Lv ∧ sS ρ st vs ∧ sFs ρ rest gs ∧ sHk ρ L xs H h
theorem s_inf {y : Nat} (hy : y < 272) : ∃ (ow kd na mL fr lo : Nat), jv_inf y = some (ow, kd, na, mL, fr, lo) ∧ sow y = ow ∧ sini y = decide (kd = 2) := by
  obtain ⟨⟨ow, kd, na, mL, fr, lo⟩, hq⟩ := Option.isSome_iff_exists.mp (sc_inf y hy)
  exact ⟨ow, kd, na, mL, fr, lo, hq, by unfold sow; rw [hq]; rfl, by unfold sini; rw [hq]; rfl⟩
section SOK
variable {ρ : Nat → Int32} {L : Nat} {xs : Nat → Int32} {y pc : Nat} {i : Instr} {len : Nat} {t : List sI} {SL st : List Nat} {Lv : List (Option Value)} {vs : List Value} {h : jv_H}
theorem st_pure {ow : Nat} {ini : Bool} {vs' : List Value} (h0 : jv_pure i vs = some vs') : jv_step ow ini i len pc Lv vs h = some (pc + len, Lv, vs', h) := by
  unfold jv_step
  rw [h0]
theorem st_ld {ow : Nat} {ini : Bool} {vs' : List Value} (h0 : jv_pure i vs = none) (h1 : jv_ld i Lv vs = some vs') : jv_step ow ini i len pc Lv vs h = some (pc + len, Lv, vs', h) := by
  unfold jv_step
  rw [h0, h1]
theorem st_br {ow pc' : Nat} {ini : Bool} {vs' : List Value} (h0 : jv_pure i vs = none) (h1 : jv_ld i Lv vs = none) (h2 : jv_br i pc vs = some (pc', vs')) : jv_step ow ini i len pc Lv vs h = some (pc', Lv, vs', h) := by
  unfold jv_step
  rw [h0, h1, h2]
theorem st_sto {ow : Nat} {ini : Bool} {Lv' : List (Option Value)} {vs' : List Value} (h0 : jv_pure i vs = none) (h1 : jv_ld i Lv vs = none) (h2 : jv_br i pc vs = none) (h3 : jv_sto i Lv vs = some (Lv', vs')) : jv_step ow ini i len pc Lv vs h = some (pc + len, Lv', vs', h) := by
  unfold jv_step
  rw [h0, h1, h2, h3]
theorem st_heap {ow : Nat} {ini : Bool} {vs' : List Value} {h1 : jv_H} (h0 : jv_pure i vs = none) (h2 : jv_ld i Lv vs = none) (h3 : jv_br i pc vs = none) (h4 : jv_sto i Lv vs = none) (h5 : jv_heap ow ini i vs h = some (vs', h1)) : jv_step ow ini i len pc Lv vs h = some (pc + len, Lv, vs', h1) := by
  unfold jv_step
  rw [h0, h2, h3, h4, h5]
theorem s_jmp {off : Int} {b : Nat} {r : List Value} (h1 : (pc : Int) + off = (b : Int)) : jv_jmp pc off r = some (b, r) := by
  unfold jv_jmp
  rw [if_pos (by omega), h1]
  rfl
theorem sI_int {z : Nat} (h : z < 2147483648) : (Int32.ofNat z).toInt = z := Int32.toInt_ofNat_of_lt (by omega)
theorem sI_clamp {z : Nat} (h : z < 2147483648) : (Int32.ofNat z).toNatClampNeg = z := by
  show (Int32.ofNat z).toInt.toNat = z
  rw [sI_int h]
  omega
end SOK

section SOK3
variable {ρ : Nat → Int32} {L : Nat} {xs : Nat → Int32} {y pc : Nat} {i : Instr} {len : Nat} {t : List sI} {SL st : List Nat} {Lv : List (Option Value)} {vs : List Value} {h : jv_H}
theorem jv_wd_take {M : List Value} (h : jv_wd M = M.length) : ∀ n : Nat, jv_wd (M.take n) = (M.take n).length ∧ jv_wd (M.drop n) = (M.drop n).length := by
  intro n
  have hge : ∀ u : List Value, u.length ≤ jv_wd u := by
    intro u
    induction u with
    | nil => exact Nat.le_refl _
    | cons x t ih =>
      have h2 : jv_wd (x :: t) = x.category + jv_wd t := by simp [jv_wd]
      rcases lv_cat x with h3 | h3 <;> simp only [List.length_cons] <;> omega
  have h1 : jv_wd M = jv_wd (M.take n) + jv_wd (M.drop n) := by
    unfold jv_wd
    rw [← List.sum_append, ← List.map_append, List.take_append_drop]
  have h2 : M.length = (M.take n).length + (M.drop n).length := by rw [← List.length_append, List.take_append_drop]
  have h3 := hge (M.take n)
  have h4 := hge (M.drop n)
  omega
theorem sk_spec_eq {z ck fr0 lo0 : Nat} (hk : sk_spec y i z ck fr0 lo0 = true) : ∃ (idx ow kd na mL fr lo na' ne : Nat), jv_isC i = some (ck, idx) ∧ jv_inf y = some (ow, kd, na, mL, fr, lo) ∧ jv_cal ow idx = some (z, na', ne) ∧ fr0 ≤ fr ∧ lo0 ≤ lo := by
  unfold sk_spec at hk
  split at hk
  · rename_i ck1 idx ow kd na mL fr lo hC hinf
    split at hk
    · rename_i z1 na' ne hcal
      obtain ⟨rfl, rfl, h1, h2⟩ := of_decide_eq_true hk
      exact ⟨idx, ow, kd, na, mL, fr, lo, na', ne, hC, hinf, hcal, h1, h2⟩
    · cases hk
  · cases hk
theorem sk_ret_1 {v : Value} (hk : sk_ret y i 1 = true) (hv : ∃ w, v = .int w) : jv_ret (jv_ym y).2.2 i [v] = some (some v) := by
  obtain ⟨w, rfl⟩ := hv
  have hk : sk_r1 i (jv_ym y).2.2 = true := hk
  unfold sk_r1 at hk
  generalize (jv_ym y).2.2 = rt at hk ⊢
  split at hk
  · exact if_pos rfl
  · cases hk
theorem sk_ret_2 {v : Value} (hk : sk_ret y i 2 = true) (hv : ∃ w : Int32, v = .int w ∧ (w = 0 ∨ w = 1)) : jv_ret (jv_ym y).2.2 i [v] = some (some v) := by
  obtain ⟨w, rfl, hw⟩ := hv
  have hn : narrow .boolean (.int w) = .int w := by rcases hw with rfl | rfl <;> decide
  have hk : sk_r2 i (jv_ym y).2.2 = true := hk
  unfold sk_r2 at hk
  generalize (jv_ym y).2.2 = rt at hk ⊢
  split at hk
  · exact if_pos hn
  · cases hk
theorem sk_ret_3 {v : Value} (hk : sk_ret y i 3 = true) (hv : ∃ a, v = .ref a) : jv_ret (jv_ym y).2.2 i [v] = some (some v) := by
  obtain ⟨w, rfl⟩ := hv
  have hk : sk_r3 i (jv_ym y).2.2 = true := hk
  unfold sk_r3 at hk
  generalize (jv_ym y).2.2 = rt at hk ⊢
  split at hk
  · exact rfl
  · cases hk
theorem s_to32 {z : Int} (h1 : -2147483648 ≤ z) (h2 : z < 2147483648) : (Int32.ofInt z).toInt = z := Int32.toInt_ofInt_of_le (by omega) (by omega)
end SOK3

section SMR
variable {ρ : Nat → Int32} {L : Nat} {xs : Nat → Int32} {y pc : Nat} {i : Instr} {len : Nat} {t : List sI} {SL st : List Nat} {Lv : List (Option Value)} {vs : List Value} {h : jv_H}
theorem len_if {a b : Nat} (hl : jv_sw i = true ∨ len = jv_len i) (hk : sk_if pc i a b = true) : len = 3 := by
  unfold sk_if at hk
  split at hk
  · exact jv_len1 hl rfl
  · cases hk
theorem len_icmp {a b : Nat} (hl : jv_sw i = true ∨ len = jv_len i) (hk : sk_icmp pc i a b = true) : len = 3 := by
  unfold sk_icmp at hk
  split at hk
  · exact jv_len1 hl rfl
  · cases hk
theorem len_C {q : Nat × Nat} (hl : jv_sw i = true ∨ len = jv_len i) (hC : jv_isC i = some q) : len = 3 := by
  obtain ⟨ck, idx⟩ := q
  rcases jv_isC_eq hC with ⟨-, rfl⟩ | ⟨-, rfl⟩ | ⟨-, rfl⟩ <;> exact jv_len1 hl rfl
theorem len_call {a b : Nat} (hl : jv_sw i = true ∨ len = jv_len i) (hk : sk_call y i a b = true) : len = 3 := by
  unfold sk_call at hk
  split at hk
  · rename_i hC _ _
    exact len_C hl hC
  · cases hk
theorem len_spec {z ck fr0 lo0 : Nat} (hl : jv_sw i = true ∨ len = jv_len i) (hk : sk_spec y i z ck fr0 lo0 = true) : len = 3 := by
  obtain ⟨idx, ow, kd, na, mL, fr, lo, na', ne, hC, -⟩ := sk_spec_eq hk
  exact len_C hl hC
end SMR
