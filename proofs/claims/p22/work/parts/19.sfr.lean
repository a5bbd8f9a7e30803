/-! THE S MACHINE STANDS FOR THE J MACHINE: frames, cells, what is left to run -/
abbrev jF : Type := Nat × Nat × List (Option Value) × List Value
/-- with enough fuel it comes to x -/
def jv_ev (y pc : Nat) (Lv : List (Option Value)) (st : List Value) (h : jv_H) (x : Option Value × jv_H) : Prop := ∃ N, ∀ n, N ≤ n → jv_run n y pc Lv st h = some x
/-- the frames run to the law's end, which answers 1 -/
def jv_fin : List jF → Nat → Nat → List (Option Value) → List Value → jv_H → jv_H → Prop
  | [], y, pc, Lv, st, h, h' => jv_ev y pc Lv st h (some (.int 1), h')
  | g :: gs, y, pc, Lv, st, h, h' => ∃ (r : Option Value) (h1 : jv_H), jv_ev y pc Lv st h (r, h1) ∧ jv_fin gs g.1 g.2.1 g.2.2.1 (r.toList ++ g.2.2.2) h1 h'
theorem jv_fin_of {gs : List jF} {y pc y' pc' : Nat} {Lv Lv' : List (Option Value)} {st st' : List Value} {h h1 h' : jv_H} (hs : ∀ x, jv_ev y' pc' Lv' st' h1 x → jv_ev y pc Lv st h x) (hf : jv_fin gs y' pc' Lv' st' h1 h') : jv_fin gs y pc Lv st h h' := by
  cases gs with
  | nil => exact hs _ hf
  | cons g gs =>
    obtain ⟨r, h2, hn, hf⟩ := hf
    exact ⟨r, h2, hs _ hn, hf⟩
def jv_isR (i : Instr) : Bool := match i with
  | .return_ => true
  | .ireturn => true
  | .areturn => true
  | .freturn => true
  | .dreturn => true
  | _ => false
theorem jv_ret_no {rt : Option FieldType} {i : Instr} {st : List Value} (h : jv_isR i = false) : jv_ret rt i st = none := by
  unfold jv_ret
  split <;> first | rfl | cases h
theorem jv_run_step {n y pc pc' : Nat} {Lv Lv' : List (Option Value)} {st st' : List Value} {h h1 : jv_H} {i : Instr} {len ow kd na mL fr lo : Nat} (hinf : jv_inf y = some (ow, kd, na, mL, fr, lo)) (hcode : jv_code y pc = some (i, len)) (hr : jv_isR i = false) (hc : jv_isC i = none) (hs : jv_step ow (decide (kd = 2)) i len pc Lv st h = some (pc', Lv', st', h1)) :
    jv_run (n + 1) y pc Lv st h = jv_run n y pc' Lv' st' h1 := by
  rw [jv_run]
  simp only [hinf, hcode, jv_ret_no hr, hc, hs]
theorem jv_run_ret {n y pc : Nat} {Lv : List (Option Value)} {st : List Value} {h : jv_H} {i : Instr} {len ow kd na mL fr lo : Nat} {r : Option Value} (hinf : jv_inf y = some (ow, kd, na, mL, fr, lo)) (hcode : jv_code y pc = some (i, len)) (hr : jv_ret (jv_ym y).2.2 i st = some r) : jv_run (n + 1) y pc Lv st h = some (r, h) := by
  rw [jv_run]
  simp only [hinf, hcode, hr]
theorem jv_isC_noR {i : Instr} {q : Nat × Nat} (h : jv_isC i = some q) : jv_isR i = false := by
  obtain ⟨ck, idx⟩ := q
  rcases jv_isC_eq h with ⟨-, rfl⟩ | ⟨-, rfl⟩ | ⟨-, rfl⟩ <;> rfl
theorem jv_run_call {n y pc ck idx z na' ne : Nat} {Lv : List (Option Value)} {st : List Value} {h h1 : jv_H} {i : Instr} {len ow kd na mL fr lo : Nat} {q : Nat × Nat × Nat × Nat × Nat × Nat} {r1 : Option Value} (hinf : jv_inf y = some (ow, kd, na, mL, fr, lo)) (hcode : jv_code y pc = some (i, len)) (hc : jv_isC i = some (ck, idx)) (hcal : jv_cal ow idx = some (z, na', ne)) (h0 : z ≠ 900) (h1' : z ≠ 901) (h2 : z ≠ 902) (hq : jv_inf z = some q) (hmay : jv_may ck fr lo q na' st h = true)
    (hr1 : jv_run n z 0 ((st.take na').reverse.map some ++ List.replicate (q.2.2.2.1 - na') none) [] h = some (r1, h1)) : jv_run (n + 1) y pc Lv st h = jv_run n y (pc + 3) Lv (r1.toList ++ st.drop na') h1 := by
  rw [jv_run]
  simp only [hinf, hcode, jv_ret_no (jv_isC_noR hc), hc, hcal, if_neg h0, if_neg h1', if_neg h2, hq, hmay, if_true, hr1]
theorem jv_run_obj {n y pc idx na' ne a : Nat} {Lv : List (Option Value)} {rst : List Value} {h : jv_H} {i : Instr} {len ow kd na mL fr lo : Nat} (hinf : jv_inf y = some (ow, kd, na, mL, fr, lo)) (hcode : jv_code y pc = some (i, len)) (hc : jv_isC i = some (2, idx)) (hcal : jv_cal ow idx = some (900, na', ne)) (h1 : 1 ≤ fr) (h2 : jv_wd rst + 12 ≤ lo) :
    jv_run (n + 1) y pc Lv (.ref a :: rst) h = jv_run n y (pc + 3) Lv rst h := by
  rw [jv_run]
  simp only [hinf, hcode, jv_ret_no (jv_isC_noR hc), hc, hcal]
  rw [if_pos trivial, if_pos ⟨trivial, h1, h2⟩]
theorem jv_run_slen {n y pc idx na' ne : Nat} {Lv : List (Option Value)} {st st' : List Value} {h : jv_H} {i : Instr} {len ow kd na mL fr lo : Nat} (hinf : jv_inf y = some (ow, kd, na, mL, fr, lo)) (hcode : jv_code y pc = some (i, len)) (hc : jv_isC i = some (1, idx)) (hcal : jv_cal ow idx = some (901, na', ne)) (hs : jv_strlen st = some st') (h1 : 2 ≤ fr) (h2 : 40 ≤ lo) (h3 : jv_wd (st.drop 1) ≤ 8) :
    jv_run (n + 1) y pc Lv st h = jv_run n y (pc + 3) Lv st' h := by
  rw [jv_run]
  simp only [hinf, hcode, jv_ret_no (jv_isC_noR hc), hc, hcal, hs]
  rw [if_neg (by decide), if_pos trivial, if_pos ⟨trivial, h1, h2, h3⟩]
theorem jv_run_sat {n y pc idx na' ne : Nat} {Lv : List (Option Value)} {st st' : List Value} {h : jv_H} {i : Instr} {len ow kd na mL fr lo : Nat} (hinf : jv_inf y = some (ow, kd, na, mL, fr, lo)) (hcode : jv_code y pc = some (i, len)) (hc : jv_isC i = some (1, idx)) (hcal : jv_cal ow idx = some (902, na', ne)) (hs : jv_strat st = some st') (h1 : 6 ≤ fr) (h2 : 120 ≤ lo) (h3 : jv_wd (st.drop 2) ≤ 8) :
    jv_run (n + 1) y pc Lv st h = jv_run n y (pc + 3) Lv st' h := by
  rw [jv_run]
  simp only [hinf, hcode, jv_ret_no (jv_isC_noR hc), hc, hcal, hs]
  rw [if_neg (by decide), if_neg (by decide), if_pos trivial, if_pos ⟨trivial, h1, h2, h3⟩]
theorem jv_ev_step {y pc y' pc' : Nat} {Lv Lv' : List (Option Value)} {st st' : List Value} {h h1 : jv_H} {x : Option Value × jv_H} (hs : ∀ n, jv_run (n + 1) y pc Lv st h = jv_run n y' pc' Lv' st' h1) (hx : jv_ev y' pc' Lv' st' h1 x) : jv_ev y pc Lv st h x := by
  obtain ⟨N, hN⟩ := hx
  refine ⟨N + 1, fun n hn => ?_⟩
  obtain ⟨m, rfl⟩ : ∃ m, n = m + 1 := ⟨n - 1, by omega⟩
  rw [hs m]
  exact hN m (by omega)
/-- locals and stacks, number by number -/
def sO (ρ : Nat → Int32) (x : Nat) (o : Option Value) : Prop := match o with
  | none => x = sUNS
  | some v => sr ρ x v
def sL (ρ : Nat → Int32) : List Nat → List (Option Value) → Prop
  | [], M => M = []
  | x :: t, M => ∃ o M', M = o :: M' ∧ sO ρ x o ∧ sL ρ t M'
def sS (ρ : Nat → Int32) : List Nat → List Value → Prop
  | [], M => M = []
  | x :: t, M => ∃ v M', M = v :: M' ∧ sr ρ x v ∧ sS ρ t M'
theorem sL_len {ρ : Nat → Int32} : ∀ (l : List Nat) (M : List (Option Value)), sL ρ l M → M.length = l.length
  | [], M, h => by rw [show M = [] from h]; rfl
  | x :: t, M, h => by
    obtain ⟨o, M', rfl, -, h2⟩ := h
    rw [List.length_cons, List.length_cons, sL_len t M' h2]
theorem sS_len {ρ : Nat → Int32} : ∀ (l : List Nat) (M : List Value), sS ρ l M → M.length = l.length
  | [], M, h => by rw [show M = [] from h]; rfl
  | x :: t, M, h => by
    obtain ⟨o, M', rfl, -, h2⟩ := h
    rw [List.length_cons, List.length_cons, sS_len t M' h2]
theorem sL_nth {ρ : Nat → Int32} : ∀ (l : List Nat) (M : List (Option Value)) (i : Nat), sL ρ l M → ¬ s_nth l i = sUNS → ∃ v, M[i]? = some (some v) ∧ sr ρ (s_nth l i) v
  | [], M, i, h, hn => absurd rfl hn
  | x :: t, M, 0, h, hn => by
    obtain ⟨o, M', rfl, h1, h2⟩ := h
    cases o with
    | none => exact absurd h1 hn
    | some v => exact ⟨v, rfl, h1⟩
  | x :: t, M, i + 1, h, hn => by
    obtain ⟨o, M', rfl, h1, h2⟩ := h
    exact sL_nth t M' i h2 hn
theorem jv_cat2_one {M : List (Option Value)} {i : Nat} (h : ∀ v, M[i]? = some (some v) → v.category = 1) : ¬ jv_cat2 M i = true := by
  unfold jv_cat2
  split
  · rename_i hq
    cases h _ hq
  · rename_i hq
    cases h _ hq
  · intro q; cases q
theorem sL_at {ρ : Nat → Int32} : ∀ (l : List Nat) (M : List (Option Value)) (i : Nat), sL ρ l M → ∀ v, M[i]? = some (some v) → sr ρ (s_nth l i) v := by
  intro l
  induction l with
  | nil =>
    intro M i h v hv
    rw [show M = [] from h] at hv
    cases hv
  | cons x t ih =>
    intro M i h v hv
    obtain ⟨o, M', rfl, h1, h2⟩ := h
    cases i with
    | zero =>
      have e : o = some v := by simpa using hv
      rw [e] at h1
      exact h1
    | succ j =>
      rw [List.getElem?_cons_succ] at hv
      exact ih M' j h2 v hv
theorem sL_cat {ρ : Nat → Int32} {l : List Nat} {M : List (Option Value)} {i : Nat} (h : sL ρ l M) (hn : s_isD (s_nth l i) = false) : ¬ jv_cat2 M i = true :=
  jv_cat2_one (fun v hv => sr_cat (b_nle hn) (sL_at l M i h v hv))
theorem sL_set {ρ : Nat → Int32} {x : Nat} {o : Option Value} : ∀ (l : List Nat) (M : List (Option Value)) (i : Nat), sL ρ l M → sO ρ x o → sL ρ (s_set l i x) (M.set i o)
  | [], M, i, h, _ => by
    rw [show M = [] from h]
    exact rfl
  | z :: t, M, 0, h, ho => by
    obtain ⟨o2, M', rfl, h1, h2⟩ := h
    exact ⟨o, M', rfl, ho, h2⟩
  | z :: t, M, i + 1, h, ho => by
    obtain ⟨o2, M', rfl, h1, h2⟩ := h
    exact ⟨o2, M'.set i o, rfl, h1, sL_set t M' i h2 ho⟩
theorem s_free_ok {ρ : Nat → Int32} {SL : List Nat} {Lv : List (Option Value)} {a : Nat} {v : Value} (hL : sL ρ SL Lv) (h : s_free SL a = true) : jv_set1 Lv a v = some (Lv.set a (some v)) := by
  unfold s_free at h
  obtain ⟨h1, h2⟩ := s_and h
  have hlt : a < Lv.length := by rw [sL_len _ _ hL]; exact b_lt h1
  unfold jv_set1
  rw [if_pos hlt]
  cases a with
  | zero => rfl
  | succ j =>
    have h3 : (!(s_isD (s_nth SL j))) = true := h2
    have h4 : s_isD (s_nth SL j) = false := by
      cases hq : s_isD (s_nth SL j) with
      | true => rw [hq] at h3; cases h3
      | false => rfl
    show (if jv_cat2 Lv j = true then none else some (Lv.set (j + 1) (some v))) = _
    rw [if_neg (sL_cat hL h4)]
theorem s_free_ok2 {ρ : Nat → Int32} {SL : List Nat} {Lv : List (Option Value)} {a : Nat} {v : Value} (hL : sL ρ SL Lv) (h : s_free SL a = true) (h9 : Nat.blt (a + 1) SL.length = true) : jv_set2 Lv a v = some ((Lv.set a (some v)).set (a + 1) none) := by
  unfold s_free at h
  obtain ⟨h1, h2⟩ := s_and h
  have hlt : a + 1 < Lv.length := by rw [sL_len _ _ hL]; exact b_lt h9
  unfold jv_set2
  rw [if_pos hlt]
  cases a with
  | zero => rfl
  | succ j =>
    have h3 : (!(s_isD (s_nth SL j))) = true := h2
    have h4 : s_isD (s_nth SL j) = false := by
      cases hq : s_isD (s_nth SL j) with
      | true => rw [hq] at h3; cases h3
      | false => rfl
    show (if jv_cat2 Lv j = true then none else some ((Lv.set (j + 1) (some v)).set (j + 2) none)) = _
    rw [if_neg (sL_cat hL h4)]
/-- cells -/
def sRo (x : Nat) (o : Option Nat) : Prop := match o with
  | none => x = sNUL
  | some b => x = sREF + b ∧ b < sM
def sCk (ρ : Nat → Int32) (c : Nat × Nat × (Nat → Nat)) (x : jv_E) : Prop := match x with
  | .inl (ty, n, f) => c.1 = ty ∧ ty < 2 ∧ c.2.1 = n ∧ ∀ i, i < n → sr ρ (c.2.2 i) (.int (f i))
  | .inr (.inl (ty, n, f)) => c.1 = ty ∧ (ty = 2 ∨ ty = 3) ∧ c.2.1 = n ∧ ∀ i, i < n → sRo (c.2.2 i) (f i)
  | .inr (.inr (d, fs)) => c.1 = 16 + d ∧ c.2.1 = fs.length ∧ ∀ (i : Nat) (v : Value), fs[i]? = some v → sr ρ (c.2.2 i) v
def sHk (ρ : Nat → Int32) (L : Nat) (xs : Nat → Int32) (H : sH) (h : jv_H) : Prop := h.2.1 = H.2.1 ∧ h.2.2 = H.2.2 ∧ H.2.1 ≤ 600000 ∧ h.1 1000000 = .inl (9, L, xs) ∧ ∀ a, a < H.2.1 → sCk ρ (H.1 a) (h.1 a)
def sRho (L : Nat) (xs ρ : Nat → Int32) : Prop := L ≤ 3072 ∧ (∀ k, k < 6 → ρ k = xs k) ∧ ρ 6 = Int32.ofNat L ∧ ρ 7 = xs 0 &&& 63
def sFs (ρ : Nat → Int32) : List sF → List jF → Prop
  | [], gs => gs = []
  | f :: t, gs => ∃ g gs', gs = g :: gs' ∧ (f.1 = g.1 ∧ f.2.1 = g.2.1 ∧ f.1 < 272 ∧ s_ok f.1 f.2.1 f.2.2.1 = true ∧ sL ρ f.2.2.2.1 g.2.2.1 ∧ sS ρ f.2.2.2.2 g.2.2.2) ∧ sFs ρ t gs'
/-- the law comes to its end with 1, within the room -/
def sG (gs : List jF) (y pc : Nat) (Lv : List (Option Value)) (st : List Value) (h : jv_H) : Prop := ∃ h', jv_fin gs y pc Lv st h h' ∧ h'.2.1 ≤ 600000 ∧ h'.2.2 ≤ 7302250
def sSnd (env : sE) (f : sF) (rest : List sF) (H : sH) : Prop :=
  ∀ (L : Nat) (xs ρ : Nat → Int32), sRho L xs ρ → sEk ρ env → ∀ (gs : List jF) (Lv : List (Option Value)) (st : List Value) (h : jv_H), f.1 < 272 → s_ok f.1 f.2.1 f.2.2.1 = true → sL ρ f.2.2.2.1 Lv → sS ρ f.2.2.2.2 st → sFs ρ rest gs → sHk ρ L xs H h → sG gs f.1 f.2.1 Lv st h
theorem sHk_put {ρ : Nat → Int32} {L : Nat} {xs : Nat → Int32} {H : sH} {h : jv_H} {p : Nat} {c : Nat × Nat × (Nat → Nat)} {x : jv_E} (hH : sHk ρ L xs H h) (hp : p < H.2.1) (hc : sCk ρ c x) : sHk ρ L xs (s_put H p c) (jv_put h p x) := by
  obtain ⟨h1, h2, h3, h4, h5⟩ := hH
  refine ⟨h1, h2, h3, ?_, fun a ha => ?_⟩
  · show jv_up h.1 p x 1000000 = _
    unfold jv_up
    rw [if_neg (by omega)]
    exact h4
  · show sCk ρ (cond (Nat.beq a p) c (H.1 a)) (jv_up h.1 p x a)
    unfold jv_up
    cases hq : Nat.beq a p with
    | true => rw [if_pos (b_eq hq)]; exact hc
    | false => rw [if_neg (b_ne hq)]; exact h5 a ha
theorem sHk_add {ρ : Nat → Int32} {L : Nat} {xs : Nat → Int32} {H : sH} {h : jv_H} {n : Nat} {c : Nat × Nat × (Nat → Nat)} {x : jv_E} (hH : sHk ρ L xs H h) (hp : H.2.1 < 600000) (hc : sCk ρ c x) : sHk ρ L xs (s_add H c n) (jv_add h x n) := by
  obtain ⟨h1, h2, h3, h4, h5⟩ := hH
  refine ⟨by show h.2.1 + 1 = H.2.1 + 1; rw [h1], by show h.2.2 + n = H.2.2 + n; rw [h2], hp, ?_, fun a ha => ?_⟩
  · show jv_up h.1 h.2.1 x 1000000 = _
    unfold jv_up
    rw [if_neg (by omega)]
    exact h4
  · have ha2 : a < H.2.1 + 1 := ha
    show sCk ρ (cond (Nat.beq a H.2.1) c (H.1 a)) (jv_up h.1 h.2.1 x a)
    unfold jv_up
    rw [h1]
    cases hq : Nat.beq a H.2.1 with
    | true => rw [if_pos (b_eq hq)]; exact hc
    | false =>
      have h6 := b_ne hq
      rw [if_neg h6]
      exact h5 a (by omega)
theorem sFs_nil {ρ : Nat → Int32} {gs : List jF} (h : sFs ρ [] gs) : gs = [] := h
