section
/-! THE S MACHINE STANDS FOR THE J MACHINE: frames, cells, what is left to run -/
abbrev jF : Type := Nat × Nat × List (Option Value) × List Value
/-- with enough fuel it comes to x -/
def jv_ev (y pc : Nat) (Lv : List (Option Value)) (st : List Value) (h : jv_H) (x : Option Value × jv_H) : Prop := ∃ N, ∀ n, N ≤ n → jv_run n y pc Lv st h = some x
/-- the frames run to the law's end, which answers 1 -/
def jv_fin : List jF → Nat → Nat → List (Option Value) → List Value → jv_H → jv_H → Prop
  | [], y, pc, Lv, st, h, h' => jv_ev y pc Lv st h (some (.int 1), h')
  | g :: gs, y, pc, Lv, st, h, h' => ∃ (r : Option Value) (h1 : jv_H), jv_ev y pc Lv st h (r, h1) ∧ jv_fin gs g.1 g.2.1 g.2.2.1 (r.toList ++ g.2.2.2) h1 h'
theorem jv_fin_of {gs : List jF} {y pc y' pc' : Nat} {Lv Lv' : List (Option Value)} {st st' : List Value} {h h1 h' : jv_H} (hs : ∀ x, jv_ev y' pc' Lv' st' h1 x → jv_ev y pc Lv st h x) (hf : jv_fin gs y' pc' Lv' st' h1 h') : jv_fin gs y pc Lv st h h' := by
  cases gs with
  | nil => exact hs _ hf
  | cons g gs =>
    obtain ⟨r, h2, hn, hf⟩ := hf
    exact ⟨r, h2, hs _ hn, hf⟩
def jv_isR (i : Instr) : Bool := match i with
  | .return_ => true
  | .ireturn => true
  | .areturn => true
  | .freturn => true
  | .dreturn => true
  | _ => false
theorem jv_ret_no {rt : Option FieldType} {i : Instr} {st : List Value} (h : jv_isR i = false) : jv_ret rt i st = none := by
  unfold jv_ret
  split <;> first | rfl | cases h
theorem jv_run_step {n y pc pc' : Nat} {Lv Lv' : List (Option Value)} {st st' : List Value} {h h1 : jv_H} {i : Instr} {len ow kd na mL fr lo : Nat} (hinf : jv_inf y = some (ow, kd, na, mL, fr, lo)) (hcode : jv_code y pc = some (i, len)) (hr : jv_isR i = false) (hc : jv_isC i = none) (hs : jv_step ow (decide (kd = 2)) i len pc Lv st h = some (pc', Lv', st', h1)) :
    jv_run (n + 1) y pc Lv st h = jv_run n y pc' Lv' st' h1 := by
  rw [jv_run]
  simp only [hinf, hcode, jv_ret_no hr, hc, hs]
theorem jv_run_ret {n y pc : Nat} {Lv : List (Option Value)} {st : List Value} {h : jv_H} {i : Instr} {len ow kd na mL fr lo : Nat} {r : Option Value} (hinf : jv_inf y = some (ow, kd, na, mL, fr, lo)) (hcode : jv_code y pc = some (i, len)) (hr : jv_ret (jv_ym y).2.2 i st = some r) : jv_run (n + 1) y pc Lv st h = some (r, h) := by
  rw [jv_run]
  simp only [hinf, hcode, hr]
theorem jv_isC_noR {i : Instr} {q : Nat × Nat} (h : jv_isC i = some q) : jv_isR i = false := by
  obtain ⟨ck, idx⟩ := q
  rcases jv_isC_eq h with ⟨-, rfl⟩ | ⟨-, rfl⟩ | ⟨-, rfl⟩ <;> rfl
theorem jv_run_call {n y pc ck idx z na' ne : Nat} {Lv : List (Option Value)} {st : List Value} {h h1 : jv_H} {i : Instr} {len ow kd na mL fr lo : Nat} {q : Nat × Nat × Nat × Nat × Nat × Nat} {r1 : Option Value} (hinf : jv_inf y = some (ow, kd, na, mL, fr, lo)) (hcode : jv_code y pc = some (i, len)) (hc : jv_isC i = some (ck, idx)) (hcal : jv_cal ow idx = some (z, na', ne)) (h0 : z ≠ 900) (h1' : z ≠ 901) (h2 : z ≠ 902) (hq : jv_inf z = some q) (hmay : jv_may ck fr lo q na' st h = true)
    (hr1 : jv_run n z 0 ((st.take na').reverse.map some ++ List.replicate (q.2.2.2.1 - na') none) [] h = some (r1, h1)) : jv_run (n + 1) y pc Lv st h = jv_run n y (pc + 3) Lv (r1.toList ++ st.drop na') h1 := by
  rw [jv_run]
  simp only [hinf, hcode, jv_ret_no (jv_isC_noR hc), hc, hcal, if_neg h0, if_neg h1', if_neg h2, hq, hmay, if_true, hr1]
theorem jv_run_obj {n y pc idx na' ne a : Nat} {Lv : List (Option Value)} {rst : List Value} {h : jv_H} {i : Instr} {len ow kd na mL fr lo : Nat} (hinf : jv_inf y = some (ow, kd, na, mL, fr, lo)) (hcode : jv_code y pc = some (i, len)) (hc : jv_isC i = some (2, idx)) (hcal : jv_cal ow idx = some (900, na', ne)) (h1 : 1 ≤ fr) (h2 : jv_wd rst + 12 ≤ lo) :
    jv_run (n + 1) y pc Lv (.ref a :: rst) h = jv_run n y (pc + 3) Lv rst h := by
  rw [jv_run]
  simp only [hinf, hcode, jv_ret_no (jv_isC_noR hc), hc, hcal]
  rw [if_pos trivial, if_pos ⟨trivial, h1, h2⟩]
theorem jv_run_slen {n y pc idx na' ne : Nat} {Lv : List (Option Value)} {st st' : List Value} {h : jv_H} {i : Instr} {len ow kd na mL fr lo : Nat} (hinf : jv_inf y = some (ow, kd, na, mL, fr, lo)) (hcode : jv_code y pc = some (i, len)) (hc : jv_isC i = some (1, idx)) (hcal : jv_cal ow idx = some (901, na', ne)) (hs : jv_strlen st = some st') (h1 : 2 ≤ fr) (h2 : 40 ≤ lo) (h3 : jv_wd (st.drop 1) ≤ 8) :
    jv_run (n + 1) y pc Lv st h = jv_run n y (pc + 3) Lv st' h := by
  rw [jv_run]
  simp only [hinf, hcode, jv_ret_no (jv_isC_noR hc), hc, hcal, hs]
  rw [if_neg (by decide), if_pos trivial, if_pos ⟨trivial, h1, h2, h3⟩]
theorem jv_run_sat {n y pc idx na' ne : Nat} {Lv : List (Option Value)} {st st' : List Value} {h : jv_H} {i : Instr} {len ow kd na mL fr lo : Nat} (hinf : jv_inf y = some (ow, kd, na, mL, fr, lo)) (hcode : jv_code y pc = some (i, len)) (hc : jv_isC i = some (1, idx)) (hcal : jv_cal ow idx = some (902, na', ne)) (hs : jv_strat st = some st') (h1 : 6 ≤ fr) (h2 : 120 ≤ lo) (h3 : jv_wd (st.drop 2) ≤ 8) :
    jv_run (n + 1) y pc Lv st h = jv_run n y (pc + 3) Lv st' h := by
  rw [jv_run]
  simp only [hinf, hcode, jv_ret_no (jv_isC_noR hc), hc, hcal, hs]
  rw [if_neg (by decide), if_neg (by decide), if_pos trivial, if_pos ⟨trivial, h1, h2, h3⟩]
theorem jv_ev_step {y pc y' pc' : Nat} {Lv Lv' : List (Option Value)} {st st' : List Value} {h h1 : jv_H} {x : Option Value × jv_H} (hs : ∀ n, jv_run (n + 1) y pc Lv st h = jv_run n y' pc' Lv' st' h1) (hx : jv_ev y' pc' Lv' st' h1 x) : jv_ev y pc Lv st h x := by
  obtain ⟨N, hN⟩ := hx
  refine ⟨N + 1, fun n hn => ?_⟩
  obtain ⟨m, rfl⟩ : ∃ m, n = m + 1 := ⟨n - 1, by omega⟩
  rw [hs m]
  exact hN m (by omega)
/-- locals and stacks, number by number -/
def sO (ρ : Nat → Int32) (x : Nat) (o : Option Value) : Prop := match o with
  | none => x = sUNS
  | some v => sr ρ x v
def sL (ρ : Nat → Int32) : List Nat → List (Option Value) → Prop
  | [], M => M = []
  | x :: t, M => ∃ o M', M = o :: M' ∧ sO ρ x o ∧ sL ρ t M'
def sS (ρ : Nat → Int32) : List Nat → List Value → Prop
  | [], M => M = []
  | x :: t, M => ∃ v M', M = v :: M' ∧ sr ρ x v ∧ sS ρ t M'
theorem sL_len {ρ : Nat → Int32} : ∀ (l : List Nat) (M : List (Option Value)), sL ρ l M → M.length = l.length
  | [], M, h => by rw [show M = [] from h]; rfl
  | x :: t, M, h => by
    obtain ⟨o, M', rfl, -, h2⟩ := h
    rw [List.length_cons, List.length_cons, sL_len t M' h2]
theorem sS_len {ρ : Nat → Int32} : ∀ (l : List Nat) (M : List Value), sS ρ l M → M.length = l.length
  | [], M, h => by rw [show M = [] from h]; rfl
  | x :: t, M, h => by
    obtain ⟨o, M', rfl, -, h2⟩ := h
    rw [List.length_cons, List.length_cons, sS_len t M' h2]
theorem sL_nth {ρ : Nat → Int32} : ∀ (l : List Nat) (M : List (Option Value)) (i : Nat), sL ρ l M → ¬ s_nth l i = sUNS → ∃ v, M[i]? = some (some v) ∧ sr ρ (s_nth l i) v
  | [], M, i, h, hn => absurd rfl hn
  | x :: t, M, 0, h, hn => by
    obtain ⟨o, M', rfl, h1, h2⟩ := h
    cases o with
    | none => exact absurd h1 hn
    | some v => exact ⟨v, rfl, h1⟩
  | x :: t, M, i + 1, h, hn => by
    obtain ⟨o, M', rfl, h1, h2⟩ := h
    exact sL_nth t M' i h2 hn
theorem jv_cat2_one {M : List (Option Value)} {i : Nat} (h : ∀ v, M[i]? = some (some v) → v.category = 1) : ¬ jv_cat2 M i = true := by
  unfold jv_cat2
  split
  · rename_i hq
    cases h _ hq
  · rename_i hq
    cases h _ hq
  · intro q; cases q
theorem sL_at {ρ : Nat → Int32} : ∀ (l : List Nat) (M : List (Option Value)) (i : Nat), sL ρ l M → ∀ v, M[i]? = some (some v) → sr ρ (s_nth l i) v := by
  intro l
  induction l with
  | nil =>
    intro M i h v hv
    rw [show M = [] from h] at hv
    cases hv
  | cons x t ih =>
    intro M i h v hv
    obtain ⟨o, M', rfl, h1, h2⟩ := h
    cases i with
    | zero =>
      have e : o = some v := by simpa using hv
      rw [e] at h1
      exact h1
    | succ j =>
      rw [List.getElem?_cons_succ] at hv
      exact ih M' j h2 v hv
theorem sL_cat {ρ : Nat → Int32} {l : List Nat} {M : List (Option Value)} {i : Nat} (h : sL ρ l M) (hn : s_isD (s_nth l i) = false) : ¬ jv_cat2 M i = true :=
  jv_cat2_one (fun v hv => sr_cat (b_nle hn) (sL_at l M i h v hv))
theorem sL_set {ρ : Nat → Int32} {x : Nat} {o : Option Value} : ∀ (l : List Nat) (M : List (Option Value)) (i : Nat), sL ρ l M → sO ρ x o → sL ρ (s_set l i x) (M.set i o)
  | [], M, i, h, _ => by
    rw [show M = [] from h]
    exact rfl
  | z :: t, M, 0, h, ho => by
    obtain ⟨o2, M', rfl, h1, h2⟩ := h
    exact ⟨o, M', rfl, ho, h2⟩
  | z :: t, M, i + 1, h, ho => by
    obtain ⟨o2, M', rfl, h1, h2⟩ := h
    exact ⟨o2, M'.set i o, rfl, h1, sL_set t M' i h2 ho⟩
theorem s_free_ok {ρ : Nat → Int32} {SL : List Nat} {Lv : List (Option Value)} {a : Nat} {v : Value} (hL : sL ρ SL Lv) (h : s_free SL a = true) : jv_set1 Lv a v = some (Lv.set a (some v)) := by
  unfold s_free at h
  obtain ⟨h1, h2⟩ := s_and h
  have hlt : a < Lv.length := by rw [sL_len _ _ hL]; exact b_lt h1
  unfold jv_set1
  rw [if_pos hlt]
  cases a with
  | zero => rfl
  | succ j =>
    have h3 : (!(s_isD (s_nth SL j))) = true := h2
    have h4 : s_isD (s_nth SL j) = false := by
      cases hq : s_isD (s_nth SL j) with
      | true => rw [hq] at h3; cases h3
      | false => rfl
    show (if jv_cat2 Lv j = true then none else some (Lv.set (j + 1) (some v))) = _
    rw [if_neg (sL_cat hL h4)]
theorem s_free_ok2 {ρ : Nat → Int32} {SL : List Nat} {Lv : List (Option Value)} {a : Nat} {v : Value} (hL : sL ρ SL Lv) (h : s_free SL a = true) (h9 : Nat.blt (a + 1) SL.length = true) : jv_set2 Lv a v = some ((Lv.set a (some v)).set (a + 1) none) := by
  unfold s_free at h
  obtain ⟨h1, h2⟩ := s_and h
  have hlt : a + 1 < Lv.length := by rw [sL_len _ _ hL]; exact b_lt h9
  unfold jv_set2
  rw [if_pos hlt]
  cases a with
  | zero => rfl
  | succ j =>
    have h3 : (!(s_isD (s_nth SL j))) = true := h2
    have h4 : s_isD (s_nth SL j) = false := by
      cases hq : s_isD (s_nth SL j) with
      | true => rw [hq] at h3; cases h3
      | false => rfl
    show (if jv_cat2 Lv j = true then none else some ((Lv.set (j + 1) (some v)).set (j + 2) none)) = _
    rw [if_neg (sL_cat hL h4)]
/-- cells -/
def sRo (x : Nat) (o : Option Nat) : Prop := match o with
  | none => x = sNUL
  | some b => x = sREF + b ∧ b < sM
def sCk (ρ : Nat → Int32) (c : Nat × Nat × (Nat → Nat)) (x : jv_E) : Prop := match x with
  | .inl (ty, n, f) => c.1 = ty ∧ ty < 2 ∧ c.2.1 = n ∧ ∀ i, i < n → sr ρ (c.2.2 i) (.int (f i))
  | .inr (.inl (ty, n, f)) => c.1 = ty ∧ (ty = 2 ∨ ty = 3) ∧ c.2.1 = n ∧ ∀ i, i < n → sRo (c.2.2 i) (f i)
  | .inr (.inr (d, fs)) => c.1 = 16 + d ∧ c.2.1 = fs.length ∧ ∀ (i : Nat) (v : Value), fs[i]? = some v → sr ρ (c.2.2 i) v
def sHk (ρ : Nat → Int32) (L : Nat) (xs : Nat → Int32) (H : sH) (h : jv_H) : Prop := h.2.1 = H.2.1 ∧ h.2.2 = H.2.2 ∧ H.2.1 ≤ 600000 ∧ h.1 1000000 = .inl (9, L, xs) ∧ ∀ a, a < H.2.1 → sCk ρ (H.1 a) (h.1 a)
def sRho (L : Nat) (xs ρ : Nat → Int32) : Prop := L ≤ 3072 ∧ (∀ k, k < 6 → ρ k = xs k) ∧ ρ 6 = Int32.ofNat L ∧ ρ 7 = xs 0 &&& 63
def sFs (ρ : Nat → Int32) : List sF → List jF → Prop
  | [], gs => gs = []
  | f :: t, gs => ∃ g gs', gs = g :: gs' ∧ (f.1 = g.1 ∧ f.2.1 = g.2.1 ∧ f.1 < 272 ∧ s_ok f.1 f.2.1 f.2.2.1 = true ∧ sL ρ f.2.2.2.1 g.2.2.1 ∧ sS ρ f.2.2.2.2 g.2.2.2) ∧ sFs ρ t gs'
/-- the law comes to its end with 1, within the room -/
def sG (gs : List jF) (y pc : Nat) (Lv : List (Option Value)) (st : List Value) (h : jv_H) : Prop := ∃ h', jv_fin gs y pc Lv st h h' ∧ h'.2.1 ≤ 600000 ∧ h'.2.2 ≤ 7302250
def sSnd (env : sE) (f : sF) (rest : List sF) (H : sH) : Prop :=
  ∀ (L : Nat) (xs ρ : Nat → Int32), sRho L xs ρ → sEk ρ env → ∀ (gs : List jF) (Lv : List (Option Value)) (st : List Value) (h : jv_H), f.1 < 272 → s_ok f.1 f.2.1 f.2.2.1 = true → sL ρ f.2.2.2.1 Lv → sS ρ f.2.2.2.2 st → sFs ρ rest gs → sHk ρ L xs H h → sG gs f.1 f.2.1 Lv st h
theorem sHk_put {ρ : Nat → Int32} {L : Nat} {xs : Nat → Int32} {H : sH} {h : jv_H} {p : Nat} {c : Nat × Nat × (Nat → Nat)} {x : jv_E} (hH : sHk ρ L xs H h) (hp : p < H.2.1) (hc : sCk ρ c x) : sHk ρ L xs (s_put H p c) (jv_put h p x) := by
  obtain ⟨h1, h2, h3, h4, h5⟩ := hH
  refine ⟨h1, h2, h3, ?_, fun a ha => ?_⟩
  · show jv_up h.1 p x 1000000 = _
    unfold jv_up
    rw [if_neg (by omega)]
    exact h4
  · show sCk ρ (cond (Nat.beq a p) c (H.1 a)) (jv_up h.1 p x a)
    unfold jv_up
    cases hq : Nat.beq a p with
    | true => rw [if_pos (b_eq hq)]; exact hc
    | false => rw [if_neg (b_ne hq)]; exact h5 a ha
theorem sHk_add {ρ : Nat → Int32} {L : Nat} {xs : Nat → Int32} {H : sH} {h : jv_H} {n : Nat} {c : Nat × Nat × (Nat → Nat)} {x : jv_E} (hH : sHk ρ L xs H h) (hp : H.2.1 < 600000) (hc : sCk ρ c x) : sHk ρ L xs (s_add H c n) (jv_add h x n) := by
  obtain ⟨h1, h2, h3, h4, h5⟩ := hH
  refine ⟨by show h.2.1 + 1 = H.2.1 + 1; rw [h1], by show h.2.2 + n = H.2.2 + n; rw [h2], hp, ?_, fun a ha => ?_⟩
  · show jv_up h.1 h.2.1 x 1000000 = _
    unfold jv_up
    rw [if_neg (by omega)]
    exact h4
  · have ha2 : a < H.2.1 + 1 := ha
    show sCk ρ (cond (Nat.beq a H.2.1) c (H.1 a)) (jv_up h.1 h.2.1 x a)
    unfold jv_up
    rw [h1]
    cases hq : Nat.beq a H.2.1 with
    | true => rw [if_pos (b_eq hq)]; exact hc
    | false =>
      have h6 := b_ne hq
      rw [if_neg h6]
      exact h5 a (by omega)
theorem sFs_nil {ρ : Nat → Int32} {gs : List jF} (h : sFs ρ [] gs) : gs = [] := h
end
section
/-! THE S MACHINE STANDS FOR THE J MACHINE: each operation -/
def sX (ρ : Nat → Int32) (L : Nat) (xs : Nat → Int32) (env : sE) (rest : List sF) (H : sH) (gs : List jF) (y pc : Nat) (i : Instr) (len : Nat) (t : List sI) (SL st : List Nat) (Lv : List (Option Value)) (vs : List Value) (h : jv_H) : Prop :=
  sRho L xs ρ ∧ sEk ρ env ∧ y < 272 ∧ jv_code y pc = some (i, len) ∧ s_ok y (pc + len) t = true ∧ sL ρ SL Lv ∧ sS ρ st vs ∧ sFs ρ rest gs ∧ sHk ρ L xs H h
theorem s_inf {y : Nat} (hy : y < 272) : ∃ (ow kd na mL fr lo : Nat), jv_inf y = some (ow, kd, na, mL, fr, lo) ∧ sow y = ow ∧ sini y = decide (kd = 2) := by
  obtain ⟨⟨ow, kd, na, mL, fr, lo⟩, hq⟩ := Option.isSome_iff_exists.mp (sc_inf y hy)
  exact ⟨ow, kd, na, mL, fr, lo, hq, by unfold sow; rw [hq]; rfl, by unfold sini; rw [hq]; rfl⟩
section SOK
variable {run : sRun} {ρ : Nat → Int32} {L : Nat} {xs : Nat → Int32} {env : sE} {rest : List sF} {H : sH} {gs : List jF} {y pc : Nat} {i : Instr} {len : Nat} {t : List sI} {SL st : List Nat} {Lv : List (Option Value)} {vs : List Value} {h : jv_H}
theorem sX_step (X : sX ρ L xs env rest H gs y pc i len t SL st Lv vs h) (hR : jv_isR i = false) (hC : jv_isC i = none) {pc' : Nat} {Lv' : List (Option Value)} {vs' : List Value} {h1 : jv_H} (hs : jv_step (sow y) (sini y) i len pc Lv vs h = some (pc', Lv', vs', h1)) (hg : sG gs y pc' Lv' vs' h1) : sG gs y pc Lv vs h := by
  obtain ⟨-, -, hy, hcode, -⟩ := X
  obtain ⟨ow, kd, na, mL, fr, lo, hinf, e1, e2⟩ := s_inf hy
  rw [e1, e2] at hs
  obtain ⟨h', hf, hb⟩ := hg
  exact ⟨h', jv_fin_of (fun x hx => jv_ev_step (fun n => jv_run_step hinf hcode hR hC hs) hx) hf, hb⟩
theorem sX_go (hrun : ∀ env f rest H, run env f rest H = true → sSnd env f rest H) (X : sX ρ L xs env rest H gs y pc i len t SL st Lv vs h) (hR : jv_isR i = false) (hC : jv_isC i = none) {Lv' : List (Option Value)} {vs' : List Value} {h1 : jv_H} (hs : jv_step (sow y) (sini y) i len pc Lv vs h = some (pc + len, Lv', vs', h1))
    {env' : sE} {SL' st' : List Nat} {H' : sH} (hr : run env' (y, pc + len, t, SL', st') rest H' = true) (hE : sEk ρ env') (hL : sL ρ SL' Lv') (hS : sS ρ st' vs') (hH : sHk ρ L xs H' h1) : sG gs y pc Lv vs h :=
  sX_step X hR hC hs (hrun _ _ _ _ hr L xs ρ X.1 hE gs Lv' vs' h1 X.2.2.1 X.2.2.2.2.1 hL hS X.2.2.2.2.2.2.2.1 hH)
theorem s_goto_ok (hrun : ∀ env f rest H, run env f rest H = true → sSnd env f rest H) {tgt : Nat} {env' : sE} {SL' st' : List Nat} {H' : sH} (hρ : sRho L xs ρ) (hE : sEk ρ env') (hy : y < 272) {Lv' : List (Option Value)} {vs' : List Value} {h1 : jv_H} (hL : sL ρ SL' Lv') (hS : sS ρ st' vs') (hrs : sFs ρ rest gs) (hH : sHk ρ L xs H' h1) (hr : s_goto sc_meth run env' y tgt SL' st' rest H' = true) : sG gs y tgt Lv' vs' h1 := by
  unfold s_goto at hr
  split at hr
  · rename_i l hl
    exact hrun _ _ _ _ hr L xs ρ hρ hE gs Lv' vs' h1 hy (s_find_ok _ 0 (sc_ok y hy) hl) hL hS hrs hH
  · cases hr
theorem st_pure {ow : Nat} {ini : Bool} {vs' : List Value} (h0 : jv_pure i vs = some vs') : jv_step ow ini i len pc Lv vs h = some (pc + len, Lv, vs', h) := by
  unfold jv_step
  rw [h0]
theorem st_ld {ow : Nat} {ini : Bool} {vs' : List Value} (h0 : jv_pure i vs = none) (h1 : jv_ld i Lv vs = some vs') : jv_step ow ini i len pc Lv vs h = some (pc + len, Lv, vs', h) := by
  unfold jv_step
  rw [h0, h1]
theorem st_br {ow pc' : Nat} {ini : Bool} {vs' : List Value} (h0 : jv_pure i vs = none) (h1 : jv_ld i Lv vs = none) (h2 : jv_br i pc vs = some (pc', vs')) : jv_step ow ini i len pc Lv vs h = some (pc', Lv, vs', h) := by
  unfold jv_step
  rw [h0, h1, h2]
theorem st_sto {ow : Nat} {ini : Bool} {Lv' : List (Option Value)} {vs' : List Value} (h0 : jv_pure i vs = none) (h1 : jv_ld i Lv vs = none) (h2 : jv_br i pc vs = none) (h3 : jv_sto i Lv vs = some (Lv', vs')) : jv_step ow ini i len pc Lv vs h = some (pc + len, Lv', vs', h) := by
  unfold jv_step
  rw [h0, h1, h2, h3]
theorem st_heap {ow : Nat} {ini : Bool} {vs' : List Value} {h1 : jv_H} (h0 : jv_pure i vs = none) (h2 : jv_ld i Lv vs = none) (h3 : jv_br i pc vs = none) (h4 : jv_sto i Lv vs = none) (h5 : jv_heap ow ini i vs h = some (vs', h1)) : jv_step ow ini i len pc Lv vs h = some (pc + len, Lv, vs', h1) := by
  unfold jv_step
  rw [h0, h2, h3, h4, h5]
theorem k_const (hrun : ∀ env f rest H, run env f rest H = true → sSnd env f rest H) (X : sX ρ L xs env rest H gs y pc i len t SL st Lv vs h) {a : Nat} (hk : sk_const i a = true) (hr : so_const run env y (pc + len) t a SL st rest H = true) : sG gs y pc Lv vs h := by
  have key : jv_pure i vs = some (.int (Int32.ofNat a) :: vs) ∧ jv_isR i = false ∧ jv_isC i = none ∧ a < sM := by
    unfold sk_const at hk
    split at hk
    · obtain ⟨h1, h2⟩ := of_decide_eq_true hk
      exact ⟨by rw [← h1]; rfl, rfl, rfl, h2⟩
    · obtain ⟨h1, h2⟩ := of_decide_eq_true hk
      exact ⟨by rw [← h1]; rfl, rfl, rfl, h2⟩
    · obtain ⟨h1, h2⟩ := of_decide_eq_true hk
      exact ⟨by rw [← h1]; rfl, rfl, rfl, h2⟩
    · cases hk
  obtain ⟨k1, k2, k3, k4⟩ := key
  obtain ⟨-, hE, -, -, -, hL, hS, -, hH⟩ := id X
  exact sX_go hrun X k2 k3 (st_pure k1) hr hE hL ⟨_, vs, rfl, Or.inl ⟨k4, rfl⟩, hS⟩ hH
theorem k_ldc (hrun : ∀ env f rest H, run env f rest H = true → sSnd env f rest H) (X : sX ρ L xs env rest H gs y pc i len t SL st Lv vs h) {a : Nat} (kd : Nat) (hk : sk_ldc y i a kd = true) (hr : so_const run env y (pc + len) t a SL st rest H = true) : sG gs y pc Lv vs h := by
  obtain ⟨-, hE, -, -, -, hL, hS, -, hH⟩ := id X
  unfold sk_ldc at hk
  split at hk
  · rename_i idx
    split at hk
    · rename_i w hl
      obtain ⟨h1, h2⟩ := of_decide_eq_true hk
      refine sX_go hrun X rfl rfl (st_heap (vs' := .int w :: vs) (h1 := h) rfl rfl rfl rfl ?_) hr hE hL ⟨_, vs, rfl, Or.inl ⟨h2, h1⟩, hS⟩ hH
      show (match jv_ldc (sow y) idx with
        | some v => some (v :: vs, h)
        | none => none) = _
      rw [hl]
    · rename_i p hl
      obtain ⟨h1, h2⟩ := of_decide_eq_true hk
      refine sX_go hrun X rfl rfl (st_heap (vs' := .ref p :: vs) (h1 := h) rfl rfl rfl rfl ?_) hr hE hL ⟨_, vs, rfl, ⟨h1, h2⟩, hS⟩ hH
      show (match jv_ldc (sow y) idx with
        | some v => some (v :: vs, h)
        | none => none) = _
      rw [hl]
    · cases hk
  · cases hk
theorem k_iload (hrun : ∀ env f rest H, run env f rest H = true → sSnd env f rest H) (X : sX ρ L xs env rest H gs y pc i len t SL st Lv vs h) {a : Nat} (hk : sk_iload i a = true) (hr : so_iload run env y (pc + len) t a SL st rest H = true) : sG gs y pc Lv vs h := by
  obtain ⟨-, hE, -, -, -, hL, hS, -, hH⟩ := id X
  obtain ⟨h1, hr⟩ := s_c1 hr
  have hu : ¬ s_nth SL a = sUNS := by intro q; rw [q] at h1; cases h1
  obtain ⟨v, hv, hsr⟩ := sL_nth _ _ a hL hu
  obtain ⟨w, rfl⟩ := sr_int h1 hsr
  have key : jv_pure i vs = none ∧ jv_ld i Lv vs = some (.int w :: vs) ∧ jv_isR i = false ∧ jv_isC i = none := by
    have e : jv_ldI Lv a vs = some (.int w :: vs) := by unfold jv_ldI; rw [hv]
    unfold sk_iload at hk
    split at hk
    · have h2 := of_decide_eq_true hk
      exact ⟨rfl, by rw [← h2] at e; exact e, rfl, rfl⟩
    · have h2 := of_decide_eq_true hk
      exact ⟨rfl, by rw [← h2] at e; exact e, rfl, rfl⟩
    · cases hk
  obtain ⟨k1, k2, k3, k4⟩ := key
  exact sX_go hrun X k3 k4 (st_ld k1 k2) hr hE hL ⟨_, vs, rfl, hsr, hS⟩ hH
theorem k_aload (hrun : ∀ env f rest H, run env f rest H = true → sSnd env f rest H) (X : sX ρ L xs env rest H gs y pc i len t SL st Lv vs h) {a : Nat} (hk : sk_aload i a = true) (hr : so_aload run env y (pc + len) t a SL st rest H = true) : sG gs y pc Lv vs h := by
  obtain ⟨-, hE, -, -, -, hL, hS, -, hH⟩ := id X
  obtain ⟨h1, hr⟩ := s_c1 hr
  have hu : ¬ s_nth SL a = sUNS := by intro q; rw [q] at h1; cases h1
  obtain ⟨v, hv, hsr⟩ := sL_nth _ _ a hL hu
  have hw := (sr_ref h1 hsr).1
  obtain ⟨w, hw2⟩ : ∃ w, w = s_nth SL a - sREF := ⟨_, rfl⟩
  rw [← hw2] at hw
  subst hw
  have key : jv_pure i vs = none ∧ jv_ld i Lv vs = some (.ref w :: vs) ∧ jv_isR i = false ∧ jv_isC i = none := by
    have e : jv_ldA Lv a vs = some (.ref w :: vs) := by unfold jv_ldA; rw [hv]
    unfold sk_aload at hk
    split at hk
    · have h2 := of_decide_eq_true hk
      exact ⟨rfl, by rw [← h2] at e; exact e, rfl, rfl⟩
    · have h2 := of_decide_eq_true hk
      exact ⟨rfl, by rw [← h2] at e; exact e, rfl, rfl⟩
    · cases hk
  obtain ⟨k1, k2, k3, k4⟩ := key
  exact sX_go hrun X k3 k4 (st_ld k1 k2) hr hE hL ⟨_, vs, rfl, hsr, hS⟩ hH
theorem k_dload (hrun : ∀ env f rest H, run env f rest H = true → sSnd env f rest H) (X : sX ρ L xs env rest H gs y pc i len t SL st Lv vs h) {a : Nat} (hk : sk_dload i a = true) (hr : so_dload run env y (pc + len) t a SL st rest H = true) : sG gs y pc Lv vs h := by
  obtain ⟨-, hE, -, -, -, hL, hS, -, hH⟩ := id X
  obtain ⟨h1, hr⟩ := s_c1 hr
  have hu : ¬ s_nth SL a = sUNS := by intro q; rw [q] at h1; cases h1
  obtain ⟨v, hv, hsr⟩ := sL_nth _ _ a hL hu
  obtain ⟨w, rfl⟩ := sr_dbl h1 hsr
  have key : jv_pure i vs = none ∧ jv_ld i Lv vs = some (.double w :: vs) ∧ jv_isR i = false ∧ jv_isC i = none := by
    have e : jv_ldD Lv a vs = some (.double w :: vs) := by unfold jv_ldD; rw [hv]
    unfold sk_dload at hk
    split at hk
    · have h2 := of_decide_eq_true hk
      exact ⟨rfl, by rw [← h2] at e; exact e, rfl, rfl⟩
    · have h2 := of_decide_eq_true hk
      exact ⟨rfl, by rw [← h2] at e; exact e, rfl, rfl⟩
    · cases hk
  obtain ⟨k1, k2, k3, k4⟩ := key
  exact sX_go hrun X k3 k4 (st_ld k1 k2) hr hE hL ⟨_, vs, rfl, hsr, hS⟩ hH
theorem k_istore (hrun : ∀ env f rest H, run env f rest H = true → sSnd env f rest H) (X : sX ρ L xs env rest H gs y pc i len t SL st Lv vs h) {a : Nat} (hk : sk_istore i a = true) (hr : so_istore run env y (pc + len) t a SL st rest H = true) : sG gs y pc Lv vs h := by
  obtain ⟨-, hE, -, -, -, hL, hS, -, hH⟩ := id X
  unfold so_istore at hr
  split at hr
  · rename_i x r
    obtain ⟨h1, hr⟩ := s_c1 hr
    obtain ⟨h1, h2⟩ := s_and h1
    obtain ⟨v, vs', rfl, hsr, hS⟩ := hS
    obtain ⟨w, rfl⟩ := sr_int h1 hsr
    have key : jv_pure i (.int w :: vs') = none ∧ jv_ld i Lv (.int w :: vs') = none ∧ jv_br i pc (.int w :: vs') = none ∧ jv_sto i Lv (.int w :: vs') = some (Lv.set a (some (.int w)), vs') ∧ jv_isR i = false ∧ jv_isC i = none := by
      have e : jv_stI Lv a (.int w :: vs') = some (Lv.set a (some (.int w)), vs') := by unfold jv_stI; simp only [s_free_ok hL h2]
      unfold sk_istore at hk
      split at hk
      · have h2 := of_decide_eq_true hk
        exact ⟨rfl, rfl, rfl, by rw [← h2] at e ⊢; exact e, rfl, rfl⟩
      · have h2 := of_decide_eq_true hk
        exact ⟨rfl, rfl, rfl, by rw [← h2] at e ⊢; exact e, rfl, rfl⟩
      · cases hk
    obtain ⟨k1, k2, k3, k4, k5, k6⟩ := key
    exact sX_go hrun X k5 k6 (st_sto k1 k2 k3 k4) hr hE (sL_set (o := some (.int w)) _ _ a hL hsr) hS hH
  · cases hr
theorem k_astore (hrun : ∀ env f rest H, run env f rest H = true → sSnd env f rest H) (X : sX ρ L xs env rest H gs y pc i len t SL st Lv vs h) {a : Nat} (hk : sk_astore i a = true) (hr : so_astore run env y (pc + len) t a SL st rest H = true) : sG gs y pc Lv vs h := by
  obtain ⟨-, hE, -, -, -, hL, hS, -, hH⟩ := id X
  unfold so_astore at hr
  split at hr
  · rename_i x r
    obtain ⟨h1, hr⟩ := s_c1 hr
    obtain ⟨h1, h2⟩ := s_and h1
    obtain ⟨v, vs', rfl, hsr, hS⟩ := hS
    have hw := (sr_ref h1 hsr).1
    obtain ⟨w, hw2⟩ : ∃ w, w = x - sREF := ⟨_, rfl⟩
    rw [← hw2] at hw
    subst hw
    have key : jv_pure i (.ref w :: vs') = none ∧ jv_ld i Lv (.ref w :: vs') = none ∧ jv_br i pc (.ref w :: vs') = none ∧ jv_sto i Lv (.ref w :: vs') = some (Lv.set a (some (.ref w)), vs') ∧ jv_isR i = false ∧ jv_isC i = none := by
      have e : jv_stA Lv a (.ref w :: vs') = some (Lv.set a (some (.ref w)), vs') := by unfold jv_stA; simp only [s_free_ok hL h2]
      unfold sk_astore at hk
      split at hk
      · have h2 := of_decide_eq_true hk
        exact ⟨rfl, rfl, rfl, by rw [← h2] at e ⊢; exact e, rfl, rfl⟩
      · have h2 := of_decide_eq_true hk
        exact ⟨rfl, rfl, rfl, by rw [← h2] at e ⊢; exact e, rfl, rfl⟩
      · cases hk
    obtain ⟨k1, k2, k3, k4, k5, k6⟩ := key
    exact sX_go hrun X k5 k6 (st_sto k1 k2 k3 k4) hr hE (sL_set (o := some (.ref w)) _ _ a hL hsr) hS hH
  · cases hr
theorem k_dstore (hrun : ∀ env f rest H, run env f rest H = true → sSnd env f rest H) (X : sX ρ L xs env rest H gs y pc i len t SL st Lv vs h) {a : Nat} (hk : sk_dstore i a = true) (hr : so_dstore run env y (pc + len) t a SL st rest H = true) : sG gs y pc Lv vs h := by
  obtain ⟨-, hE, -, -, -, hL, hS, -, hH⟩ := id X
  unfold so_dstore at hr
  split at hr
  · rename_i x r
    obtain ⟨h1, hr⟩ := s_c1 hr
    obtain ⟨h1, h2⟩ := s_and h1
    obtain ⟨h2, h3⟩ := s_and h2
    obtain ⟨v, vs', rfl, hsr, hS⟩ := hS
    obtain ⟨w, rfl⟩ := sr_dbl h1 hsr
    have key : jv_pure i (.double w :: vs') = none ∧ jv_ld i Lv (.double w :: vs') = none ∧ jv_br i pc (.double w :: vs') = none ∧ jv_sto i Lv (.double w :: vs') = some ((Lv.set a (some (.double w))).set (a + 1) none, vs') ∧ jv_isR i = false ∧ jv_isC i = none := by
      have e : jv_stD Lv a (.double w :: vs') = some ((Lv.set a (some (.double w))).set (a + 1) none, vs') := by unfold jv_stD; simp only [s_free_ok2 hL h2 h3]
      unfold sk_dstore at hk
      split at hk
      · have h2 := of_decide_eq_true hk
        exact ⟨rfl, rfl, rfl, by rw [← h2] at e ⊢; exact e, rfl, rfl⟩
      · have h2 := of_decide_eq_true hk
        exact ⟨rfl, rfl, rfl, by rw [← h2] at e ⊢; exact e, rfl, rfl⟩
      · cases hk
    obtain ⟨k1, k2, k3, k4, k5, k6⟩ := key
    exact sX_go hrun X k5 k6 (st_sto k1 k2 k3 k4) hr hE (sL_set (o := none) _ _ (a + 1) (sL_set (o := some (.double w)) _ _ a hL hsr) rfl) hS hH
  · cases hr
theorem k_iinc (hrun : ∀ env f rest H, run env f rest H = true → sSnd env f rest H) (X : sX ρ L xs env rest H gs y pc i len t SL st Lv vs h) {a b : Nat} (hk : sk_iinc i a b = true) (hr : so_iinc run env y (pc + len) t a b SL st rest H = true) : sG gs y pc Lv vs h := by
  obtain ⟨-, hE, -, -, -, hL, hS, -, hH⟩ := id X
  unfold sk_iinc at hk
  split at hk
  · rename_i k n
    obtain ⟨rfl, hn, hb⟩ := of_decide_eq_true hk
    unfold so_iinc at hr
    have hu : ¬ s_nth SL k = sUNS := by
      intro q
      rw [q] at hr
      have e : s_res env sUNS = sUNS := by unfold s_res; rfl
      rw [e] at hr
      cases hr
    obtain ⟨v, hv, hsr⟩ := sL_nth _ _ k hL hu
    have hsr2 := sr_res hE hsr
    have hI : ∃ w, v = .int w := by
      have h3 := hr
      unfold s_conc at h3
      rcases s_c2 h3 with ⟨x1, -⟩ | ⟨x1, h3⟩
      · exact ⟨_, sr_num (b_lt x1) hsr2⟩
      · obtain ⟨x2, -⟩ := s_c1 h3
        obtain ⟨j, -, -, -, e⟩ := sr_sym x2 hsr2
        exact ⟨_, e⟩
    obtain ⟨w, rfl⟩ := hI
    obtain ⟨z, env', hE', hz, rfl, hr⟩ := s_conc_ok hr hE hsr2
    obtain ⟨h1, hr⟩ := s_c1 hr
    rw [s_frc_eq] at hr
    refine sX_go hrun X rfl rfl (st_sto (Lv' := Lv.set k (some (.int (Int32.ofNat z + Int32.ofInt n)))) (vs' := vs) rfl rfl rfl ?_) hr hE' (sL_set (o := some (.int (Int32.ofNat z + Int32.ofInt n))) _ _ k hL ?_) hS hH
    · show (match Lv[k]? with
        | some (some (.int x)) => match jv_set1 Lv k (.int (x + Int32.ofInt n)) with
          | some L' => some (L', vs)
          | none => none
        | _ => none) = _
      rw [hv]
      show (match jv_set1 Lv k (.int (Int32.ofNat z + Int32.ofInt n)) with
          | some L' => some (L', vs)
          | none => none) = _
      rw [s_free_ok hL h1]
    · rw [hn, a_add]
      exact Or.inl ⟨Nat.mod_lt _ (by decide), rfl⟩
  · cases hk
theorem s_conc_int {k : Nat → sE → Bool} {x : Nat} {v : Value} (hr : s_conc env x k = true) (hsr : sr ρ x v) : ∃ w, v = .int w := by
  unfold s_conc at hr
  rcases s_c2 hr with ⟨x1, -⟩ | ⟨x1, hr⟩
  · exact ⟨_, sr_num (b_lt x1) hsr⟩
  · obtain ⟨x2, -⟩ := s_c1 hr
    obtain ⟨j, -, -, -, e⟩ := sr_sym x2 hsr
    exact ⟨_, e⟩
/-- an operation on two numbers -/
theorem k_two (hrun : ∀ env f rest H, run env f rest H = true → sSnd env f rest H) (X : sX ρ L xs env rest H gs y pc i len t SL st Lv vs h) {f : Nat → Nat → Nat} {ok : Nat → Nat → Bool} {g : Int32 → Int32 → Int32} (hR : jv_isR i = false) (hC : jv_isC i = none) (hp : ∀ (x v : Nat) (r : List Value), x < sM → v < sM → ok x v = true → jv_pure i (.int (Int32.ofNat v) :: .int (Int32.ofNat x) :: r) = some (.int (g (Int32.ofNat x) (Int32.ofNat v)) :: r) ∧ f x v < sM ∧ g (Int32.ofNat x) (Int32.ofNat v) = Int32.ofNat (f x v))
    (hr : so_two run env y (pc + len) t SL st rest H f ok = true) : sG gs y pc Lv vs h := by
  obtain ⟨-, hE, -, -, -, hL, hS, -, hH⟩ := id X
  unfold so_two at hr
  split at hr
  · rename_i v x r
    obtain ⟨v1, vs1, rfl, hsv, v2, vs2, rfl, hsx, hS⟩ := hS
    have hsx2 := sr_res hE hsx
    obtain ⟨wx, rfl⟩ := s_conc_int hr hsx2
    obtain ⟨z, env', hE', hz, rfl, hr⟩ := s_conc_ok hr hE hsx2
    have hsv2 := sr_res hE' hsv
    obtain ⟨wv, rfl⟩ := s_conc_int hr hsv2
    obtain ⟨z2, env2, hE2, hz2, rfl, hr⟩ := s_conc_ok hr hE' hsv2
    obtain ⟨h1, hr⟩ := s_c1 hr
    rw [s_frc_eq] at hr
    obtain ⟨p1, p2, p3⟩ := hp z z2 vs2 hz hz2 h1
    exact sX_go hrun X hR hC (st_pure p1) hr hE2 hL ⟨_, vs2, rfl, Or.inl ⟨p2, p3⟩, hS⟩ hH
  · cases hr
theorem k_iand (hrun : ∀ env f rest H, run env f rest H = true → sSnd env f rest H) (X : sX ρ L xs env rest H gs y pc i len t SL st Lv vs h) (hk : i = .iand) (hr : so_iand run env y (pc + len) t SL st rest H = true) : sG gs y pc Lv vs h := by
  subst hk
  obtain ⟨hρ, hE, -, -, -, hL, hS, -, hH⟩ := id X
  unfold so_iand at hr
  split at hr
  · rename_i v x r
    obtain ⟨v1, vs1, rfl, hsv, v2, vs2, rfl, hsx, hS⟩ := hS
    rcases s_c2 hr with ⟨q, hr⟩ | ⟨q, hr⟩
    · obtain ⟨q1, q2⟩ := s_and q
      have hx1 := b_lt q1
      have hv1 := b_lt q2
      cases sr_num hx1 hsx
      cases sr_num hv1 hsv
      rw [s_frc_eq] at hr
      refine sX_go hrun X rfl rfl (st_pure (vs' := .int (Int32.ofNat x &&& Int32.ofNat v) :: vs2) rfl) hr hE hL ⟨_, vs2, rfl, Or.inl ⟨?_, a_and x v⟩, hS⟩ hH
      exact Nat.lt_of_le_of_lt Nat.and_le_left hx1
    · rcases s_c2 hr with ⟨q3, hr⟩ | ⟨q3, hr⟩
      · obtain ⟨q1, q2⟩ := s_and q3
        have ex : x = 17179869184 := b_eq q1
        have ev : v = 63 := b_eq q2
        subst ex
        subst ev
        cases sr_num (by decide) hsv
        have hS0 : s_isS 17179869184 = true := rfl
        obtain ⟨k, hk, hk2, hk3, rfl⟩ := sr_sym hS0 hsx
        have hk2 : 17179869184 = 17179869184 + k := hk2
        have hk0 : k = 0 := by omega
        subst hk0
        refine sX_go hrun X rfl rfl (st_pure (vs' := .int (ρ 0 &&& Int32.ofNat 63) :: vs2) rfl) hr hE hL ⟨_, vs2, rfl, Or.inr (Or.inl ⟨7, by decide, rfl, ?_⟩), hS⟩ hH
        rw [hρ.2.2.2, hρ.2.1 0 (by decide)]
        rfl
      · obtain ⟨q4, hr⟩ := s_c1 hr
        obtain ⟨q1, q2⟩ := s_and q4
        obtain ⟨wx, rfl⟩ := sr_int q1 hsx
        obtain ⟨wv, rfl⟩ := sr_int q2 hsv
        exact sX_go hrun X rfl rfl (st_pure (vs' := .int (wx &&& wv) :: vs2) rfl) hr hE hL ⟨_, vs2, rfl, Or.inr (Or.inr rfl), hS⟩ hH
  · cases hr
theorem k_ishr (hrun : ∀ env f rest H, run env f rest H = true → sSnd env f rest H) (X : sX ρ L xs env rest H gs y pc i len t SL st Lv vs h) (hk : i = .ishr) (hr : so_ishr run env y (pc + len) t SL st rest H = true) : sG gs y pc Lv vs h := by
  subst hk
  obtain ⟨hρ, hE, -, -, -, hL, hS, -, hH⟩ := id X
  unfold so_ishr at hr
  split at hr
  · rename_i v x r
    obtain ⟨v1, vs1, rfl, hsv, v2, vs2, rfl, hsx, hS⟩ := hS
    obtain ⟨q4, hr⟩ := s_c1 hr
    obtain ⟨q1, q2⟩ := s_and q4
    obtain ⟨wx, rfl⟩ := sr_int q1 hsx
    obtain ⟨wv, rfl⟩ := sr_int q2 hsv
    exact sX_go hrun X rfl rfl (st_pure (vs' := .int (wx >>> (wv &&& 31)) :: vs2) rfl) hr hE hL ⟨_, vs2, rfl, Or.inr (Or.inr rfl), hS⟩ hH
  · cases hr
theorem k_goto (hrun : ∀ env f rest H, run env f rest H = true → sSnd env f rest H) (X : sX ρ L xs env rest H gs y pc i len t SL st Lv vs h) {a : Nat} (hk : sk_goto pc i a = true) (hr : s_goto sc_meth run env y a SL st rest H = true) : sG gs y pc Lv vs h := by
  obtain ⟨hρ, hE, hy, -, -, hL, hS, hrs, hH⟩ := id X
  unfold sk_goto at hk
  split at hk
  · rename_i off
    have h1 := of_decide_eq_true hk
    refine sX_step X rfl rfl (st_br (pc' := a) (vs' := vs) rfl rfl ?_) (s_goto_ok hrun hρ hE hy hL hS hrs hH hr)
    show jv_jmp pc off vs = some (a, vs)
    unfold jv_jmp
    rw [if_pos (by omega), h1]
    rfl
  · cases hk
theorem s_jmp {off : Int} {b : Nat} {r : List Value} (h1 : (pc : Int) + off = (b : Int)) : jv_jmp pc off r = some (b, r) := by
  unfold jv_jmp
  rw [if_pos (by omega), h1]
  rfl
theorem s_lt_int {x v : Nat} {kt kf : sE → Bool} (hr : s_lt env x v kt kf = true) : (x < sM ∨ s_isS x = true) ∧ (v < sM ∨ s_isS v = true) := by
  unfold s_lt at hr
  rcases s_c2 hr with ⟨x1, hr⟩ | ⟨x1, hr⟩
  · refine ⟨Or.inl (b_lt x1), ?_⟩
    rcases s_c2 hr with ⟨y1, hr⟩ | ⟨y1, hr⟩
    · exact Or.inl (b_lt y1)
    · exact Or.inr (s_c1 hr).1
  · obtain ⟨q, -⟩ := s_c1 hr
    obtain ⟨q1, q2⟩ := s_and q
    exact ⟨Or.inr q1, Or.inl (b_lt q2)⟩
theorem s_eq_int {x v : Nat} {kt kf : sE → Bool} (hr : s_eq env x v kt kf = true) : (x < sM ∨ s_isS x = true) ∧ (v < sM ∨ s_isS v = true) := by
  unfold s_eq at hr
  rcases s_c2 hr with ⟨x1, hr⟩ | ⟨x1, hr⟩
  · refine ⟨Or.inl (b_lt x1), ?_⟩
    rcases s_c2 hr with ⟨y1, hr⟩ | ⟨y1, hr⟩
    · exact Or.inl (b_lt y1)
    · exact Or.inr (s_c1 hr).1
  · obtain ⟨q, -⟩ := s_c1 hr
    obtain ⟨q1, q2⟩ := s_and q
    exact ⟨Or.inr q1, Or.inl (b_lt q2)⟩
theorem s_cc_int {cc x v : Nat} {kt kf : sE → Bool} (hr : s_cc env cc x v kt kf = true) : (x < sM ∨ s_isS x = true) ∧ (v < sM ∨ s_isS v = true) := by
  unfold s_cc at hr
  rcases s_c2 hr with ⟨-, hr⟩ | ⟨-, hr⟩
  · exact s_eq_int hr
  rcases s_c2 hr with ⟨-, hr⟩ | ⟨-, hr⟩
  · exact s_eq_int hr
  rcases s_c2 hr with ⟨-, hr⟩ | ⟨-, hr⟩
  · exact s_lt_int hr
  rcases s_c2 hr with ⟨-, hr⟩ | ⟨-, hr⟩
  · exact s_lt_int hr
  rcases s_c2 hr with ⟨-, hr⟩ | ⟨-, hr⟩
  · exact (s_lt_int hr).symm
  · exact (s_lt_int hr).symm
theorem sI_of {x : Nat} {v : Value} (hx : x < sM ∨ s_isS x = true) (hsr : sr ρ x v) : ∃ w, v = .int w := by
  rcases hx with hx | hx
  · exact ⟨_, sr_num hx hsr⟩
  · obtain ⟨j, -, -, -, e⟩ := sr_sym hx hsr
    exact ⟨_, e⟩
theorem k_if (hrun : ∀ env f rest H, run env f rest H = true → sSnd env f rest H) (X : sX ρ L xs env rest H gs y pc i len t SL st Lv vs h) {a b : Nat} (hk : sk_if pc i a b = true) (hlen : len = 3) (hr : so_if sc_meth run env y (pc + len) t a b SL st rest H = true) : sG gs y pc Lv vs h := by
  obtain ⟨hρ, hE, hy, -, hok, hL, hS, hrs, hH⟩ := id X
  unfold sk_if at hk
  split at hk
  · rename_i cn off
    obtain ⟨rfl, h1⟩ := of_decide_eq_true hk
    unfold so_if at hr
    split at hr
    · rename_i x r
      obtain ⟨v1, vs1, rfl, hsx, hS⟩ := hS
      have hsx2 := sr_res hE hsx
      obtain ⟨w, rfl⟩ := sI_of (s_cc_int hr).1 hsx2
      rcases s_cc_ok hr hE hsx2 (Or.inl ⟨by decide, rfl⟩ : sr ρ 0 (.int (Int32.ofNat 0))) with ⟨hc, env', hE', hr⟩ | ⟨hc, env', hE', hr⟩
      · refine sX_step X rfl rfl (st_br (pc' := b) (vs' := vs1) rfl rfl ?_) (s_goto_ok hrun hρ hE' hy hL hS hrs hH hr)
        show (match jv_jmp pc off vs1 with
          | some t => if jv_cc cn w 0 = true then some t else some (pc + 3, vs1)
          | none => none) = some (b, vs1)
        rw [s_jmp h1]
        exact if_pos hc
      · refine sX_go hrun X rfl rfl (st_br (pc' := pc + len) (vs' := vs1) rfl rfl ?_) hr hE' hL hS hH
        show (match jv_jmp pc off vs1 with
          | some t => if jv_cc cn w 0 = true then some t else some (pc + 3, vs1)
          | none => none) = some (pc + len, vs1)
        rw [s_jmp h1, hlen]
        exact if_neg hc
    · cases hr
  · cases hk
theorem k_icmp (hrun : ∀ env f rest H, run env f rest H = true → sSnd env f rest H) (X : sX ρ L xs env rest H gs y pc i len t SL st Lv vs h) {a b : Nat} (hk : sk_icmp pc i a b = true) (hlen : len = 3) (hr : so_icmp sc_meth run env y (pc + len) t a b SL st rest H = true) : sG gs y pc Lv vs h := by
  obtain ⟨hρ, hE, hy, -, hok, hL, hS, hrs, hH⟩ := id X
  unfold sk_icmp at hk
  split at hk
  · rename_i cn off
    obtain ⟨rfl, h1⟩ := of_decide_eq_true hk
    unfold so_icmp at hr
    split at hr
    · rename_i v x r
      obtain ⟨v1, vs1, rfl, hsv, v2, vs2, rfl, hsx, hS⟩ := hS
      have hsx2 := sr_res hE hsx
      have hsv2 := sr_res hE hsv
      obtain ⟨w, rfl⟩ := sI_of (s_cc_int hr).1 hsx2
      obtain ⟨u, rfl⟩ := sI_of (s_cc_int hr).2 hsv2
      rcases s_cc_ok hr hE hsx2 hsv2 with ⟨hc, env', hE', hr⟩ | ⟨hc, env', hE', hr⟩
      · refine sX_step X rfl rfl (st_br (pc' := b) (vs' := vs2) rfl rfl ?_) (s_goto_ok hrun hρ hE' hy hL hS hrs hH hr)
        show (match jv_jmp pc off vs2 with
          | some t => if jv_cc cn w u = true then some t else some (pc + 3, vs2)
          | none => none) = some (b, vs2)
        rw [s_jmp h1]
        exact if_pos hc
      · refine sX_go hrun X rfl rfl (st_br (pc' := pc + len) (vs' := vs2) rfl rfl ?_) hr hE' hL hS hH
        show (match jv_jmp pc off vs2 with
          | some t => if jv_cc cn w u = true then some t else some (pc + 3, vs2)
          | none => none) = some (pc + len, vs2)
        rw [s_jmp h1, hlen]
        exact if_neg hc
    · cases hr
  · cases hk
theorem k_dup (hrun : ∀ env f rest H, run env f rest H = true → sSnd env f rest H) (X : sX ρ L xs env rest H gs y pc i len t SL st Lv vs h) (hk : i = .dup) (hr : so_dup run env y (pc + len) t SL st rest H = true) : sG gs y pc Lv vs h := by
  subst hk
  obtain ⟨hρ, hE, -, -, -, hL, hS, -, hH⟩ := id X
  unfold so_dup at hr
  split at hr
  · rename_i x r
    obtain ⟨v1, vs1, rfl, hsx, hS⟩ := hS
    obtain ⟨q, hr⟩ := s_c1 hr
    rcases s_or q with q | q
    · obtain ⟨w, rfl⟩ := sr_int q hsx
      exact sX_go hrun X rfl rfl (st_pure (vs' := .int w :: .int w :: vs1) rfl) hr hE hL ⟨_, _, rfl, hsx, _, vs1, rfl, hsx, hS⟩ hH
    · have hw := (sr_ref q hsx).1
      obtain ⟨w, hw2⟩ : ∃ w, w = x - sREF := ⟨_, rfl⟩
      rw [← hw2] at hw
      subst hw
      exact sX_go hrun X rfl rfl (st_pure (vs' := .ref w :: .ref w :: vs1) rfl) hr hE hL ⟨_, _, rfl, hsx, _, vs1, rfl, hsx, hS⟩ hH
  · cases hr
theorem k_pop (hrun : ∀ env f rest H, run env f rest H = true → sSnd env f rest H) (X : sX ρ L xs env rest H gs y pc i len t SL st Lv vs h) (hk : i = .pop) (hr : so_pop run env y (pc + len) t SL st rest H = true) : sG gs y pc Lv vs h := by
  subst hk
  obtain ⟨hρ, hE, -, -, -, hL, hS, -, hH⟩ := id X
  unfold so_pop at hr
  split at hr
  · rename_i x r
    obtain ⟨v1, vs1, rfl, hsx, hS⟩ := hS
    obtain ⟨q, hr⟩ := s_c1 hr
    rcases s_or q with q | q
    · obtain ⟨w, rfl⟩ := sr_int q hsx
      exact sX_go hrun X rfl rfl (st_pure (vs' := vs1) rfl) hr hE hL hS hH
    · have hw := (sr_ref q hsx).1
      obtain ⟨w, hw2⟩ : ∃ w, w = x - sREF := ⟨_, rfl⟩
      rw [← hw2] at hw
      subst hw
      exact sX_go hrun X rfl rfl (st_pure (vs' := vs1) rfl) hr hE hL hS hH
  · cases hr
theorem k_dup2 (hrun : ∀ env f rest H, run env f rest H = true → sSnd env f rest H) (X : sX ρ L xs env rest H gs y pc i len t SL st Lv vs h) (hk : i = .dup2) (hr : so_dup2 run env y (pc + len) t SL st rest H = true) : sG gs y pc Lv vs h := by
  subst hk
  obtain ⟨hρ, hE, -, -, -, hL, hS, -, hH⟩ := id X
  unfold so_dup2 at hr
  split at hr
  · rename_i x p r
    obtain ⟨v1, vs1, rfl, hsx, v2, vs2, rfl, hsp, hS⟩ := hS
    obtain ⟨q, hr⟩ := s_c1 hr
    obtain ⟨q1, q2⟩ := s_and q
    obtain ⟨w, rfl⟩ := sr_int q1 hsx
    have hw := (sr_ref q2 hsp).1
    obtain ⟨u, hw2⟩ : ∃ w, w = p - sREF := ⟨_, rfl⟩
    rw [← hw2] at hw
    subst hw
    exact sX_go hrun X rfl rfl (st_pure (vs' := .int w :: .ref u :: .int w :: .ref u :: vs2) rfl) hr hE hL ⟨_, _, rfl, hsx, _, _, rfl, hsp, _, _, rfl, hsx, _, vs2, rfl, hsp, hS⟩ hH
  · cases hr
/-- a place on the stack, and its cell -/
theorem s_cell {p : Nat} {v : Value} (hH : sHk ρ L xs H h) (hp : s_isR p = true) (hlt : Nat.blt (p - sREF) H.2.1 = true) (hsp : sr ρ p v) : ∃ q : Nat, q = p - sREF ∧ v = .ref q ∧ q < h.2.1 ∧ q < H.2.1 ∧ sCk ρ (H.1 q) (h.1 q) := by
  have h1 := (sr_ref hp hsp).1
  have h2 := b_lt hlt
  exact ⟨p - sREF, rfl, h1, by rw [hH.1]; exact h2, h2, hH.2.2.2.2 _ h2⟩
theorem sCk_obj {c : Nat × Nat × (Nat → Nat)} {x : jv_E} {d : Nat} (hc : sCk ρ c x) (hd : Nat.beq c.1 (16 + d) = true) : ∃ fs, x = .inr (.inr (d, fs)) ∧ c.2.1 = fs.length ∧ ∀ (i : Nat) (v : Value), fs[i]? = some v → sr ρ (c.2.2 i) v := by
  have h1 := b_eq hd
  match x, hc with
  | .inl (ty, n, f), hc =>
    obtain ⟨e1, e2, -⟩ := hc
    omega
  | .inr (.inl (ty, n, f)), hc =>
    obtain ⟨e1, e2, -⟩ := hc
    omega
  | .inr (.inr (d2, fs)), hc =>
    obtain ⟨e1, e2, e3⟩ := hc
    have : d2 = d := by omega
    subst this
    exact ⟨fs, rfl, e2, e3⟩
theorem sCk_arr {c : Nat × Nat × (Nat → Nat)} {x : jv_E} {d : Nat} (hc : sCk ρ c x) (hd : Nat.beq c.1 d = true) (hd2 : d < 2) : ∃ (n : Nat) (f : Nat → Int32), x = .inl (d, n, f) ∧ c.2.1 = n ∧ ∀ i, i < n → sr ρ (c.2.2 i) (.int (f i)) := by
  have h1 := b_eq hd
  match x, hc with
  | .inl (ty, n, f), hc =>
    obtain ⟨e1, e2, e3, e4⟩ := hc
    have : ty = d := by omega
    subst this
    exact ⟨n, f, rfl, e3, e4⟩
  | .inr (.inl (ty, n, f)), hc =>
    obtain ⟨e1, e2, -⟩ := hc
    omega
  | .inr (.inr (d2, fs)), hc =>
    obtain ⟨e1, e2, e3⟩ := hc
    omega
theorem sCk_rarr {c : Nat × Nat × (Nat → Nat)} {x : jv_E} {d : Nat} (hc : sCk ρ c x) (hd : Nat.beq c.1 d = true) (hd2 : d = 2 ∨ d = 3) : ∃ (n : Nat) (f : Nat → Option Nat), x = .inr (.inl (d, n, f)) ∧ c.2.1 = n ∧ ∀ i, i < n → sRo (c.2.2 i) (f i) := by
  have h1 := b_eq hd
  match x, hc with
  | .inl (ty, n, f), hc =>
    obtain ⟨e1, e2, e3, e4⟩ := hc
    omega
  | .inr (.inl (ty, n, f)), hc =>
    obtain ⟨e1, e2, e3, e4⟩ := hc
    have : ty = d := by omega
    subst this
    exact ⟨n, f, rfl, e3, e4⟩
  | .inr (.inr (d2, fs)), hc =>
    obtain ⟨e1, e2, e3⟩ := hc
    omega
theorem k_getf (hrun : ∀ env f rest H, run env f rest H = true → sSnd env f rest H) (X : sX ρ L xs env rest H gs y pc i len t SL st Lv vs h) {a b : Nat} (hk : sk_getf y i a b = true) (hr : so_getf run env y (pc + len) t a b SL st rest H = true) : sG gs y pc Lv vs h := by
  obtain ⟨hρ, hE, -, -, -, hL, hS, -, hH⟩ := id X
  unfold sk_getf at hk
  split at hk
  · rename_i idx
    have hfld := of_decide_eq_true hk
    unfold so_getf at hr
    split at hr
    · rename_i p r
      obtain ⟨v1, vs1, rfl, hsp, hS⟩ := hS
      obtain ⟨q, hr⟩ := s_c1 hr
      obtain ⟨q1, q⟩ := s_and q
      obtain ⟨q2, q⟩ := s_and q
      obtain ⟨q3, q4⟩ := s_and q
      obtain ⟨u, hu, rfl, hlt, hlt2, hc⟩ := s_cell hH q1 q2 hsp
      rw [← hu] at q3 q4 hr
      obtain ⟨fs, hx, hlen, hf⟩ := sCk_obj hc q3
      have hb : b < fs.length := by rw [← hlen]; exact b_lt q4
      rw [s_frc_eq] at hr
      have hv := List.getElem?_eq_getElem hb
      refine sX_go hrun X rfl rfl (st_heap (vs' := fs[b] :: vs1) (h1 := h) rfl rfl rfl rfl ?_) hr hE hL ⟨_, vs1, rfl, hf b _ hv, hS⟩ hH
      show (match jv_get (sow y) idx (.ref u :: vs1) h with
        | some st' => some (st', h)
        | none => none) = _
      have e : jv_get (sow y) idx (.ref u :: vs1) h = some (fs[b] :: vs1) := by
        unfold jv_get
        simp only [hfld]
        rw [if_pos hlt]
        simp only [hx]
        rw [if_pos trivial]
        simp only [hv]
      rw [e]
    · cases hr
  · cases hk
theorem k_putf (hrun : ∀ env f rest H, run env f rest H = true → sSnd env f rest H) (X : sX ρ L xs env rest H gs y pc i len t SL st Lv vs h) {a b kd : Nat} {ok : Nat → Bool} (hk : sk_putf y i a b kd = true) (hokv : ∀ (x : Nat) (v : Value) (ty : FieldType), ok x = true → sr ρ x v → pv_k kd ty = true → narrow ty v = v ∧ fits ty v = true) (hr : so_putf run env y (pc + len) t a b SL st rest H ok = true) : sG gs y pc Lv vs h := by
  obtain ⟨hρ, hE, -, -, -, hL, hS, -, hH⟩ := id X
  unfold sk_putf at hk
  split at hk
  · rename_i idx
    obtain ⟨hk1, hk2⟩ := s_and hk
    obtain ⟨hfld, hfin⟩ := of_decide_eq_true hk1
    unfold so_putf at hr
    split at hr
    · rename_i x p r
      obtain ⟨v0, vs0, rfl, hsx, v1, vs1, rfl, hsp, hS⟩ := hS
      obtain ⟨q, hr⟩ := s_c1 hr
      obtain ⟨q0, q⟩ := s_and q
      obtain ⟨q1, q⟩ := s_and q
      obtain ⟨q2, q⟩ := s_and q
      obtain ⟨q3, q4⟩ := s_and q
      obtain ⟨u, hu, rfl, hlt, hlt2, hc⟩ := s_cell hH q1 q2 hsp
      rw [← hu] at q3 q4 hr
      obtain ⟨fs, hx, hlen, hf⟩ := sCk_obj hc q3
      have hb : b < fs.length := by rw [← hlen]; exact b_lt q4
      obtain ⟨hn, hfi⟩ := hokv x v0 (jv_fty a b) q0 hsx hk2
      have hcell : sCk ρ ((H.1 u).1, (H.1 u).2.1, s_up (H.1 u).2.2 b x) (.inr (.inr (a, fs.set b v0))) := by
        refine ⟨b_eq q3, by rw [List.length_set]; exact hlen, fun j w hj => ?_⟩
        show sr ρ (cond (Nat.beq j b) x ((H.1 u).2.2 j)) w
        cases hq : Nat.beq j b with
        | true =>
          rw [b_eq hq, List.getElem?_set_self hb] at hj
          cases hj
          exact hsx
        | false =>
          rw [List.getElem?_set_ne (fun e => b_ne hq e.symm)] at hj
          exact hf j w hj
      refine sX_go hrun X rfl rfl (st_heap (vs' := vs1) (h1 := jv_put h u (.inr (.inr (a, fs.set b v0)))) rfl rfl rfl rfl ?_) hr hE hL hS (sHk_put hH hlt2 hcell)
      show jv_set (sow y) (sini y) idx (v0 :: .ref u :: vs1) h = _
      unfold jv_set
      simp only [hfld]
      rw [if_pos ⟨hlt, hn, hfi, hfin⟩]
      simp only [hx]
      rw [if_pos ⟨trivial, hb⟩]
    · cases hr
  · cases hk
theorem sI_int {z : Nat} (h : z < 2147483648) : (Int32.ofNat z).toInt = z := Int32.toInt_ofNat_of_lt (by omega)
theorem sI_pos {z : Nat} (h : z < 2147483648) : ¬ Int32.ofNat z < 0 := by
  rw [Int32.lt_iff_toInt_lt, sI_int h]
  show ¬ (z : Int) < 0
  omega
theorem sI_clamp {z : Nat} (h : z < 2147483648) : (Int32.ofNat z).toNatClampNeg = z := by
  show (Int32.ofNat z).toInt.toNat = z
  rw [sI_int h]
  omega
theorem s_nat {z : Nat} (h2 : Nat.blt z 2147483648 = true) : ¬ Int32.ofNat z < 0 ∧ (Int32.ofNat z).toNatClampNeg = z := ⟨sI_pos (b_lt h2), sI_clamp (b_lt h2)⟩
theorem k_iald (hrun : ∀ env f rest H, run env f rest H = true → sSnd env f rest H) (X : sX ρ L xs env rest H gs y pc i len t SL st Lv vs h) (hk : i = .iaload) (hr : so_iald run env y (pc + len) t SL st rest H = true) : sG gs y pc Lv vs h := by
  subst hk
  obtain ⟨hρ, hE, -, -, -, hL, hS, -, hH⟩ := id X
  unfold so_iald at hr
  split at hr
  · rename_i j p r
    obtain ⟨v0, vs0, rfl, hsj, v1, vs1, rfl, hsp, hS⟩ := hS
    rcases s_c2 hr with ⟨q, hr⟩ | ⟨-, hr⟩
    · obtain ⟨qa, qb⟩ := s_and q
      have hp := b_eq qa
      have how : sow y = 10 := by
        rw [b_eq qb]
        rfl
      have hR : s_isR p = true := by rw [hp]; rfl
      have hpr := (sr_ref hR hsp).1
      have hpr2 : p - sREF = 1000000 := by rw [hp]; rfl
      rw [hpr2] at hpr
      subst hpr
      have hsj2 := sr_res hE hsj
      obtain ⟨w, rfl⟩ := s_conc_int hr hsj2
      obtain ⟨z, env', hE', hz, rfl, hr⟩ := s_conc_ok hr hE hsj2
      obtain ⟨q2, hr⟩ := s_c1 hr
      obtain ⟨q3, q4⟩ := s_and q2
      have hz6 : z < 6 := b_lt q3
      have hzL : z < L := by
        have e1 := (hE' 6).1
        rw [hρ.2.2.1, sb_of (Nat.lt_of_le_of_lt hρ.1 (by decide))] at e1
        have e2 := b_lt q4
        have e3 := hρ.1
        rw [(s_bias_eq L).1 (by omega)] at e1
        rw [(s_bias_eq z).1 (by omega)] at e2
        omega
      have hzc : (Int32.ofNat z).toNatClampNeg = z := sI_clamp (by omega)
      have hz0 : ¬ Int32.ofNat z < 0 := sI_pos (by omega)
      refine sX_go hrun X rfl rfl (st_heap (vs' := .int (xs z) :: vs1) (h1 := h) rfl rfl rfl rfl ?_) hr hE' hL ⟨_, vs1, rfl, Or.inr (Or.inl ⟨z, by omega, rfl, (hρ.2.1 z hz6).symm⟩), hS⟩ hH
      show (if (1000000 : Nat) < h.2.1 ∨ ((1000000 : Nat) = 1000000 ∧ sow y = 10) then match h.1 1000000 with
        | .inl (ty, n, f) => if (ty = 0 ∧ (1000000 : Nat) < h.2.1 ∨ ty = 9 ∧ (1000000 : Nat) = 1000000) ∧ ¬ (Int32.ofNat z < 0 ∨ n ≤ (Int32.ofNat z).toNatClampNeg) then some (.int (f (Int32.ofNat z).toNatClampNeg) :: vs1, h) else none
        | _ => none else none) = _
      rw [if_pos (Or.inr ⟨rfl, how⟩), hH.2.2.2.1]
      show (if ((9 : Nat) = 0 ∧ (1000000 : Nat) < h.2.1 ∨ (9 : Nat) = 9 ∧ (1000000 : Nat) = 1000000) ∧ ¬ (Int32.ofNat z < 0 ∨ L ≤ (Int32.ofNat z).toNatClampNeg) then some (.int (xs (Int32.ofNat z).toNatClampNeg) :: vs1, h) else none) = _
      rw [hzc, if_pos ⟨Or.inr ⟨rfl, rfl⟩, fun e => e.elim hz0 (fun e => by omega)⟩]
    · obtain ⟨q, hr⟩ := s_c1 hr
      obtain ⟨q1, q⟩ := s_and q
      obtain ⟨q2, q3⟩ := s_and q
      obtain ⟨u, hu, rfl, hlt, hlt2, hc⟩ := s_cell hH q1 q2 hsp
      rw [← hu] at q3 hr
      obtain ⟨n, f, hx, hlen, hf⟩ := sCk_arr hc q3 (by decide)
      have hsj2 := sr_res hE hsj
      obtain ⟨w, rfl⟩ := s_conc_int hr hsj2
      obtain ⟨z, env', hE', hz, rfl, hr⟩ := s_conc_ok hr hE hsj2
      obtain ⟨q4, hr⟩ := s_c1 hr
      obtain ⟨q5, q6⟩ := s_and q4
      obtain ⟨z0, z1⟩ := s_nat q6
      have hzn : z < n := by rw [← hlen]; exact b_lt q5
      rw [s_frc_eq] at hr
      refine sX_go hrun X rfl rfl (st_heap (vs' := .int (f z) :: vs1) (h1 := h) rfl rfl rfl rfl ?_) hr hE' hL ⟨_, vs1, rfl, hf z hzn, hS⟩ hH
      show (if u < h.2.1 ∨ (u = 1000000 ∧ sow y = 10) then match h.1 u with
        | .inl (ty, n, f) => if (ty = 0 ∧ u < h.2.1 ∨ ty = 9 ∧ u = 1000000) ∧ ¬ (Int32.ofNat z < 0 ∨ n ≤ (Int32.ofNat z).toNatClampNeg) then some (.int (f (Int32.ofNat z).toNatClampNeg) :: vs1, h) else none
        | _ => none else none) = _
      rw [if_pos (Or.inl hlt), hx]
      show (if ((0 : Nat) = 0 ∧ u < h.2.1 ∨ (0 : Nat) = 9 ∧ u = 1000000) ∧ ¬ (Int32.ofNat z < 0 ∨ n ≤ (Int32.ofNat z).toNatClampNeg) then some (.int (f (Int32.ofNat z).toNatClampNeg) :: vs1, h) else none) = _
      rw [z1, if_pos ⟨Or.inl ⟨rfl, hlt⟩, fun e => e.elim z0 (fun e => by omega)⟩]
  · cases hr
end SOK
end
section
/-! THE S MACHINE STANDS FOR THE J MACHINE: arrays, making, calls, ends -/
section SOK2
variable {run : sRun} {ρ : Nat → Int32} {L : Nat} {xs : Nat → Int32} {env : sE} {rest : List sF} {H : sH} {gs : List jF} {y pc : Nat} {i : Instr} {len : Nat} {t : List sI} {SL st : List Nat} {Lv : List (Option Value)} {vs : List Value} {h : jv_H}
theorem k_bald (hrun : ∀ env f rest H, run env f rest H = true → sSnd env f rest H) (X : sX ρ L xs env rest H gs y pc i len t SL st Lv vs h) (hk : i = .baload) (hr : so_bald run env y (pc + len) t SL st rest H = true) : sG gs y pc Lv vs h := by
  subst hk
  obtain ⟨hρ, hE, -, -, -, hL, hS, -, hH⟩ := id X
  unfold so_bald at hr
  split at hr
  · rename_i j p r
    obtain ⟨v0, vs0, rfl, hsj, v1, vs1, rfl, hsp, hS⟩ := hS
    obtain ⟨q, hr⟩ := s_c1 hr
    obtain ⟨q1, q⟩ := s_and q
    obtain ⟨q2, q3⟩ := s_and q
    obtain ⟨u, hu, rfl, hlt, hlt2, hc⟩ := s_cell hH q1 q2 hsp
    rw [← hu] at q3 hr
    obtain ⟨n, f, hx, hlen, hf⟩ := sCk_arr hc q3 (by decide)
    have hsj2 := sr_res hE hsj
    obtain ⟨w, rfl⟩ := s_conc_int hr hsj2
    obtain ⟨z, env', hE', hz, rfl, hr⟩ := s_conc_ok hr hE hsj2
    obtain ⟨q4, hr⟩ := s_c1 hr
    obtain ⟨q5, q6⟩ := s_and q4
    obtain ⟨z0, z1⟩ := s_nat q6
    have hzn : z < n := by rw [← hlen]; exact b_lt q5
    rw [s_frc_eq] at hr
    refine sX_go hrun X rfl rfl (st_heap (vs' := .int (f z) :: vs1) (h1 := h) rfl rfl rfl rfl ?_) hr hE' hL ⟨_, vs1, rfl, hf z hzn, hS⟩ hH
    show (if u < h.2.1 then match h.1 u with
      | .inl (ty, n, f) => if ty = 1 ∧ ¬ (Int32.ofNat z < 0 ∨ n ≤ (Int32.ofNat z).toNatClampNeg) then some (.int (f (Int32.ofNat z).toNatClampNeg) :: vs1, h) else none
      | _ => none else none) = _
    rw [if_pos hlt, hx]
    show (if (1 : Nat) = 1 ∧ ¬ (Int32.ofNat z < 0 ∨ n ≤ (Int32.ofNat z).toNatClampNeg) then some (.int (f (Int32.ofNat z).toNatClampNeg) :: vs1, h) else none) = _
    rw [z1, if_pos ⟨rfl, fun e => e.elim z0 (fun e => by omega)⟩]
  · cases hr
theorem k_aald (hrun : ∀ env f rest H, run env f rest H = true → sSnd env f rest H) (X : sX ρ L xs env rest H gs y pc i len t SL st Lv vs h) (hk : i = .aaload) (hr : so_aald run env y (pc + len) t SL st rest H = true) : sG gs y pc Lv vs h := by
  subst hk
  obtain ⟨hρ, hE, -, -, -, hL, hS, -, hH⟩ := id X
  unfold so_aald at hr
  split at hr
  · rename_i j p r
    obtain ⟨v0, vs0, rfl, hsj, v1, vs1, rfl, hsp, hS⟩ := hS
    obtain ⟨q, hr⟩ := s_c1 hr
    obtain ⟨q1, q⟩ := s_and q
    obtain ⟨q2, q3⟩ := s_and q
    obtain ⟨u, hu, rfl, hlt, hlt2, hc⟩ := s_cell hH q1 q2 hsp
    rw [← hu] at q3 hr
    have key : ∃ (d n : Nat) (f : Nat → Option Nat), (d = 2 ∨ d = 3) ∧ h.1 u = .inr (.inl (d, n, f)) ∧ (H.1 u).2.1 = n ∧ ∀ i, i < n → sRo ((H.1 u).2.2 i) (f i) := by
      rcases s_or q3 with q3 | q3
      · obtain ⟨n, f, e1, e2, e3⟩ := sCk_rarr hc q3 (Or.inl rfl)
        exact ⟨2, n, f, Or.inl rfl, e1, e2, e3⟩
      · obtain ⟨n, f, e1, e2, e3⟩ := sCk_rarr hc q3 (Or.inr rfl)
        exact ⟨3, n, f, Or.inr rfl, e1, e2, e3⟩
    obtain ⟨d, n, f, hd, hx, hlen, hf⟩ := key
    have hsj2 := sr_res hE hsj
    obtain ⟨w, rfl⟩ := s_conc_int hr hsj2
    obtain ⟨z, env', hE', hz, rfl, hr⟩ := s_conc_ok hr hE hsj2
    obtain ⟨q4, hr⟩ := s_c1 hr
    obtain ⟨q5, q6⟩ := s_and q4
    obtain ⟨z0, z1⟩ := s_nat q6
    have hzn : z < n := by rw [← hlen]; exact b_lt q5
    rw [s_frc_eq] at hr
    obtain ⟨q7, hr⟩ := s_c1 hr
    have hfz := hf z hzn
    cases hfo : f z with
    | none =>
      rw [hfo] at hfz
      have e : (H.1 u).2.2 z = sNUL := hfz
      rw [e] at q7
      cases q7
    | some b =>
      rw [hfo] at hfz
      refine sX_go hrun X rfl rfl (st_heap (vs' := .ref b :: vs1) (h1 := h) rfl rfl rfl rfl ?_) hr hE' hL ⟨_, vs1, rfl, hfz, hS⟩ hH
      show (if u < h.2.1 then match h.1 u with
        | .inr (.inl (ty, n, f)) => if (ty = 2 ∨ ty = 3) ∧ ¬ (Int32.ofNat z < 0 ∨ n ≤ (Int32.ofNat z).toNatClampNeg) then (match f (Int32.ofNat z).toNatClampNeg with
          | some b => some (.ref b :: vs1, h)
          | none => none) else none
        | _ => none else none) = _
      rw [if_pos hlt, hx]
      show (if (d = 2 ∨ d = 3) ∧ ¬ (Int32.ofNat z < 0 ∨ n ≤ (Int32.ofNat z).toNatClampNeg) then (match f (Int32.ofNat z).toNatClampNeg with
          | some b => some (.ref b :: vs1, h)
          | none => none) else none) = _
      rw [z1, if_pos ⟨hd, fun e => e.elim z0 (fun e => by omega)⟩, hfo]
  · cases hr
theorem k_iast (hrun : ∀ env f rest H, run env f rest H = true → sSnd env f rest H) (X : sX ρ L xs env rest H gs y pc i len t SL st Lv vs h) (hk : i = .iastore) (hr : so_ast run env y (pc + len) t SL st rest H 0 s_isI = true) : sG gs y pc Lv vs h := by
  subst hk
  obtain ⟨hρ, hE, -, -, -, hL, hS, -, hH⟩ := id X
  unfold so_ast at hr
  split at hr
  · rename_i x j p r
    obtain ⟨v9, vs9, rfl, hsx, v0, vs0, rfl, hsj, v1, vs1, rfl, hsp, hS⟩ := hS
    obtain ⟨q, hr⟩ := s_c1 hr
    obtain ⟨q0, q⟩ := s_and q
    obtain ⟨q1, q⟩ := s_and q
    obtain ⟨q2, q3⟩ := s_and q
    obtain ⟨wx, rfl⟩ := sr_int q0 hsx
    obtain ⟨u, hu, rfl, hlt, hlt2, hc⟩ := s_cell hH q1 q2 hsp
    rw [← hu] at q3 hr
    obtain ⟨n, f, hx, hlen, hf⟩ := sCk_arr hc q3 (by decide)
    have hsj2 := sr_res hE hsj
    obtain ⟨w, rfl⟩ := s_conc_int hr hsj2
    obtain ⟨z, env', hE', hz, rfl, hr⟩ := s_conc_ok hr hE hsj2
    obtain ⟨q4, hr⟩ := s_c1 hr
    obtain ⟨q5, q6⟩ := s_and q4
    obtain ⟨z0, z1⟩ := s_nat q6
    have hzn : z < n := by rw [← hlen]; exact b_lt q5
    have hcell : sCk ρ (0, (H.1 u).2.1, s_up (H.1 u).2.2 z x) (.inl (0, n, upd f z wx)) := by
      refine ⟨rfl, by decide, hlen, fun k hk => ?_⟩
      show sr ρ (cond (Nat.beq k z) x ((H.1 u).2.2 k)) (.int (if k = z then wx else f k))
      cases hq : Nat.beq k z with
      | true => rw [if_pos (b_eq hq)]; exact hsx
      | false => rw [if_neg (b_ne hq)]; exact hf k hk
    refine sX_go hrun X rfl rfl (st_heap (vs' := vs1) (h1 := jv_put h u (.inl (0, n, upd f z wx))) rfl rfl rfl rfl ?_) hr hE' hL hS (sHk_put hH hlt2 hcell)
    show (if u < h.2.1 then match h.1 u with
      | .inl (ty, n, f) => if ty = 0 ∧ ¬ (Int32.ofNat z < 0 ∨ n ≤ (Int32.ofNat z).toNatClampNeg) then some (vs1, jv_put h u (.inl (ty, n, upd f (Int32.ofNat z).toNatClampNeg wx))) else none
      | _ => none else none) = _
    rw [if_pos hlt, hx]
    show (if (0 : Nat) = 0 ∧ ¬ (Int32.ofNat z < 0 ∨ n ≤ (Int32.ofNat z).toNatClampNeg) then some (vs1, jv_put h u (.inl (0, n, upd f (Int32.ofNat z).toNatClampNeg wx))) else none) = _
    rw [z1, if_pos ⟨rfl, fun e => e.elim z0 (fun e => by omega)⟩]
  · cases hr
theorem s_01 {x : Nat} {v : Value} (hx : s_is01 x = true) (h : sr ρ x v) : ∃ w : Int32, v = .int w ∧ (w = 0 ∨ w = 1) := by
  have h1 := b_lt hx
  refine ⟨_, sr_num (Nat.lt_trans h1 (by decide)) h, ?_⟩
  match x, h1 with
  | 0, _ => exact Or.inl rfl
  | 1, _ => exact Or.inr rfl
theorem k_bast (hrun : ∀ env f rest H, run env f rest H = true → sSnd env f rest H) (X : sX ρ L xs env rest H gs y pc i len t SL st Lv vs h) (hk : i = .bastore) (hr : so_ast run env y (pc + len) t SL st rest H 1 s_is01 = true) : sG gs y pc Lv vs h := by
  subst hk
  obtain ⟨hρ, hE, -, -, -, hL, hS, -, hH⟩ := id X
  unfold so_ast at hr
  split at hr
  · rename_i x j p r
    obtain ⟨v9, vs9, rfl, hsx, v0, vs0, rfl, hsj, v1, vs1, rfl, hsp, hS⟩ := hS
    obtain ⟨q, hr⟩ := s_c1 hr
    obtain ⟨q0, q⟩ := s_and q
    obtain ⟨q1, q⟩ := s_and q
    obtain ⟨q2, q3⟩ := s_and q
    obtain ⟨wx, rfl, hw01⟩ := s_01 q0 hsx
    have hnar : vp_nar .boolean wx = wx := by rcases hw01 with rfl | rfl <;> decide
    obtain ⟨u, hu, rfl, hlt, hlt2, hc⟩ := s_cell hH q1 q2 hsp
    rw [← hu] at q3 hr
    obtain ⟨n, f, hx, hlen, hf⟩ := sCk_arr hc q3 (by decide)
    have hsj2 := sr_res hE hsj
    obtain ⟨w, rfl⟩ := s_conc_int hr hsj2
    obtain ⟨z, env', hE', hz, rfl, hr⟩ := s_conc_ok hr hE hsj2
    obtain ⟨q4, hr⟩ := s_c1 hr
    obtain ⟨q5, q6⟩ := s_and q4
    obtain ⟨z0, z1⟩ := s_nat q6
    have hzn : z < n := by rw [← hlen]; exact b_lt q5
    have hcell : sCk ρ (1, (H.1 u).2.1, s_up (H.1 u).2.2 z x) (.inl (1, n, upd f z wx)) := by
      refine ⟨rfl, by decide, hlen, fun k hk => ?_⟩
      show sr ρ (cond (Nat.beq k z) x ((H.1 u).2.2 k)) (.int (if k = z then wx else f k))
      cases hq : Nat.beq k z with
      | true => rw [if_pos (b_eq hq)]; exact hsx
      | false => rw [if_neg (b_ne hq)]; exact hf k hk
    refine sX_go hrun X rfl rfl (st_heap (vs' := vs1) (h1 := jv_put h u (.inl (1, n, upd f z wx))) rfl rfl rfl rfl ?_) hr hE' hL hS (sHk_put hH hlt2 hcell)
    show (if u < h.2.1 ∧ vp_nar .boolean wx = wx then match h.1 u with
      | .inl (ty, n, f) => if ty = 1 ∧ ¬ (Int32.ofNat z < 0 ∨ n ≤ (Int32.ofNat z).toNatClampNeg) then some (vs1, jv_put h u (.inl (ty, n, upd f (Int32.ofNat z).toNatClampNeg wx))) else none
      | _ => none else none) = _
    rw [if_pos ⟨hlt, hnar⟩, hx]
    show (if (1 : Nat) = 1 ∧ ¬ (Int32.ofNat z < 0 ∨ n ≤ (Int32.ofNat z).toNatClampNeg) then some (vs1, jv_put h u (.inl (1, n, upd f (Int32.ofNat z).toNatClampNeg wx))) else none) = _
    rw [z1, if_pos ⟨rfl, fun e => e.elim z0 (fun e => by omega)⟩]
  · cases hr
theorem k_aast (hrun : ∀ env f rest H, run env f rest H = true → sSnd env f rest H) (X : sX ρ L xs env rest H gs y pc i len t SL st Lv vs h) (hk : i = .aastore) (hr : so_aast run env y (pc + len) t SL st rest H = true) : sG gs y pc Lv vs h := by
  subst hk
  obtain ⟨hρ, hE, -, -, -, hL, hS, -, hH⟩ := id X
  unfold so_aast at hr
  split at hr
  · rename_i x j p r
    obtain ⟨v9, vs9, rfl, hsx, v0, vs0, rfl, hsj, v1, vs1, rfl, hsp, hS⟩ := hS
    obtain ⟨q, hr⟩ := s_c1 hr
    obtain ⟨q0, q⟩ := s_and q
    obtain ⟨q9, q⟩ := s_and q
    obtain ⟨q1, q⟩ := s_and q
    obtain ⟨q2, q3⟩ := s_and q
    obtain ⟨b, hb, rfl, hblt, hblt2, hbc⟩ := s_cell hH q0 q9 hsx
    obtain ⟨u, hu, rfl, hlt, hlt2, hc⟩ := s_cell hH q1 q2 hsp
    rw [← hu] at q3 hr
    rw [← hb] at q3
    have key : ∃ (d d2 n : Nat) (f : Nat → Option Nat) (fs : List Value), ((d = 2 ∧ d2 = 6) ∨ (d = 3 ∧ d2 = 5)) ∧ h.1 u = .inr (.inl (d, n, f)) ∧ (H.1 u).1 = d ∧ (H.1 u).2.1 = n ∧ (∀ i, i < n → sRo ((H.1 u).2.2 i) (f i)) ∧ h.1 b = .inr (.inr (d2, fs)) := by
      rcases s_or q3 with q3 | q3
      · obtain ⟨q4, q5⟩ := s_and q3
        obtain ⟨n, f, e1, e2, e3⟩ := sCk_rarr hc q4 (Or.inl rfl)
        obtain ⟨fs, e4, -⟩ := sCk_obj (d := 6) hbc q5
        exact ⟨2, 6, n, f, fs, Or.inl ⟨rfl, rfl⟩, e1, b_eq q4, e2, e3, e4⟩
      · obtain ⟨q4, q5⟩ := s_and q3
        obtain ⟨n, f, e1, e2, e3⟩ := sCk_rarr hc q4 (Or.inr rfl)
        obtain ⟨fs, e4, -⟩ := sCk_obj (d := 5) hbc q5
        exact ⟨3, 5, n, f, fs, Or.inr ⟨rfl, rfl⟩, e1, b_eq q4, e2, e3, e4⟩
    obtain ⟨d, d2, n, f, fs, hd, hx, hk1, hlen, hf, hxb⟩ := key
    have hsj2 := sr_res hE hsj
    obtain ⟨w, rfl⟩ := s_conc_int hr hsj2
    obtain ⟨z, env', hE', hz, rfl, hr⟩ := s_conc_ok hr hE hsj2
    obtain ⟨q4, hr⟩ := s_c1 hr
    obtain ⟨q5, q6⟩ := s_and q4
    obtain ⟨z0, z1⟩ := s_nat q6
    have hzn : z < n := by rw [← hlen]; exact b_lt q5
    have hcell : sCk ρ ((H.1 u).1, (H.1 u).2.1, s_up (H.1 u).2.2 z x) (.inr (.inl (d, n, va_up f z (some b)))) := by
      refine ⟨hk1, by rcases hd with ⟨e, -⟩ | ⟨e, -⟩ <;> omega, hlen, fun k hk => ?_⟩
      show sRo (cond (Nat.beq k z) x ((H.1 u).2.2 k)) (if k = z then some b else f k)
      cases hq : Nat.beq k z with
      | true => rw [if_pos (b_eq hq)]; exact hsx
      | false => rw [if_neg (b_ne hq)]; exact hf k hk
    refine sX_go hrun X rfl rfl (st_heap (vs' := vs1) (h1 := jv_put h u (.inr (.inl (d, n, va_up f z (some b))))) rfl rfl rfl rfl ?_) hr hE' hL hS (sHk_put hH hlt2 hcell)
    show (if u < h.2.1 ∧ b < h.2.1 then match h.1 u, h.1 b with
      | .inr (.inl (ty, n, f)), .inr (.inr (d, _)) => if ((ty = 2 ∧ d = 6) ∨ (ty = 3 ∧ d = 5)) ∧ ¬ (Int32.ofNat z < 0 ∨ n ≤ (Int32.ofNat z).toNatClampNeg) then some (vs1, jv_put h u (.inr (.inl (ty, n, va_up f (Int32.ofNat z).toNatClampNeg (some b))))) else none
      | _, _ => none else none) = _
    rw [if_pos ⟨hlt, hblt⟩, hx, hxb]
    show (if ((d = 2 ∧ d2 = 6) ∨ (d = 3 ∧ d2 = 5)) ∧ ¬ (Int32.ofNat z < 0 ∨ n ≤ (Int32.ofNat z).toNatClampNeg) then some (vs1, jv_put h u (.inr (.inl (d, n, va_up f (Int32.ofNat z).toNatClampNeg (some b))))) else none) = _
    rw [z1, if_pos ⟨hd, fun e => e.elim z0 (fun e => by omega)⟩]
  · cases hr
theorem k_alen (hrun : ∀ env f rest H, run env f rest H = true → sSnd env f rest H) (X : sX ρ L xs env rest H gs y pc i len t SL st Lv vs h) (hk : i = .arraylength) (hr : so_alen run env y (pc + len) t SL st rest H = true) : sG gs y pc Lv vs h := by
  subst hk
  obtain ⟨hρ, hE, -, -, -, hL, hS, -, hH⟩ := id X
  unfold so_alen at hr
  split at hr
  · rename_i p r
    obtain ⟨v1, vs1, rfl, hsp, hS⟩ := hS
    rcases s_c2 hr with ⟨q, hr⟩ | ⟨-, hr⟩
    · obtain ⟨qa, qb⟩ := s_and q
      have hp := b_eq qa
      have how : sow y = 10 := by
        rw [b_eq qb]
        rfl
      have hR : s_isR p = true := by rw [hp]; rfl
      have hpr := (sr_ref hR hsp).1
      have hpr2 : p - sREF = 1000000 := by rw [hp]; rfl
      rw [hpr2] at hpr
      subst hpr
      refine sX_go hrun X rfl rfl (st_heap (vs' := .int (Int32.ofNat L) :: vs1) (h1 := h) rfl rfl rfl rfl ?_) hr hE hL ⟨_, vs1, rfl, Or.inr (Or.inl ⟨6, by decide, rfl, hρ.2.2.1.symm⟩), hS⟩ hH
      show (if (1000000 : Nat) < h.2.1 ∨ ((1000000 : Nat) = 1000000 ∧ sow y = 10) then match h.1 1000000 with
        | .inl (ty, n, _) => if ty < 2 ∧ (1000000 : Nat) < h.2.1 ∨ ty = 9 ∧ (1000000 : Nat) = 1000000 then some (.int (Int32.ofNat n) :: vs1, h) else none
        | .inr (.inl (ty, n, _)) => if (ty = 2 ∨ ty = 3) ∧ (1000000 : Nat) < h.2.1 then some (.int (Int32.ofNat n) :: vs1, h) else none
        | _ => none else none) = _
      rw [if_pos (Or.inr ⟨rfl, how⟩), hH.2.2.2.1]
      show (if (9 : Nat) < 2 ∧ (1000000 : Nat) < h.2.1 ∨ (9 : Nat) = 9 ∧ (1000000 : Nat) = 1000000 then some (.int (Int32.ofNat L) :: vs1, h) else none) = _
      rw [if_pos (Or.inr ⟨rfl, rfl⟩)]
    · obtain ⟨q, hr⟩ := s_c1 hr
      obtain ⟨q1, q⟩ := s_and q
      obtain ⟨q2, q⟩ := s_and q
      obtain ⟨q3, q4⟩ := s_and q
      obtain ⟨u, hu, rfl, hlt, hlt2, hc⟩ := s_cell hH q1 q2 hsp
      rw [← hu] at q3 q4 hr
      rw [s_frc_eq] at hr
      have q3 := b_lt q3
      have q4 := b_lt q4
      refine sX_go hrun X rfl rfl (st_heap (vs' := .int (Int32.ofNat (H.1 u).2.1) :: vs1) (h1 := h) rfl rfl rfl rfl ?_) hr hE hL ⟨_, vs1, rfl, Or.inl ⟨Nat.lt_trans q4 (by decide), rfl⟩, hS⟩ hH
      show (if u < h.2.1 ∨ (u = 1000000 ∧ sow y = 10) then match h.1 u with
        | .inl (ty, n, _) => if ty < 2 ∧ u < h.2.1 ∨ ty = 9 ∧ u = 1000000 then some (.int (Int32.ofNat n) :: vs1, h) else none
        | .inr (.inl (ty, n, _)) => if (ty = 2 ∨ ty = 3) ∧ u < h.2.1 then some (.int (Int32.ofNat n) :: vs1, h) else none
        | _ => none else none) = _
      rw [if_pos (Or.inl hlt)]
      generalize hx : h.1 u = cx at hc
      match cx, hc with
      | .inl (ty, n, f), hc =>
        obtain ⟨e1, e2, e3, -⟩ := hc
        show (if ty < 2 ∧ u < h.2.1 ∨ ty = 9 ∧ u = 1000000 then some (.int (Int32.ofNat n) :: vs1, h) else none) = _
        rw [if_pos (Or.inl ⟨e2, hlt⟩), e3]
      | .inr (.inl (ty, n, f)), hc =>
        obtain ⟨e1, e2, e3, -⟩ := hc
        show (if (ty = 2 ∨ ty = 3) ∧ u < h.2.1 then some (.int (Int32.ofNat n) :: vs1, h) else none) = _
        rw [if_pos ⟨e2, hlt⟩, e3]
      | .inr (.inr (d, fs)), hc =>
        obtain ⟨e1, -⟩ := hc
        omega
  · cases hr
theorem s_ref_new (hH : sHk ρ L xs H h) : sr ρ (H.2.1 + sREF) (.ref h.2.1) := by
  have h1 := hH.1
  have h3 := hH.2.2.1
  refine ⟨?_, ?_⟩
  · show H.2.1 + 4294967296 = 4294967296 + h.2.1
    omega
  · show @LT.lt Nat _ h.2.1 4294967296
    omega
theorem k_new (hrun : ∀ env f rest H, run env f rest H = true → sSnd env f rest H) (X : sX ρ L xs env rest H gs y pc i len t SL st Lv vs h) {a : Nat} (hk : sk_new y i a = true) (hr : so_new run env y (pc + len) t a SL st rest H = true) : sG gs y pc Lv vs h := by
  obtain ⟨hρ, hE, -, -, -, hL, hS, -, hH⟩ := id X
  unfold sk_new at hk
  split at hk
  · rename_i idx
    obtain ⟨hn, ha⟩ := of_decide_eq_true hk
    unfold so_new at hr
    obtain ⟨q, hr⟩ := s_c1 hr
    rw [s_frc_eq] at hr
    have hcell : sCk ρ (16 + a, jv_fn a, fun j => s_def (jv_fty a j)) (.inr (.inr (a, (List.range (jv_fn a)).map (fun k => defaultValue (jv_fty a k))))) := by
      refine ⟨rfl, by simp, fun j v hj => ?_⟩
      rw [List.getElem?_map] at hj
      have hj2 : j < jv_fn a := by
        rcases Nat.lt_or_ge j (jv_fn a) with q | q
        · exact q
        · rw [List.getElem?_eq_none (by simpa using q)] at hj; cases hj
      rw [List.getElem?_range hj2] at hj
      cases hj
      show sr ρ (s_def (jv_fty a j)) (defaultValue (jv_fty a j))
      have hcls : ∀ c, c < 9 → ∀ k, k < jv_fn c → (jv_fty c k = .int ∨ jv_fty c k = .boolean ∨ (defaultValue (jv_fty c k) = .null)) := by decide +kernel
      rcases hcls a ha j hj2 with e | e | e
      · rw [e]; exact Or.inl ⟨by decide, rfl⟩
      · rw [e]; exact Or.inl ⟨by decide, rfl⟩
      · unfold s_def
        rw [e]
        exact rfl
    refine sX_go hrun X rfl rfl (st_heap (vs' := .ref h.2.1 :: vs) (h1 := jv_add h (.inr (.inr (a, (List.range (jv_fn a)).map (fun k => defaultValue (jv_fty a k))))) (jv_fn a)) rfl rfl rfl rfl ?_) hr hE hL ⟨_, vs, rfl, s_ref_new hH, hS⟩ (sHk_add hH (b_lt q) hcell)
    show (match jv_new (sow y) idx with
      | some c => some (Value.ref h.2.1 :: vs, jv_add h (.inr (.inr (c, (List.range (jv_fn c)).map (fun k => defaultValue (jv_fty c k))))) (jv_fn c))
      | none => none) = _
    rw [hn]
  · cases hk
theorem s_nz {z : Nat} (hz : Nat.ble z 100000 = true) : ¬ Int32.ofNat z < 0 ∧ (Int32.ofNat z).toNatClampNeg = z ∧ z ≤ 100000 := by
  have h1 := b_le hz
  exact ⟨sI_pos (by omega), sI_clamp (by omega), h1⟩
theorem k_newa (hrun : ∀ env f rest H, run env f rest H = true → sSnd env f rest H) (X : sX ρ L xs env rest H gs y pc i len t SL st Lv vs h) {a : Nat} (hk : sk_newa i a = true) (hr : so_newa run env y (pc + len) t a SL st rest H 0 = true) : sG gs y pc Lv vs h := by
  obtain ⟨hρ, hE, -, -, -, hL, hS, -, hH⟩ := id X
  unfold so_newa at hr
  split at hr
  · rename_i n r
    obtain ⟨v1, vs1, rfl, hsn, hS⟩ := hS
    obtain ⟨q, hr⟩ := s_c1 hr
    have hsn2 := sr_res hE hsn
    obtain ⟨w, rfl⟩ := s_conc_int hr hsn2
    obtain ⟨z, env', hE', hz, rfl, hr⟩ := s_conc_ok hr hE hsn2
    obtain ⟨q2, hr⟩ := s_c1 hr
    rw [s_frc_eq] at hr
    obtain ⟨z0, z1, z2⟩ := s_nz q2
    have hcell : ∀ k : Nat, k < 2 → sCk ρ (k, z, fun _ => 0) (.inl (k, z, fun _ => 0)) := fun k hk => ⟨rfl, hk, rfl, fun j _ => Or.inl ⟨(by decide : (0 : Nat) < sM), rfl⟩⟩
    unfold sk_newa at hk
    split at hk
    · have ha := of_decide_eq_true hk
      subst ha
      refine sX_go hrun X rfl rfl (st_heap (vs' := .ref h.2.1 :: vs1) (h1 := jv_add h (.inl (0, z, fun _ => 0)) z) rfl rfl rfl rfl ?_) hr hE' hL ⟨_, vs1, rfl, s_ref_new hH, hS⟩ (sHk_add hH (b_lt q) (hcell 0 (by decide)))
      show (if ¬ Int32.ofNat z < 0 ∧ (Int32.ofNat z).toNatClampNeg ≤ 100000 then some (Value.ref h.2.1 :: vs1, jv_add h (.inl (0, (Int32.ofNat z).toNatClampNeg, fun _ => 0)) (Int32.ofNat z).toNatClampNeg) else none) = _
      rw [z1, if_pos ⟨z0, z2⟩]
    · have ha := of_decide_eq_true hk
      subst ha
      refine sX_go hrun X rfl rfl (st_heap (vs' := .ref h.2.1 :: vs1) (h1 := jv_add h (.inl (1, z, fun _ => 0)) z) rfl rfl rfl rfl ?_) hr hE' hL ⟨_, vs1, rfl, s_ref_new hH, hS⟩ (sHk_add hH (b_lt q) (hcell 1 (by decide)))
      show (if ¬ Int32.ofNat z < 0 ∧ (Int32.ofNat z).toNatClampNeg ≤ 100000 then some (Value.ref h.2.1 :: vs1, jv_add h (.inl (1, (Int32.ofNat z).toNatClampNeg, fun _ => 0)) (Int32.ofNat z).toNatClampNeg) else none) = _
      rw [z1, if_pos ⟨z0, z2⟩]
    · cases hk
  · cases hr
theorem k_anew (hrun : ∀ env f rest H, run env f rest H = true → sSnd env f rest H) (X : sX ρ L xs env rest H gs y pc i len t SL st Lv vs h) {a : Nat} (hk : sk_anew y i a = true) (hr : so_newa run env y (pc + len) t a SL st rest H sNUL = true) : sG gs y pc Lv vs h := by
  obtain ⟨hρ, hE, -, -, -, hL, hS, -, hH⟩ := id X
  unfold so_newa at hr
  split at hr
  · rename_i n r
    obtain ⟨v1, vs1, rfl, hsn, hS⟩ := hS
    obtain ⟨q, hr⟩ := s_c1 hr
    have hsn2 := sr_res hE hsn
    obtain ⟨w, rfl⟩ := s_conc_int hr hsn2
    obtain ⟨z, env', hE', hz, rfl, hr⟩ := s_conc_ok hr hE hsn2
    obtain ⟨q2, hr⟩ := s_c1 hr
    rw [s_frc_eq] at hr
    obtain ⟨z0, z1, z2⟩ := s_nz q2
    have hcell : ∀ k : Nat, k = 2 ∨ k = 3 → sCk ρ (k, z, fun _ => sNUL) (.inr (.inl (k, z, fun _ => none))) := fun k hk => ⟨rfl, hk, rfl, fun j _ => rfl⟩
    unfold sk_anew at hk
    split at hk
    · rename_i idx
      rcases of_decide_eq_true hk with ⟨hn, rfl⟩ | ⟨hn, rfl⟩
      · refine sX_go hrun X rfl rfl (st_heap (vs' := .ref h.2.1 :: vs1) (h1 := jv_add h (.inr (.inl (2, z, fun _ => none))) z) rfl rfl rfl rfl ?_) hr hE' hL ⟨_, vs1, rfl, s_ref_new hH, hS⟩ (sHk_add hH (b_lt q) (hcell 2 (Or.inl rfl)))
        show (if ¬ Int32.ofNat z < 0 ∧ (Int32.ofNat z).toNatClampNeg ≤ 100000 then (match jv_new (sow y) idx with
          | some c => if c = 6 then some (Value.ref h.2.1 :: vs1, jv_add h (.inr (.inl (2, (Int32.ofNat z).toNatClampNeg, fun _ => none))) (Int32.ofNat z).toNatClampNeg)
            else if c = 5 then some (Value.ref h.2.1 :: vs1, jv_add h (.inr (.inl (3, (Int32.ofNat z).toNatClampNeg, fun _ => none))) (Int32.ofNat z).toNatClampNeg) else none
          | none => none) else none) = _
        rw [z1, if_pos ⟨z0, z2⟩, hn]
        rfl
      · refine sX_go hrun X rfl rfl (st_heap (vs' := .ref h.2.1 :: vs1) (h1 := jv_add h (.inr (.inl (3, z, fun _ => none))) z) rfl rfl rfl rfl ?_) hr hE' hL ⟨_, vs1, rfl, s_ref_new hH, hS⟩ (sHk_add hH (b_lt q) (hcell 3 (Or.inr rfl)))
        show (if ¬ Int32.ofNat z < 0 ∧ (Int32.ofNat z).toNatClampNeg ≤ 100000 then (match jv_new (sow y) idx with
          | some c => if c = 6 then some (Value.ref h.2.1 :: vs1, jv_add h (.inr (.inl (2, (Int32.ofNat z).toNatClampNeg, fun _ => none))) (Int32.ofNat z).toNatClampNeg)
            else if c = 5 then some (Value.ref h.2.1 :: vs1, jv_add h (.inr (.inl (3, (Int32.ofNat z).toNatClampNeg, fun _ => none))) (Int32.ofNat z).toNatClampNeg) else none
          | none => none) else none) = _
        rw [z1, if_pos ⟨z0, z2⟩, hn]
        rfl
    · cases hk
  · cases hr
end SOK2
end
section
/-! THE S MACHINE STANDS FOR THE J MACHINE: calls, ends, switches, floating numbers -/
section SOK3
variable {run : sRun} {ρ : Nat → Int32} {L : Nat} {xs : Nat → Int32} {env : sE} {rest : List sF} {H : sH} {gs : List jF} {y pc : Nat} {i : Instr} {len : Nat} {t : List sI} {SL st : List Nat} {Lv : List (Option Value)} {vs : List Value} {h : jv_H}
theorem s_noD_ok : ∀ (l : List Nat) (M : List Value), sS ρ l M → s_noD l = true → jv_wd M = M.length
  | [], M, h, _ => by rw [show M = [] from h]; rfl
  | x :: t, M, h, hn => by
    obtain ⟨v, M', rfl, h1, h2⟩ := h
    obtain ⟨n1, n2⟩ := s_and (show (Nat.blt x sDBL && s_noD t) = true from hn)
    have h3 := s_noD_ok t M' h2 n2
    have h4 : v.category = 1 := sr_cat (b_lt n1) h1
    have h5 : jv_wd (v :: M') = v.category + jv_wd M' := by simp [jv_wd]
    rw [h5, h3, h4, List.length_cons]
    omega
theorem jv_wd_take {M : List Value} (h : jv_wd M = M.length) : ∀ n : Nat, jv_wd (M.take n) = (M.take n).length ∧ jv_wd (M.drop n) = (M.drop n).length := by
  intro n
  have hge : ∀ u : List Value, u.length ≤ jv_wd u := by
    intro u
    induction u with
    | nil => exact Nat.le_refl _
    | cons x t ih =>
      have h2 : jv_wd (x :: t) = x.category + jv_wd t := by simp [jv_wd]
      rcases lv_cat x with h3 | h3 <;> simp only [List.length_cons] <;> omega
  have h1 : jv_wd M = jv_wd (M.take n) + jv_wd (M.drop n) := by
    unfold jv_wd
    rw [← List.sum_append, ← List.map_append, List.take_append_drop]
  have h2 : M.length = (M.take n).length + (M.drop n).length := by rw [← List.length_append, List.take_append_drop]
  have h3 := hge (M.take n)
  have h4 := hge (M.drop n)
  omega
theorem sS_take : ∀ (l : List Nat) (M : List Value) (n : Nat), sS ρ l M → sS ρ (s_take l n) (M.take n)
  | [], M, n, h => by
    rw [show M = [] from h, List.take_nil]
    exact rfl
  | x :: t, M, 0, h => by
    rw [List.take_zero]
    exact rfl
  | x :: t, M, n + 1, h => by
    obtain ⟨v, M', rfl, h1, h2⟩ := h
    exact ⟨v, M'.take n, rfl, h1, sS_take t M' n h2⟩
theorem sS_drop : ∀ (l : List Nat) (M : List Value) (n : Nat), sS ρ l M → sS ρ (s_drop l n) (M.drop n)
  | [], M, n, h => by
    rw [show M = [] from h, List.drop_nil]
    exact rfl
  | x :: t, M, 0, h => h
  | x :: t, M, n + 1, h => by
    obtain ⟨v, M', rfl, h1, h2⟩ := h
    exact sS_drop t M' n h2
theorem sS_nth : ∀ (l : List Nat) (M : List Value) (i : Nat), sS ρ l M → i < l.length → ∃ v, M[i]? = some v ∧ sr ρ (s_nth l i) v
  | [], M, i, h, hn => absurd hn (Nat.not_lt_zero i)
  | x :: t, M, 0, h, hn => by
    obtain ⟨v, M', rfl, h1, h2⟩ := h
    exact ⟨v, rfl, h1⟩
  | x :: t, M, i + 1, h, hn => by
    obtain ⟨v, M', rfl, h1, h2⟩ := h
    exact sS_nth t M' i h2 (Nat.lt_of_succ_lt_succ hn)
theorem sL_rev : ∀ (l : List Nat) (M : List Value) (acc : List Nat) (A : List (Option Value)), sS ρ l M → sL ρ acc A → sL ρ (s_rev l acc) (M.reverse.map some ++ A)
  | [], M, acc, A, h, hA => by
    rw [show M = [] from h]
    exact hA
  | x :: t, M, acc, A, h, hA => by
    obtain ⟨v, M', rfl, h1, h2⟩ := h
    have h3 := sL_rev t M' (x :: acc) (some v :: A) h2 ⟨some v, A, rfl, h1, hA⟩
    rw [List.reverse_cons, List.map_append, List.append_assoc]
    exact h3
theorem sL_uns : ∀ n : Nat, sL ρ (s_uns n) (List.replicate n none)
  | 0 => rfl
  | n + 1 => ⟨none, List.replicate n none, List.replicate_succ, rfl, sL_uns n⟩
set_option maxHeartbeats 4000000 in
theorem k_call (hrun : ∀ env f rest H, run env f rest H = true → sSnd env f rest H) (X : sX ρ L xs env rest H gs y pc i len t SL st Lv vs h) {a b : Nat} (hk : sk_call y i a b = true) (hlen : len = 3) (hr : so_call sc_meth run env y (pc + len) t a b SL st rest H = true) : sG gs y pc Lv vs h := by
  subst hlen
  obtain ⟨hρ, hE, hy, hcode, hok, hL, hS, hrs, hH⟩ := id X
  unfold sk_call at hk
  split at hk
  · rename_i ck idx ow kd na mL fr lo ow2 kd2 na2 mL2 fr2 lo2 hC hinf hinf2
    obtain ⟨hcal, ha, hck, hb, hna, hmL, hnm, hkd, hfr, hlo⟩ := of_decide_eq_true hk
    have hb1 : b % 16 = na2 := by split at hb <;> omega
    have hb2 : b / 16 % 64 = mL2 := by split at hb <;> omega
    have hb3 : b / 1024 = (if kd2 = 0 then 0 else ow2 + 1) := by
      by_cases q : kd2 = 0
      · rw [if_pos q] at hb ⊢; omega
      · rw [if_neg q] at hb ⊢; omega
    unfold so_call at hr
    rw [hb1, hb2] at hr
    obtain ⟨q, hr⟩ := s_c1 hr
    obtain ⟨q1, q⟩ := s_and q
    obtain ⟨q2, q⟩ := s_and q
    obtain ⟨q3, q⟩ := s_and q
    have hwd := s_noD_ok _ _ hS q1
    have hsl := sS_len _ _ hS
    have q2 := b_le q2
    have q3 := b_le q3
    have hloc : sL ρ (s_rev (s_take st na2) (s_uns (mL2 - na2))) ((vs.take na2).reverse.map some ++ List.replicate (mL2 - na2) none) := sL_rev _ _ _ _ (sS_take _ _ _ hS) (sL_uns _)
    have hg := hrun _ _ _ _ hr L xs ρ hρ hE ((y, pc + 3, Lv, vs.drop na2) :: gs) _ [] h ha (sc_ok a ha) hloc rfl ⟨(y, pc + 3, Lv, vs.drop na2), gs, rfl, ⟨rfl, rfl, hy, hok, hL, sS_drop _ _ _ hS⟩, hrs⟩ hH
    obtain ⟨h', ⟨r, h1, hev, hf⟩, hbd⟩ := hg
    have hmay : jv_may ck fr lo (ow2, kd2, na2, mL2, fr2, lo2) na2 vs h = true := by
      obtain ⟨w1, w2⟩ := jv_wd_take hwd na2
      have w3 : (vs.take na2).length = na2 := by rw [List.length_take]; omega
      have w4 : (vs.drop na2).length ≤ 8 := by rw [List.length_drop]; omega
      unfold jv_may
      rw [Bool.and_eq_true]
      refine ⟨decide_eq_true ⟨hck.symm, rfl, by omega, hnm, hfr, hlo, by omega, by omega⟩, ?_⟩
      subst hck
      rcases s_c2 q with ⟨z1, -⟩ | ⟨z1, z2⟩
      · have z := b_eq z1
        rw [hb3] at z
        have hck0 : ck = 0 := by
          by_cases e : ck = 0
          · exact e
          · rw [if_neg e] at z; omega
        subst hck0
        rfl
      · have z := b_ne z1
        rw [hb3] at z
        have hck0 : ¬ ck = 0 := fun e => z (by rw [if_pos e])
        rw [hb3, if_neg hck0] at z2
        obtain ⟨z3, z2⟩ := s_and z2
        obtain ⟨z4, z5⟩ := s_and z2
        obtain ⟨v, hv, hsr⟩ := sS_nth st vs (na2 - 1) hS (by omega)
        obtain ⟨u, hu, rfl, hlt, hlt2, hc⟩ := s_cell hH z3 z4 hsr
        rw [← hu] at z5
        obtain ⟨fs, hx, -⟩ := sCk_obj (d := ow2) hc (by rw [show 16 + ow2 = 15 + (ow2 + 1) by omega]; exact z5)
        have hlast : (vs.take na2).getLast? = some (.ref u) := by
          rw [List.getLast?_eq_getElem?, w3, List.getElem?_take, if_pos (by omega)]
          exact hv
        match ck, hck0 with
        | n + 1, _ =>
          show (match (vs.take na2).getLast? with
            | some (.ref a) => decide (a < h.2.1) && (match h.1 a with
              | .inr (.inr (d, _)) => decide (d = ow2)
              | _ => false)
            | _ => false) = true
          rw [hlast]
          show (decide (u < h.2.1) && (match h.1 u with
              | .inr (.inr (d, _)) => decide (d = ow2)
              | _ => false)) = true
          rw [hx, Bool.and_eq_true]
          exact ⟨decide_eq_true hlt, decide_eq_true rfl⟩
        | 0, e => exact absurd rfl e
    refine ⟨h', jv_fin_of (fun x hx => ?_) hf, hbd⟩
    obtain ⟨N1, hN1⟩ := hev
    obtain ⟨N2, hN2⟩ := hx
    refine ⟨N1 + N2 + 1, fun n hn => ?_⟩
    obtain ⟨m, rfl⟩ : ∃ m, n = m + 1 := ⟨n - 1, by omega⟩
    rw [jv_run_call hinf hcode hC hcal (by omega) (by omega) (by omega) hinf2 hmay (hN1 m (by omega))]
    exact hN2 m (by omega)
  · cases hk
theorem s_wd8 {r : List Nat} {M : List Value} (hS : sS ρ r M) (q : (s_noD r && Nat.ble r.length 8) = true) : jv_wd M ≤ 8 := by
  obtain ⟨q1, q2⟩ := s_and q
  rw [s_noD_ok _ _ hS q1, sS_len _ _ hS]
  exact b_le q2
theorem sk_spec_eq {z ck fr0 lo0 : Nat} (hk : sk_spec y i z ck fr0 lo0 = true) : ∃ (idx ow kd na mL fr lo na' ne : Nat), jv_isC i = some (ck, idx) ∧ jv_inf y = some (ow, kd, na, mL, fr, lo) ∧ jv_cal ow idx = some (z, na', ne) ∧ fr0 ≤ fr ∧ lo0 ≤ lo := by
  unfold sk_spec at hk
  split at hk
  · rename_i ck1 idx ow kd na mL fr lo hC hinf
    split at hk
    · rename_i z1 na' ne hcal
      obtain ⟨rfl, rfl, h1, h2⟩ := of_decide_eq_true hk
      exact ⟨idx, ow, kd, na, mL, fr, lo, na', ne, hC, hinf, hcal, h1, h2⟩
    · cases hk
  · cases hk
theorem k_obj (hrun : ∀ env f rest H, run env f rest H = true → sSnd env f rest H) (X : sX ρ L xs env rest H gs y pc i len t SL st Lv vs h) (hk : sk_spec y i 900 2 1 20 = true) (hlen : len = 3) (hr : so_obj run env y (pc + len) t SL st rest H = true) : sG gs y pc Lv vs h := by
  subst hlen
  obtain ⟨hρ, hE, hy, hcode, hok, hL, hS, hrs, hH⟩ := id X
  obtain ⟨idx, ow, kd, na, mL, fr, lo, na', ne, hC, hinf, hcal, h1, h2⟩ := sk_spec_eq hk
  unfold so_obj at hr
  split at hr
  · rename_i p r
    obtain ⟨v1, vs1, rfl, hsp, hS⟩ := hS
    obtain ⟨q, hr⟩ := s_c1 hr
    obtain ⟨q1, q⟩ := s_and q
    have hwd := s_wd8 hS q
    have hw := (sr_ref q1 hsp).1
    obtain ⟨u, hu⟩ : ∃ u, u = p - sREF := ⟨_, rfl⟩
    rw [← hu] at hw
    subst hw
    obtain ⟨h', hf, hb⟩ := hrun _ _ _ _ hr L xs ρ hρ hE gs Lv vs1 h hy hok hL hS hrs hH
    refine ⟨h', jv_fin_of (fun x hx => jv_ev_step (fun n => ?_) hx) hf, hb⟩
    exact jv_run_obj hinf hcode hC hcal h1 (by omega)
  · cases hr
theorem k_slen (hrun : ∀ env f rest H, run env f rest H = true → sSnd env f rest H) (X : sX ρ L xs env rest H gs y pc i len t SL st Lv vs h) (hk : sk_spec y i 901 1 2 40 = true) (hlen : len = 3) (hr : so_slen run env y (pc + len) t SL st rest H = true) : sG gs y pc Lv vs h := by
  subst hlen
  obtain ⟨hρ, hE, hy, hcode, hok, hL, hS, hrs, hH⟩ := id X
  obtain ⟨idx, ow, kd, na, mL, fr, lo, na', ne, hC, hinf, hcal, h1, h2⟩ := sk_spec_eq hk
  unfold so_slen at hr
  split at hr
  · rename_i p r
    obtain ⟨v1, vs1, rfl, hsp, hS⟩ := hS
    obtain ⟨q, hr⟩ := s_c1 hr
    obtain ⟨q1, q⟩ := s_and q
    have hwd := s_wd8 hS q
    have hw := (sr_ref q1 hsp).1
    obtain ⟨u, hu⟩ : ∃ u, u = p - sREF := ⟨_, rfl⟩
    rw [← hu] at hw hr
    subst hw
    split at hr
    · rename_i k hk2
      have hlt : (jv_byt.getD k []).length < sM := by
        have h20 := (jv_tix_eq hk2).1
        have : ∀ k, k < 20 → (jv_byt.getD k []).length < sM := by decide +kernel
        exact this k h20
      obtain ⟨h', hf, hb⟩ := hrun _ _ _ _ hr L xs ρ hρ hE gs Lv (.int (Int32.ofNat (jv_byt.getD k []).length) :: vs1) h hy hok hL ⟨_, vs1, rfl, Or.inl ⟨hlt, rfl⟩, hS⟩ hrs hH
      refine ⟨h', jv_fin_of (fun x hx => jv_ev_step (fun n => ?_) hx) hf, hb⟩
      refine jv_run_slen hinf hcode hC hcal ?_ h1 h2 hwd
      unfold jv_strlen
      simp only [hk2]
    · cases hr
  · cases hr
theorem a_enc (w : Int32) : w.toUInt32.toNat < sM ∧ w = Int32.ofNat w.toUInt32.toNat := by
  refine ⟨w.toUInt32.toNat_lt, ?_⟩
  apply Int32.toBitVec.inj
  show w.toBitVec = BitVec.ofNat 32 w.toUInt32.toNat
  apply BitVec.eq_of_toNat_eq
  rw [BitVec.toNat_ofNat]
  have h1 := w.toUInt32.toNat_lt
  have h2 : w.toUInt32.toNat = w.toBitVec.toNat := rfl
  rw [Nat.mod_eq_of_lt h1, h2]
theorem sr_lit (w : Int32) : sr ρ w.toUInt32.toNat (.int w) := Or.inl (a_enc w)
theorem k_sat (hrun : ∀ env f rest H, run env f rest H = true → sSnd env f rest H) (X : sX ρ L xs env rest H gs y pc i len t SL st Lv vs h) (hk : sk_spec y i 902 1 6 120 = true) (hlen : len = 3) (hr : so_sat run env y (pc + len) t SL st rest H = true) : sG gs y pc Lv vs h := by
  subst hlen
  obtain ⟨hρ, hE, hy, hcode, hok, hL, hS, hrs, hH⟩ := id X
  obtain ⟨idx, ow, kd, na, mL, fr, lo, na', ne, hC, hinf, hcal, h1, h2⟩ := sk_spec_eq hk
  unfold so_sat at hr
  split at hr
  · rename_i j p r
    obtain ⟨v0, vs0, rfl, hsj, v1, vs1, rfl, hsp, hS⟩ := hS
    obtain ⟨q, hr⟩ := s_c1 hr
    obtain ⟨q1, q⟩ := s_and q
    have hwd := s_wd8 hS q
    have hw := (sr_ref q1 hsp).1
    obtain ⟨u, hu⟩ : ∃ u, u = p - sREF := ⟨_, rfl⟩
    rw [← hu] at hw hr
    subst hw
    split at hr
    · rename_i k hk2
      have h20 := (jv_tix_eq hk2).1
      have hsj2 := sr_res hE hsj
      obtain ⟨w, rfl⟩ := s_conc_int hr hsj2
      obtain ⟨z, env', hE', hz, rfl, hr⟩ := s_conc_ok hr hE hsj2
      obtain ⟨q5, hr⟩ := s_c1 hr
      rw [s_frc_eq] at hr
      have q5 := b_lt q5
      have hl20 : ∀ k, k < 20 → (jv_byt.getD k []).length < 100 := by decide +kernel
      have hz100 : z < 2147483648 := Nat.lt_trans q5 (Nat.lt_trans (hl20 k h20) (by decide))
      have z0 : ¬ Int32.ofNat z < 0 := sI_pos hz100
      have z1 : (Int32.ofNat z).toNatClampNeg = z := sI_clamp hz100
      obtain ⟨h', hf, hb⟩ := hrun _ _ _ _ hr L xs ρ hρ hE' gs Lv (.int ((jv_byt.getD k []).getD z 0) :: vs1) h hy hok hL ⟨_, vs1, rfl, sr_lit _, hS⟩ hrs hH
      refine ⟨h', jv_fin_of (fun x hx => jv_ev_step (fun n => ?_) hx) hf, hb⟩
      refine jv_run_sat hinf hcode hC hcal ?_ h1 h2 hwd
      unfold jv_strat
      simp only [hk2, z1]
      rw [if_pos (fun e => e.elim z0 (fun e => Nat.not_le.mpr q5 e))]
    · cases hr
  · cases hr
theorem k_ret (hrun : ∀ env f rest H, run env f rest H = true → sSnd env f rest H) (X : sX ρ L xs env rest H gs y pc i len t SL st Lv vs h) {ok : Nat → Bool} (hokv : ∀ (x : Nat) (v : Value), ok x = true → sr ρ x v → jv_ret (jv_ym y).2.2 i [v] = some (some v)) (hr : so_ret run env st rest H ok = true) : sG gs y pc Lv vs h := by
  obtain ⟨hρ, hE, hy, hcode, hok, hL, hS, hrs, hH⟩ := id X
  obtain ⟨ow, kd, na, mL, fr, lo, hinf, -, -⟩ := s_inf hy
  unfold so_ret at hr
  split at hr
  · rename_i x
    obtain ⟨v, vs1, rfl, hsx, hS⟩ := hS
    have hS2 : vs1 = [] := hS
    subst hS2
    obtain ⟨q, hr⟩ := s_c1 hr
    have hev : jv_ev y pc Lv [v] h (some v, h) := ⟨1, fun n hn => by
      obtain ⟨m, rfl⟩ : ∃ m, n = m + 1 := ⟨n - 1, by omega⟩
      exact jv_run_ret hinf hcode (hokv x v q hsx)⟩
    split at hr
    · have hgs : gs = [] := hrs
      subst hgs
      obtain ⟨r1, r2⟩ := s_and hr
      obtain ⟨r2, r3⟩ := s_and r2
      have hs1 := sr_res hE hsx
      rw [b_eq r1] at hs1
      have hv := sr_num (by decide) hs1
      have hv2 : v = .int 1 := hv
      subst hv2
      exact ⟨h, hev, by rw [hH.1]; exact b_le r2, by rw [hH.2.1]; exact b_le r3⟩
    · rename_i y2 pc2 t2 SL2 st2 rest2 xx
      obtain ⟨⟨gy, gpc, gL, gst⟩, gs', rfl, ⟨e1, e2, hlt, hok2, hL2, hS2⟩, hrs2⟩ := hrs
      have e1 : y2 = gy := e1
      have e2 : pc2 = gpc := e2
      subst e1
      subst e2
      obtain ⟨h', hf, hb⟩ := hrun _ _ _ _ hr L xs ρ hρ hE gs' gL (v :: gst) h hlt hok2 hL2 ⟨v, gst, rfl, hsx, hS2⟩ hrs2 hH
      exact ⟨h', ⟨some v, h, hev, hf⟩, hb⟩
  · cases hr
theorem k_vret (hrun : ∀ env f rest H, run env f rest H = true → sSnd env f rest H) (X : sX ρ L xs env rest H gs y pc i len t SL st Lv vs h) (hk : sk_ret y i 0 = true) (hr : so_vret run env st rest H = true) : sG gs y pc Lv vs h := by
  obtain ⟨hρ, hE, hy, hcode, hok, hL, hS, hrs, hH⟩ := id X
  obtain ⟨ow, kd, na, mL, fr, lo, hinf, -, -⟩ := s_inf hy
  have hret : jv_ret (jv_ym y).2.2 i [] = some none := by
    have hk : sk_r0 i (jv_ym y).2.2 = true := hk
    unfold sk_r0 at hk
    generalize (jv_ym y).2.2 = rt at hk ⊢
    split at hk
    · rfl
    · cases hk
  unfold so_vret at hr
  split at hr
  · have hS2 : vs = [] := hS
    subst hS2
    split at hr
    · cases hr
    · rename_i g rest2
      have hev : jv_ev y pc Lv [] h (none, h) := ⟨1, fun n hn => by
        obtain ⟨m, rfl⟩ : ∃ m, n = m + 1 := ⟨n - 1, by omega⟩
        exact jv_run_ret hinf hcode hret⟩
      obtain ⟨y2, pc2, t2, SL2, st2⟩ := g
      obtain ⟨⟨gy, gpc, gL, gst⟩, gs', rfl, ⟨e1, e2, hlt, hok2, hL2, hS2⟩, hrs2⟩ := hrs
      have e1 : y2 = gy := e1
      have e2 : pc2 = gpc := e2
      subst e1
      subst e2
      obtain ⟨h', hf, hb⟩ := hrun _ _ _ _ hr L xs ρ hρ hE gs' gL gst h hlt hok2 hL2 hS2 hrs2 hH
      exact ⟨h', ⟨none, h, hev, hf⟩, hb⟩
  · cases hr
theorem sk_ret_1 {v : Value} (hk : sk_ret y i 1 = true) (hv : ∃ w, v = .int w) : jv_ret (jv_ym y).2.2 i [v] = some (some v) := by
  obtain ⟨w, rfl⟩ := hv
  have hk : sk_r1 i (jv_ym y).2.2 = true := hk
  unfold sk_r1 at hk
  generalize (jv_ym y).2.2 = rt at hk ⊢
  split at hk
  · exact if_pos rfl
  · cases hk
theorem sk_ret_2 {v : Value} (hk : sk_ret y i 2 = true) (hv : ∃ w : Int32, v = .int w ∧ (w = 0 ∨ w = 1)) : jv_ret (jv_ym y).2.2 i [v] = some (some v) := by
  obtain ⟨w, rfl, hw⟩ := hv
  have hn : narrow .boolean (.int w) = .int w := by rcases hw with rfl | rfl <;> decide
  have hk : sk_r2 i (jv_ym y).2.2 = true := hk
  unfold sk_r2 at hk
  generalize (jv_ym y).2.2 = rt at hk ⊢
  split at hk
  · exact if_pos hn
  · cases hk
theorem sk_ret_3 {v : Value} (hk : sk_ret y i 3 = true) (hv : ∃ a, v = .ref a) : jv_ret (jv_ym y).2.2 i [v] = some (some v) := by
  obtain ⟨w, rfl⟩ := hv
  have hk : sk_r3 i (jv_ym y).2.2 = true := hk
  unfold sk_r3 at hk
  generalize (jv_ym y).2.2 = rt at hk ⊢
  split at hk
  · exact rfl
  · cases hk
theorem sk_ret_4 {v : Value} (hk : sk_ret y i 4 = true) (hv : ∃ a, v = .float a) : jv_ret (jv_ym y).2.2 i [v] = some (some v) := by
  obtain ⟨w, rfl⟩ := hv
  have hk : sk_r4 i (jv_ym y).2.2 = true := hk
  unfold sk_r4 at hk
  generalize (jv_ym y).2.2 = rt at hk ⊢
  split at hk
  · exact rfl
  · cases hk
theorem sk_ret_5 {v : Value} (hk : sk_ret y i 5 = true) (hv : ∃ a, v = .double a) : jv_ret (jv_ym y).2.2 i [v] = some (some v) := by
  obtain ⟨w, rfl⟩ := hv
  have hk : sk_r5 i (jv_ym y).2.2 = true := hk
  unfold sk_r5 at hk
  generalize (jv_ym y).2.2 = rt at hk ⊢
  split at hk
  · exact rfl
  · cases hk
theorem s_to32 {z : Int} (h1 : -2147483648 ≤ z) (h2 : z < 2147483648) : (Int32.ofInt z).toInt = z := Int32.toInt_ofInt_of_le (by omega) (by omega)
theorem k_tab (hrun : ∀ env f rest H, run env f rest H = true → sSnd env f rest H) (X : sX ρ L xs env rest H gs y pc i len t SL st Lv vs h) {a : Nat} (hk : sk_tab pc i a = true) (hr : so_tab sc_meth run env y a SL st rest H = true) : sG gs y pc Lv vs h := by
  obtain ⟨hρ, hE, hy, hcode, hok, hL, hS, hrs, hH⟩ := id X
  unfold sk_tab at hk
  split at hk
  · rename_i d lo hi offs
    obtain ⟨hk1, hk2⟩ := s_and hk
    obtain ⟨rfl, hd, hlo1, hlo2, hhi1, hhi2⟩ := of_decide_eq_true hk1
    unfold so_tab at hr
    split at hr
    · rename_i x r
      obtain ⟨v1, vs1, rfl, hsx, hS⟩ := hS
      rw [hcode] at hr
      have hsx2 := sr_res hE hsx
      have hr : s_lt env (s_res env x) (Int32.ofInt lo).toUInt32.toNat (fun env => s_goto sc_meth run env y ((a : Int) + d).toNat SL r rest H)
        (fun env => s_lt env (Int32.ofInt hi).toUInt32.toNat (s_res env x) (fun env => s_goto sc_meth run env y ((a : Int) + d).toNat SL r rest H)
          (fun env => s_conc env (s_res env x) (fun x env => match offs[((Int32.ofNat x).toInt - lo).toNat]? with
            | some off => s_goto sc_meth run env y ((a : Int) + off).toNat SL r rest H
            | none => false))) = true := hr
      obtain ⟨w, rfl⟩ := sI_of (s_lt_int hr).1 hsx2
      have hbr : jv_br (.tableswitch d lo hi offs) a (.int w :: vs1) = (if w.toInt < lo ∨ hi < w.toInt then jv_jmp a d vs1 else match offs[(w.toInt - lo).toNat]? with
        | some off => jv_jmp a off vs1
        | none => none) := rfl
      have go : ∀ (off : Int) (env' : sE), 0 ≤ (a : Int) + off → sEk ρ env' → jv_br (.tableswitch d lo hi offs) a (.int w :: vs1) = jv_jmp a off vs1 → s_goto sc_meth run env' y ((a : Int) + off).toNat SL r rest H = true → sG gs y a Lv (.int w :: vs1) h := by
        intro off env' h0 hE' hb1 hr'
        refine sX_step X rfl rfl (st_br (pc' := ((a : Int) + off).toNat) (vs' := vs1) rfl rfl ?_) (s_goto_ok hrun hρ hE' hy hL hS hrs hH hr')
        rw [hb1]
        unfold jv_jmp
        rw [if_pos h0]
      rcases s_lt_ok hr hE hsx2 (sr_lit _) with ⟨hc, env', hE', hr⟩ | ⟨hc, env', hE', hr⟩
      · refine go d env' hd hE' ?_ hr
        rw [Int32.lt_iff_toInt_lt, s_to32 hlo1 hlo2] at hc
        rw [hbr, if_pos (Or.inl hc)]
      · have hsx3 := sr_res hE' hsx
        rcases s_lt_ok hr hE' (sr_lit _) hsx3 with ⟨hc2, env2, hE2, hr⟩ | ⟨hc2, env2, hE2, hr⟩
        · refine go d env2 hd hE2 ?_ hr
          rw [Int32.lt_iff_toInt_lt, s_to32 hhi1 hhi2] at hc2
          rw [hbr, if_pos (Or.inr hc2)]
        · have hsx4 := sr_res hE2 hsx
          obtain ⟨z, env3, hE3, hz, hw, hr⟩ := s_conc_ok hr hE2 hsx4
          rw [← hw] at hr
          split at hr
          · rename_i off hoff
            have h0 : 0 ≤ (a : Int) + off := by
              have h3 := List.all_eq_true.mp hk2 off (Array.mem_toList_iff.mpr (Array.mem_of_getElem? hoff))
              exact of_decide_eq_true h3
            refine go off env3 h0 hE3 ?_ hr
            rw [Int32.lt_iff_toInt_lt, s_to32 hlo1 hlo2] at hc
            rw [Int32.lt_iff_toInt_lt, s_to32 hhi1 hhi2] at hc2
            rw [hbr, if_neg (fun e => e.elim hc hc2), hoff]
          · cases hr
    · cases hr
  · cases hk
theorem k_lsw (hrun : ∀ env f rest H, run env f rest H = true → sSnd env f rest H) (X : sX ρ L xs env rest H gs y pc i len t SL st Lv vs h) {a : Nat} (hk : sk_lsw pc i a = true) (hr : so_lsw sc_meth run env y a SL st rest H = true) : sG gs y pc Lv vs h := by
  obtain ⟨hρ, hE, hy, hcode, hok, hL, hS, hrs, hH⟩ := id X
  unfold sk_lsw at hk
  split at hk
  · rename_i d ps
    obtain ⟨hk1, hk2⟩ := s_and hk
    obtain ⟨hsort, hk2⟩ := s_and hk2
    obtain ⟨rfl, hd, hne0⟩ := of_decide_eq_true hk1
    unfold so_lsw at hr
    split at hr
    · rename_i x r
      obtain ⟨v1, vs1, rfl, hsx, hS⟩ := hS
      rw [hcode] at hr
      have hsx2 := sr_res hE hsx
      have hr : s_lsw sc_meth run y a SL rest H (s_res env x) r d ps.toList env = true := hr
      have hall : ∀ p ∈ ps.toList, 0 ≤ (a : Int) + p.2 ∧ -2147483648 ≤ p.1 ∧ p.1 < 2147483648 := fun p hp => of_decide_eq_true (List.all_eq_true.mp hk2 p hp)
      have key : ∀ (l : List (Int × Int)) (env' : sE) (X0 : Nat), (∀ p ∈ l, 0 ≤ (a : Int) + p.2 ∧ -2147483648 ≤ p.1 ∧ p.1 < 2147483648) → l ≠ [] ∨ (∃ w, v1 = .int w) → sEk ρ env' → sr ρ X0 v1 → s_lsw sc_meth run y a SL rest H X0 r d l env' = true →
          ∃ (w : Int32) (off : Int) (env2 : sE), v1 = .int w ∧ sEk ρ env2 ∧ 0 ≤ (a : Int) + off ∧ Op.lookupswitch.offset l d w.toInt = off ∧ s_goto sc_meth run env2 y ((a : Int) + off).toNat SL r rest H = true := by
        intro l
        induction l with
        | nil =>
          intro env' X0 _ hne hE' hs' hr'
          rcases hne with e | ⟨w, hw⟩
          · exact absurd rfl e
          · exact ⟨w, d, env', hw, hE', hd, rfl, hr'⟩
        | cons p l ih =>
          intro env' X0 hal _ hE' hs' hr'
          obtain ⟨k, off⟩ := p
          have hr' : s_eq env' X0 (Int32.ofInt k).toUInt32.toNat (fun env => s_goto sc_meth run env y ((a : Int) + off).toNat SL r rest H) (s_lsw sc_meth run y a SL rest H X0 r d l) = true := hr'
          obtain ⟨p1, p2, p3⟩ := hal (k, off) List.mem_cons_self
          obtain ⟨w, hw⟩ := sI_of (s_eq_int hr').1 hs'
          rw [hw] at hs'
          rcases s_eq_ok hr' hE' hs' (sr_lit _) with ⟨hc, env2, hE2, hr2⟩ | ⟨hc, env2, hE2, hr2⟩
          · refine ⟨w, off, env2, hw, hE2, p1, ?_, hr2⟩
            rw [Op.lookupswitch.offset_cons, if_pos]
            rw [hc, s_to32 p2 p3]
          · obtain ⟨w2, off2, env3, hw2, hE3, h0, ho, hr3⟩ := ih env2 X0 (fun q hq => hal q (List.mem_cons_of_mem _ hq)) (Or.inr ⟨w, hw⟩) hE2 (by rw [hw]; exact hs') hr2
            rw [hw] at hw2
            cases hw2
            refine ⟨w, off2, env3, hw, hE3, h0, ?_, hr3⟩
            rw [Op.lookupswitch.offset_cons, if_neg]
            · exact ho
            · intro e
              apply hc
              apply Int32.toInt_inj.1
              rw [s_to32 p2 p3]
              exact e.symm
      have hv1 : ps.toList ≠ [] ∨ ∃ w, v1 = .int w := Or.inl (fun e => by rw [e] at hne0; exact absurd hne0 (by decide))
      obtain ⟨w, off, env2, rfl, hE2, h0, ho, hr2⟩ := key _ env _ hall hv1 hE hsx2 hr
      refine sX_step X rfl rfl (st_br (pc' := ((a : Int) + off).toNat) (vs' := vs1) rfl rfl ?_) (s_goto_ok hrun hρ hE2 hy hL hS hrs hH hr2)
      show (if (ps.toList.zip (ps.toList.drop 1)).all (fun (a, next) => a.1 < next.1) = true then jv_jmp a (Op.lookupswitch.offset ps.toList d w.toInt) vs1 else none) = _
      rw [if_pos hsort, ho]
      unfold jv_jmp
      rw [if_pos h0]
    · cases hr
  · cases hk
theorem sr_dec {x : Nat} {u v : Value} (h : s_dec x = some u) (hs : sr ρ x v) : v = u := by
  unfold s_dec at h
  cases h1 : Nat.blt x sM with
  | true =>
    rw [h1, c_t] at h
    cases h
    exact sr_num (b_lt h1) hs
  | false =>
    rw [h1, c_f] at h
    cases h2 : Nat.ble sDBL x with
    | true =>
      rw [h2, c_t] at h
      cases h
      obtain ⟨w, rfl⟩ := sr_dbl h2 hs
      have hx : x = 1208925819614629174706176 + w.toNat := hs
      have e : x - 1208925819614629174706176 = w.toNat := by omega
      show Value.double w = .double (UInt64.ofNat (x - 1208925819614629174706176))
      rw [e, UInt64.ofNat_toNat]
    | false =>
      rw [h2, c_f] at h
      cases h3 : Nat.ble sFLT x with
      | false => rw [h3, c_f] at h; cases h
      | true =>
        rw [h3, c_t] at h
        cases h
        have h4 : 1099511627776 ≤ x := b_le h3
        have h5 : x < 1208925819614629174706176 := b_nle h2
        have h6 : 4294967296 ≤ x := b_nlt h1
        cases v with
        | float w =>
          have hx : x = 1099511627776 + w.toNat := hs
          have e : x - 1099511627776 = w.toNat := by omega
          show Value.float w = .float (UInt32.ofNat (x - 1099511627776))
          rw [e, UInt32.ofNat_toNat]
        | int w =>
          rcases hs with ⟨h7, -⟩ | ⟨k, hk, hk2, -⟩ | hu
          · have : x < 4294967296 := h7
            omega
          · have : x = 17179869184 + k := hk2
            omega
          · have : x = 17179869284 := hu
            omega
        | ref a =>
          have r := sRf_num hs
          omega
        | null =>
          have : x = 17179869286 := hs
          omega
        | double w =>
          have : x = 1208925819614629174706176 + w.toNat := hs
          omega
        | long w => cases hs
        | retAddr w => cases hs
theorem jp_1 {x v : Value} (hi : i = .i2f ∨ i = .i2d ∨ i = .f2d) (h0 : jv_pure i [x] = some [v]) : (∀ r, jv_pure i (x :: r) = some (v :: r)) ∧ sr ρ (s_enc v) v := by
  rcases hi with rfl | rfl | rfl
  · cases x <;> first | (cases h0; done) | skip
    rename_i w
    have h0 : some [Value.float (FP.i2f w)] = some [v] := h0
    cases h0
    exact ⟨fun r => rfl, rfl⟩
  · cases x <;> first | (cases h0; done) | skip
    rename_i w
    have h0 : some [Value.double (FP.i2d w)] = some [v] := h0
    cases h0
    exact ⟨fun r => rfl, rfl⟩
  · cases x <;> first | (cases h0; done) | skip
    rename_i w
    have h0 : (if (FP.f2d w) &&& 0x7fffffffffffffff ≤ 0x7ff0000000000000 then some [Value.double (FP.f2d w)] else none) = some [v] := h0
    split at h0
    · rename_i hc
      cases h0
      exact ⟨fun r => if_pos hc, rfl⟩
    · cases h0
theorem jp_2 {x z v : Value} (hi : i = .fdiv ∨ i = .ddiv ∨ ∃ op, i = .dcmp op) (h0 : jv_pure i [x, z] = some [v]) : (∀ r, jv_pure i (x :: z :: r) = some (v :: r)) ∧ sr ρ (s_enc v) v := by
  rcases hi with rfl | rfl | ⟨op, rfl⟩
  · cases x <;> first | (cases h0; done) | skip
    cases z <;> first | (cases h0; done) | skip
    rename_i w w2
    have h0 : (if (FP.fdiv w2 w) &&& 0x7fffffff ≤ 0x7f800000 then some [Value.float (FP.fdiv w2 w)] else none) = some [v] := h0
    split at h0
    · rename_i hc
      cases h0
      exact ⟨fun r => if_pos hc, rfl⟩
    · cases h0
  · cases x <;> first | (cases h0; done) | skip
    cases z <;> first | (cases h0; done) | skip
    rename_i w w2
    have h0 : (if (FP.ddiv w2 w) &&& 0x7fffffffffffffff ≤ 0x7ff0000000000000 then some [Value.double (FP.ddiv w2 w)] else none) = some [v] := h0
    split at h0
    · rename_i hc
      cases h0
      exact ⟨fun r => if_pos hc, rfl⟩
    · cases h0
  · cases x <;> first | (cases h0; done) | skip
    cases z <;> first | (cases h0; done) | skip
    rename_i w w2
    have h0 : some [Value.int (Op.cmpValue (FP.dcmp w2 w) op)] = some [v] := h0
    cases h0
    exact ⟨fun r => rfl, sr_lit _⟩
theorem jp_0 {v : Value} (hi : (∃ k, i = .fconst k) ∨ ∃ k, i = .dconst k) (h0 : jv_pure i [] = some [v]) : (∀ r, jv_pure i r = some (v :: r)) ∧ sr ρ (s_enc v) v := by
  rcases hi with ⟨k, rfl⟩ | ⟨k, rfl⟩
  · have h0 : (if k = 0 then some [Value.float FP.fconst0] else none) = some [v] := h0
    split at h0
    · rename_i hc
      cases h0
      exact ⟨fun r => if_pos hc, rfl⟩
    · cases h0
  · have h0 : (if k = 0 then some [Value.double FP.dconst0] else none) = some [v] := h0
    split at h0
    · rename_i hc
      cases h0
      exact ⟨fun r => if_pos hc, rfl⟩
    · cases h0
theorem k_pure (hrun : ∀ env f rest H, run env f rest H = true → sSnd env f rest H) (X : sX ρ L xs env rest H gs y pc i len t SL st Lv vs h) {a b : Nat} (hk : sk_pure pc i a b = true) (hr : so_pure run env y (pc + len) t a b SL st rest H = true) : sG gs y pc Lv vs h := by
  obtain ⟨hρ, hE, hy, hcode, hok, hL, hS, hrs, hH⟩ := id X
  have kind : a = pc ∧ jv_isR i = false ∧ jv_isC i = none ∧ ((b = 0 ∧ ((∃ k, i = .fconst k) ∨ ∃ k, i = .dconst k)) ∨ (b = 1 ∧ (i = .i2f ∨ i = .i2d ∨ i = .f2d)) ∨ (b = 2 ∧ (i = .fdiv ∨ i = .ddiv ∨ ∃ op, i = .dcmp op))) := by
    unfold sk_pure at hk
    split at hk
    · obtain ⟨e1, e2⟩ := of_decide_eq_true hk
      exact ⟨e1, rfl, rfl, Or.inl ⟨e2, Or.inl ⟨_, rfl⟩⟩⟩
    · obtain ⟨e1, e2⟩ := of_decide_eq_true hk
      exact ⟨e1, rfl, rfl, Or.inl ⟨e2, Or.inr ⟨_, rfl⟩⟩⟩
    · obtain ⟨e1, e2⟩ := of_decide_eq_true hk
      exact ⟨e1, rfl, rfl, Or.inr (Or.inl ⟨e2, Or.inl rfl⟩)⟩
    · obtain ⟨e1, e2⟩ := of_decide_eq_true hk
      exact ⟨e1, rfl, rfl, Or.inr (Or.inl ⟨e2, Or.inr (Or.inl rfl)⟩)⟩
    · obtain ⟨e1, e2⟩ := of_decide_eq_true hk
      exact ⟨e1, rfl, rfl, Or.inr (Or.inl ⟨e2, Or.inr (Or.inr rfl)⟩)⟩
    · obtain ⟨e1, e2⟩ := of_decide_eq_true hk
      exact ⟨e1, rfl, rfl, Or.inr (Or.inr ⟨e2, Or.inl rfl⟩)⟩
    · obtain ⟨e1, e2⟩ := of_decide_eq_true hk
      exact ⟨e1, rfl, rfl, Or.inr (Or.inr ⟨e2, Or.inr (Or.inl rfl)⟩)⟩
    · obtain ⟨e1, e2⟩ := of_decide_eq_true hk
      exact ⟨e1, rfl, rfl, Or.inr (Or.inr ⟨e2, Or.inr (Or.inr ⟨_, rfl⟩)⟩)⟩
    · cases hk
  obtain ⟨rfl, hR, hC, kind⟩ := kind
  unfold so_pure at hr
  rw [hcode] at hr
  rcases kind with ⟨rfl, hi⟩ | ⟨rfl, hi⟩ | ⟨rfl, hi⟩
  · have hr : (match jv_pure i [] with
      | some [v] => s_frc (s_enc v) (fun v => run env (y, a + len, t, SL, v :: st) rest H)
      | _ => false) = true := hr
    split at hr
    · rename_i v hv
      rw [s_frc_eq] at hr
      obtain ⟨p1, p2⟩ := jp_0 (ρ := ρ) hi hv
      exact sX_go hrun X hR hC (st_pure (p1 vs)) hr hE hL ⟨v, vs, rfl, p2, hS⟩ hH
    · cases hr
  · have hr : (match (generalizing := false) st with
      | x :: r => match s_dec x with
        | some x => match jv_pure i [x] with
          | some [v] => s_frc (s_enc v) (fun v => run env (y, a + len, t, SL, v :: r) rest H)
          | _ => false
        | none => false
      | _ => false) = true := hr
    split at hr
    · rename_i x r
      obtain ⟨v1, vs1, rfl, hsx, hS⟩ := hS
      split at hr
      · rename_i u hu
        cases sr_dec hu hsx
        split at hr
        · rename_i v hv
          rw [s_frc_eq] at hr
          obtain ⟨p1, p2⟩ := jp_1 (ρ := ρ) hi hv
          exact sX_go hrun X hR hC (st_pure (p1 vs1)) hr hE hL ⟨v, vs1, rfl, p2, hS⟩ hH
        · cases hr
      · cases hr
    · cases hr
  · have hr : (match (generalizing := false) st with
      | x :: z :: r => match s_dec x, s_dec z with
        | some x, some z => match jv_pure i [x, z] with
          | some [v] => s_frc (s_enc v) (fun v => run env (y, a + len, t, SL, v :: r) rest H)
          | _ => false
        | _, _ => false
      | _ => false) = true := hr
    split at hr
    · rename_i x z r
      obtain ⟨v1, vs1, rfl, hsx, v2, vs2, rfl, hsz, hS⟩ := hS
      split at hr
      · rename_i u u2 hu hu2
        cases sr_dec hu hsx
        cases sr_dec hu2 hsz
        split at hr
        · rename_i v hv
          rw [s_frc_eq] at hr
          obtain ⟨p1, p2⟩ := jp_2 (ρ := ρ) hi hv
          exact sX_go hrun X hR hC (st_pure (p1 vs2)) hr hE hL ⟨v, vs2, rfl, p2, hS⟩ hH
        · cases hr
      · cases hr
    · cases hr
end SOK3
end
section
/-! THE S MACHINE IS RIGHT: the dispatch, the run -/
section SMR
variable {run : sRun} {ρ : Nat → Int32} {L : Nat} {xs : Nat → Int32} {env : sE} {rest : List sF} {H : sH} {gs : List jF} {y pc : Nat} {i : Instr} {len : Nat} {t : List sI} {SL st : List Nat} {Lv : List (Option Value)} {vs : List Value} {h : jv_H}
theorem sm_op_lt {op a b : Nat} {meth : Nat → List sI} (hr : sm_op meth run env y pc t op a b SL st rest H = true) : op < 51 := by
  rcases Nat.lt_or_ge op 51 with q | q
  · exact q
  · exfalso
    have bb : ∀ k, k ≤ 51 → Nat.blt op k = false := fun k hk => by
      cases e : Nat.blt op k with
      | true => have := b_lt e; omega
      | false => rfl
    have e50 : Nat.beq op 50 = false := by
      cases e : Nat.beq op 50 with
      | true => have := b_eq e; omega
      | false => rfl
    unfold sm_op at hr
    rw [bb 25 (by decide), c_f, bb 38 (by decide), c_f, bb 44 (by decide), c_f, bb 47 (by decide), c_f, bb 49 (by decide), c_f, bb 50 (by decide), c_f, e50, c_f] at hr
    cases hr
theorem len_if {a b : Nat} (hl : jv_sw i = true ∨ len = jv_len i) (hk : sk_if pc i a b = true) : len = 3 := by
  unfold sk_if at hk
  split at hk
  · exact jv_len1 hl rfl
  · cases hk
theorem len_icmp {a b : Nat} (hl : jv_sw i = true ∨ len = jv_len i) (hk : sk_icmp pc i a b = true) : len = 3 := by
  unfold sk_icmp at hk
  split at hk
  · exact jv_len1 hl rfl
  · cases hk
theorem len_C {q : Nat × Nat} (hl : jv_sw i = true ∨ len = jv_len i) (hC : jv_isC i = some q) : len = 3 := by
  obtain ⟨ck, idx⟩ := q
  rcases jv_isC_eq hC with ⟨-, rfl⟩ | ⟨-, rfl⟩ | ⟨-, rfl⟩ <;> exact jv_len1 hl rfl
theorem len_call {a b : Nat} (hl : jv_sw i = true ∨ len = jv_len i) (hk : sk_call y i a b = true) : len = 3 := by
  unfold sk_call at hk
  split at hk
  · rename_i hC _ _
    exact len_C hl hC
  · cases hk
theorem len_spec {z ck fr0 lo0 : Nat} (hl : jv_sw i = true ∨ len = jv_len i) (hk : sk_spec y i z ck fr0 lo0 = true) : len = 3 := by
  obtain ⟨idx, ow, kd, na, mL, fr, lo, na', ne, hC, -⟩ := sk_spec_eq hk
  exact len_C hl hC
theorem pv_0 (x : Nat) (v : Value) (ty : FieldType) (ok : s_isI x = true) (hs : sr ρ x v) (hk : pv_k 0 ty = true) : narrow ty v = v ∧ fits ty v = true := by
  obtain ⟨w, rfl⟩ := sr_int ok hs
  cases ty <;> first | (cases hk; done) | exact ⟨rfl, rfl⟩
theorem pv_1 (x : Nat) (v : Value) (ty : FieldType) (ok : s_is01 x = true) (hs : sr ρ x v) (hk : pv_k 1 ty = true) : narrow ty v = v ∧ fits ty v = true := by
  obtain ⟨w, rfl, hw⟩ := s_01 ok hs
  cases ty <;> first | (cases hk; done) | skip
  rcases hw with rfl | rfl <;> exact ⟨by decide, by decide⟩
theorem pv_2 (x : Nat) (v : Value) (ty : FieldType) (ok : s_isR x = true) (hs : sr ρ x v) (hk : pv_k 2 ty = true) : narrow ty v = v ∧ fits ty v = true := by
  have e := (sr_ref ok hs).1
  obtain ⟨u, hu⟩ : ∃ u, u = x - sREF := ⟨_, rfl⟩
  rw [← hu] at e
  subst e
  cases ty <;> first | (cases hk; done) | exact ⟨rfl, rfl⟩
theorem sr_flt {x : Nat} {v : Value} (hx : s_isF x = true) (h : sr ρ x v) : ∃ u, v = .float u := by
  obtain ⟨q1, q2⟩ := s_and hx
  have h1 : 1099511627776 ≤ x := b_le q1
  have h2 : x < 1208925819614629174706176 := b_lt q2
  cases v with
  | float w => exact ⟨w, rfl⟩
  | int w =>
    rcases h with ⟨h7, -⟩ | ⟨k, hk, hk2, -⟩ | hu
    · have : x < 4294967296 := h7
      omega
    · have : x = 17179869184 + k := hk2
      omega
    · have : x = 17179869284 := hu
      omega
  | ref a =>
    have r := sRf_num h
    omega
  | null =>
    have : x = 17179869286 := h
    omega
  | double w =>
    have : x = 1208925819614629174706176 + w.toNat := h
    omega
  | long w => cases h
  | retAddr w => cases h
theorem k_okd {x v : Nat} (h : s_okd x v = true) : x < 2147483648 ∧ v < 2147483648 ∧ 0 < v := by
  obtain ⟨q1, q⟩ := s_and h
  obtain ⟨q2, q3⟩ := s_and q
  exact ⟨b_lt q1, b_lt q2, b_lt q3⟩
set_option maxHeartbeats 8000000 in
theorem sm_op_ok (hrun : ∀ env f rest H, run env f rest H = true → sSnd env f rest H) (X : sX ρ L xs env rest H gs y pc i len t SL st Lv vs h) {op a b : Nat} (hl : jv_sw i = true ∨ len = jv_len i) (hk : sk1 y pc i op a b = true) (hr : sm_op sc_meth run env y (pc + len) t op a b SL st rest H = true) : sG gs y pc Lv vs h := by
  have h51 := sm_op_lt hr
  match op, h51, hk, hr with
  | 0, _, hk, hr =>
    have hr : so_const run env y (pc + len) t a SL st rest H = true := hr
    exact k_const hrun X hk hr
  | 1, _, hk, hr =>
    have hr : so_iload run env y (pc + len) t a SL st rest H = true := hr
    exact k_iload hrun X hk hr
  | 2, _, hk, hr =>
    have hr : so_aload run env y (pc + len) t a SL st rest H = true := hr
    exact k_aload hrun X hk hr
  | 3, _, hk, hr =>
    have hr : so_dload run env y (pc + len) t a SL st rest H = true := hr
    exact k_dload hrun X hk hr
  | 4, _, hk, hr =>
    have hr : so_istore run env y (pc + len) t a SL st rest H = true := hr
    exact k_istore hrun X hk hr
  | 5, _, hk, hr =>
    have hr : so_astore run env y (pc + len) t a SL st rest H = true := hr
    exact k_astore hrun X hk hr
  | 6, _, hk, hr =>
    have hr : so_dstore run env y (pc + len) t a SL st rest H = true := hr
    exact k_dstore hrun X hk hr
  | 7, _, hk, hr =>
    have hr : so_iinc run env y (pc + len) t a b SL st rest H = true := hr
    exact k_iinc hrun X hk hr
  | 8, _, hk, hr =>
    have hr : so_getf run env y (pc + len) t a b SL st rest H = true := hr
    exact k_getf hrun X hk hr
  | 9, _, hk, hr =>
    have hr : so_putf run env y (pc + len) t a b SL st rest H s_isI = true := hr
    exact k_putf hrun X (kd := 0) hk pv_0 hr
  | 10, _, hk, hr =>
    have hr : so_putf run env y (pc + len) t a b SL st rest H s_is01 = true := hr
    exact k_putf hrun X (kd := 1) hk pv_1 hr
  | 11, _, hk, hr =>
    have hr : so_putf run env y (pc + len) t a b SL st rest H s_isR = true := hr
    exact k_putf hrun X (kd := 2) hk pv_2 hr
  | 12, _, hk, hr =>
    have hr : s_goto sc_meth run env y a SL st rest H = true := hr
    exact k_goto hrun X hk hr
  | 13, _, hk, hr =>
    have hr : so_if sc_meth run env y (pc + len) t a b SL st rest H = true := hr
    exact k_if hrun X hk (len_if hl hk) hr
  | 14, _, hk, hr =>
    have hr : so_icmp sc_meth run env y (pc + len) t a b SL st rest H = true := hr
    exact k_icmp hrun X hk (len_icmp hl hk) hr
  | 15, _, hk, hr =>
    have hr : so_two run env y (pc + len) t SL st rest H (fun x v => (x + v) % sM) (fun _ _ => true) = true := hr
    have hk := of_decide_eq_true hk
    subst hk
    exact k_two hrun X (g := fun x y => x + y) rfl rfl (fun x v r hx hv _ => ⟨rfl, Nat.mod_lt _ (by decide), a_add x v⟩) hr
  | 16, _, hk, hr =>
    have hr : so_two run env y (pc + len) t SL st rest H (fun x v => (x + sM - v) % sM) (fun _ _ => true) = true := hr
    have hk := of_decide_eq_true hk
    subst hk
    exact k_two hrun X (g := fun x y => x - y) rfl rfl (fun x v r hx hv _ => ⟨rfl, Nat.mod_lt _ (by decide), a_sub hx hv⟩) hr
  | 17, _, hk, hr =>
    have hr : so_two run env y (pc + len) t SL st rest H (fun x v => (x * v) % sM) (fun _ _ => true) = true := hr
    have hk := of_decide_eq_true hk
    subst hk
    exact k_two hrun X (g := fun x y => x * y) rfl rfl (fun x v r hx hv _ => ⟨rfl, Nat.mod_lt _ (by decide), a_mul x v⟩) hr
  | 18, _, hk, hr =>
    have hr : so_two run env y (pc + len) t SL st rest H (fun x v => x / v) s_okd = true := hr
    have hk := of_decide_eq_true hk
    subst hk
    exact k_two hrun X (g := fun x y => x / y) rfl rfl (fun x v r hx hv ok => ⟨if_neg (a_ne0 hv (k_okd ok).2.2), Nat.lt_of_le_of_lt (Nat.div_le_self x v) hx, a_div (k_okd ok).1 (k_okd ok).2.1⟩) hr
  | 19, _, hk, hr =>
    have hr : so_two run env y (pc + len) t SL st rest H (fun x v => x % v) s_okd = true := hr
    have hk := of_decide_eq_true hk
    subst hk
    exact k_two hrun X (g := fun x y => x - x / y * y) rfl rfl (fun x v r hx hv ok => ⟨if_neg (a_ne0 hv (k_okd ok).2.2), Nat.lt_of_le_of_lt (Nat.mod_le x v) hx, a_rem (k_okd ok).1 (k_okd ok).2.1 (k_okd ok).2.2⟩) hr
  | 20, _, hk, hr =>
    have hr : so_iand run env y (pc + len) t SL st rest H = true := hr
    have hk := of_decide_eq_true hk
    exact k_iand hrun X hk hr
  | 21, _, hk, hr =>
    have hr : so_ishr run env y (pc + len) t SL st rest H = true := hr
    have hk := of_decide_eq_true hk
    exact k_ishr hrun X hk hr
  | 22, _, hk, hr =>
    have hr : so_two run env y (pc + len) t SL st rest H Nat.xor (fun _ _ => true) = true := hr
    have hk := of_decide_eq_true hk
    subst hk
    exact k_two hrun X (g := fun x y => x ^^^ y) rfl rfl (fun x v r hx hv _ => ⟨rfl, Nat.xor_lt_two_pow (n := 32) hx hv, a_xor x v⟩) hr
  | 23, _, hk, hr =>
    have hr : so_iald run env y (pc + len) t SL st rest H = true := hr
    have hk := of_decide_eq_true hk
    exact k_iald hrun X hk hr
  | 24, _, hk, hr =>
    have hr : so_bald run env y (pc + len) t SL st rest H = true := hr
    have hk := of_decide_eq_true hk
    exact k_bald hrun X hk hr
  | 25, _, hk, hr =>
    have hr : so_aald run env y (pc + len) t SL st rest H = true := hr
    have hk := of_decide_eq_true hk
    exact k_aald hrun X hk hr
  | 26, _, hk, hr =>
    have hr : so_ast run env y (pc + len) t SL st rest H 0 s_isI = true := hr
    have hk := of_decide_eq_true hk
    exact k_iast hrun X hk hr
  | 27, _, hk, hr =>
    have hr : so_ast run env y (pc + len) t SL st rest H 1 s_is01 = true := hr
    have hk := of_decide_eq_true hk
    exact k_bast hrun X hk hr
  | 28, _, hk, hr =>
    have hr : so_aast run env y (pc + len) t SL st rest H = true := hr
    have hk := of_decide_eq_true hk
    exact k_aast hrun X hk hr
  | 29, _, hk, hr =>
    have hr : so_alen run env y (pc + len) t SL st rest H = true := hr
    have hk := of_decide_eq_true hk
    exact k_alen hrun X hk hr
  | 30, _, hk, hr =>
    have hr : so_new run env y (pc + len) t a SL st rest H = true := hr
    exact k_new hrun X hk hr
  | 31, _, hk, hr =>
    have hr : so_newa run env y (pc + len) t a SL st rest H 0 = true := hr
    exact k_newa hrun X hk hr
  | 32, _, hk, hr =>
    have hr : so_newa run env y (pc + len) t a SL st rest H sNUL = true := hr
    exact k_anew hrun X hk hr
  | 33, _, hk, hr =>
    have hr : so_dup run env y (pc + len) t SL st rest H = true := hr
    have hk := of_decide_eq_true hk
    exact k_dup hrun X hk hr
  | 34, _, hk, hr =>
    have hr : so_dup2 run env y (pc + len) t SL st rest H = true := hr
    have hk := of_decide_eq_true hk
    exact k_dup2 hrun X hk hr
  | 35, _, hk, hr =>
    have hr : so_pop run env y (pc + len) t SL st rest H = true := hr
    have hk := of_decide_eq_true hk
    exact k_pop hrun X hk hr
  | 36, _, hk, hr =>
    have hr : so_call sc_meth run env y (pc + len) t a b SL st rest H = true := hr
    exact k_call hrun X hk (len_call hl hk) hr
  | 37, _, hk, hr =>
    have hr : so_obj run env y (pc + len) t SL st rest H = true := hr
    exact k_obj hrun X hk (len_spec hl hk) hr
  | 38, _, hk, hr =>
    have hr : so_slen run env y (pc + len) t SL st rest H = true := hr
    exact k_slen hrun X hk (len_spec hl hk) hr
  | 39, _, hk, hr =>
    have hr : so_sat run env y (pc + len) t SL st rest H = true := hr
    exact k_sat hrun X hk (len_spec hl hk) hr
  | 40, _, hk, hr =>
    have hr : so_vret run env st rest H = true := hr
    exact k_vret hrun X hk hr
  | 41, _, hk, hr =>
    have hr : so_ret run env st rest H s_isI = true := hr
    exact k_ret hrun X (fun x v ok hs => sk_ret_1 hk (sr_int ok hs)) hr
  | 42, _, hk, hr =>
    have hr : so_ret run env st rest H s_is01 = true := hr
    exact k_ret hrun X (fun x v ok hs => sk_ret_2 hk (s_01 ok hs)) hr
  | 43, _, hk, hr =>
    have hr : so_ret run env st rest H s_isR = true := hr
    exact k_ret hrun X (fun x v ok hs => sk_ret_3 hk ⟨_, (sr_ref ok hs).1⟩) hr
  | 44, _, hk, hr =>
    have hr : so_ret run env st rest H s_isF = true := hr
    exact k_ret hrun X (fun x v ok hs => sk_ret_4 hk (sr_flt ok hs)) hr
  | 45, _, hk, hr =>
    have hr : so_ret run env st rest H s_isD = true := hr
    exact k_ret hrun X (fun x v ok hs => sk_ret_5 hk (sr_dbl ok hs)) hr
  | 46, _, hk, hr =>
    have hr : so_tab sc_meth run env y a SL st rest H = true := hr
    exact k_tab hrun X hk hr
  | 47, _, hk, hr =>
    have hr : so_pure run env y (pc + len) t a b SL st rest H = true := hr
    exact k_pure hrun X hk hr
  | 48, _, hk, hr =>
    have hr : so_const run env y (pc + len) t a SL st rest H = true := hr
    exact k_ldc hrun X 0 hk hr
  | 49, _, hk, hr =>
    have hr : so_const run env y (pc + len) t a SL st rest H = true := hr
    exact k_ldc hrun X 1 hk hr
  | 50, _, hk, hr =>
    have hr : so_lsw sc_meth run env y a SL st rest H = true := hr
    exact k_lsw hrun X hk hr
  | n + 51, h51, _, _ => exact absurd h51 (by omega)
end SMR
/-- what the S machine answers with true, the law does -/
theorem sm_sound {stopf : sRun} (hs : ∀ env f rest H, stopf env f rest H = true → sSnd env f rest H) : ∀ (n : Nat) (env : sE) (f : sF) (rest : List sF) (H : sH), sm_run stopf sc_meth n env f rest H = true → sSnd env f rest H
  | 0, _, _, _, _, h => by cases h
  | n + 1, env, f, rest, H, hr => by
    have hr : cond (stopf env f rest H) true (match (generalizing := false) f with
      | (_, _, [], _, _) => false
      | (y, pc, (op, a, b, len) :: t, SL, st) => sm_op sc_meth (sm_run stopf sc_meth n) env y (pc + len) t op a b SL st rest H) = true := hr
    rcases s_c2 hr with ⟨q, -⟩ | ⟨-, hr⟩
    · exact hs _ _ _ _ q
    · split at hr
      · cases hr
      · rename_i y pc op a b len t SL st hx1 hx2
        intro L xs ρ hρ hE gs Lv vs h hy hok hL hS hrs hH
        have hok : (s_k y pc (op, a, b, len) && s_ok y (pc + len) t) = true := hok
        obtain ⟨h1, h2⟩ := s_and hok
        unfold s_k at h1
        split at h1
        · rename_i i len2 hcode
          obtain ⟨h3, h4⟩ := s_and h1
          have e : len2 = len := b_eq h3
          subst e
          exact sm_op_ok (sm_sound hs n) ⟨hρ, hE, hy, hcode, h2, hL, hS, hrs, hH⟩ (jv_code_ok hcode).2 h4 hr
        · cases h1
end
section
/-! THE S MACHINE RUNS: heaps that say the same, the law's loop head -/
noncomputable def s_sameC (c d : Nat × Nat × (Nat → Nat)) : Bool := Nat.beq c.1 d.1 && (Nat.beq c.2.1 d.2.1 && s_all (fun j => Nat.beq (c.2.2 j) (d.2.2 j)) 0 c.2.1)
noncomputable def s_sameH (H K : sH) : Bool := Nat.beq H.2.1 K.2.1 && (Nat.beq H.2.2 K.2.2 && s_all (fun a => s_sameC (H.1 a) (K.1 a)) 0 H.2.1)
noncomputable def s_eqL (l : List Nat) : List Nat → Bool := List.rec (motive := fun _ => List Nat → Bool) (fun k => match k with
  | [] => true
  | _ => false) (fun x _ ih k => match k with
  | [] => false
  | z :: k' => Nat.beq x z && ih k') l
theorem s_eqL_ok : ∀ (l k : List Nat), s_eqL l k = true → l = k
  | [], [], _ => rfl
  | [], z :: k, h => by cases h
  | x :: l, [], h => by cases h
  | x :: l, z :: k, h => by
    obtain ⟨h1, h2⟩ := s_and (show (Nat.beq x z && s_eqL l k) = true from h)
    rw [b_eq h1, s_eqL_ok l k h2]
noncomputable def s_stop (K : sH) (KL : List Nat) : sRun := fun _ f rest H => match rest with
  | [] => cond (Nat.beq f.1 271 && Nat.beq f.2.1 18) (s_eqL f.2.2.2.1 KL && (s_eqL f.2.2.2.2 [] && s_sameH H K)) false
  | _ => false
noncomputable def s_no : sRun := fun _ _ _ _ => false
theorem s_all0 {f : Nat → Bool} {n : Nat} (h : s_all f 0 n = true) : ∀ i, i < n → f i = true := fun i hi => s_all_ok n i h (Nat.zero_le i) (by omega)
theorem sCk_same {ρ : Nat → Int32} {c d : Nat × Nat × (Nat → Nat)} {x : jv_E} (hs : s_sameC c d = true) (hc : sCk ρ c x) : sCk ρ d x := by
  obtain ⟨h1, h2⟩ := s_and hs
  obtain ⟨h2, h3⟩ := s_and h2
  have h1 := b_eq h1
  have h2 := b_eq h2
  have h4 : ∀ j, j < c.2.1 → c.2.2 j = d.2.2 j := fun j hj => b_eq (s_all0 h3 j hj)
  match x, hc with
  | .inl (ty, n, f), hc =>
    obtain ⟨e1, e2, e3, e4⟩ := hc
    exact ⟨by rw [← h1]; exact e1, e2, by rw [← h2]; exact e3, fun j hj => by rw [← h4 j (by omega)]; exact e4 j hj⟩
  | .inr (.inl (ty, n, f)), hc =>
    obtain ⟨e1, e2, e3, e4⟩ := hc
    exact ⟨by rw [← h1]; exact e1, e2, by rw [← h2]; exact e3, fun j hj => by rw [← h4 j (by omega)]; exact e4 j hj⟩
  | .inr (.inr (dc, fs)), hc =>
    obtain ⟨e1, e2, e3⟩ := hc
    refine ⟨by rw [← h1]; exact e1, by rw [← h2]; exact e2, fun j v hj => ?_⟩
    have hlt : j < fs.length := (List.getElem?_eq_some_iff.mp hj).1
    rw [← h4 j (by omega)]
    exact e3 j v hj
theorem sHk_same {ρ : Nat → Int32} {L : Nat} {xs : Nat → Int32} {H K : sH} {h : jv_H} (hs : s_sameH H K = true) (hH : sHk ρ L xs H h) : sHk ρ L xs K h := by
  obtain ⟨h1, h2⟩ := s_and hs
  obtain ⟨h2, h3⟩ := s_and h2
  have h1 := b_eq h1
  have h2 := b_eq h2
  obtain ⟨e1, e2, e3, e4, e5⟩ := hH
  exact ⟨by rw [← h1]; exact e1, by rw [← h2]; exact e2, by rw [← h1]; exact e3, e4, fun a ha => sCk_same (s_all0 h3 a (by omega)) (e5 a (by omega))⟩
def sAt (K : sH) (KL : List Nat) : Prop := ∀ (L : Nat) (xs ρ : Nat → Int32), sRho L xs ρ → ∀ (h : jv_H) (Lv : List (Option Value)), sL ρ KL Lv → sHk ρ L xs K h → sG [] 271 18 Lv [] h
theorem s_stop_ok {K : sH} {KL : List Nat} (hA : sAt K KL) (env : sE) (f : sF) (rest : List sF) (H : sH) (hr : s_stop K KL env f rest H = true) : sSnd env f rest H := by
  unfold s_stop at hr
  split at hr
  · obtain ⟨q, hr⟩ := s_c1 hr
    obtain ⟨q1, q2⟩ := s_and q
    obtain ⟨q3, hr⟩ := s_and hr
    obtain ⟨q4, q5⟩ := s_and hr
    obtain ⟨y, pc, l, SL, st⟩ := f
    have e1 : y = 271 := b_eq q1
    have e2 : pc = 18 := b_eq q2
    have e3 : SL = KL := s_eqL_ok _ _ q3
    have e4 : st = [] := s_eqL_ok _ _ q4
    subst e1
    subst e2
    subst e3
    subst e4
    intro L xs ρ hρ hE gs Lv st h hy hok hL hS hrs hH
    have hgs : gs = [] := hrs
    have hst : st = [] := hS
    subst hgs
    subst hst
    exact hA L xs ρ hρ h Lv hL (sHk_same q5 hH)
  · cases hr
def s_env1 (e f a b c d : Nat) : sE := [(0, 4294967295), (e, f), (0, 4294967295), (0, 4294967295), (0, 4294967295), (0, 4294967295), (a, b), (c, d)]
def s_env (a b c d : Nat) : sE := s_env1 0 4294967295 a b c d
theorem s_full (w : Int32) : 0 ≤ sb w ∧ sb w ≤ 4294967295 := by
  have h1 : sb w < 4294967296 := sb_max w
  omega
theorem sEk_of {ρ : Nat → Int32} {e f a b c d : Nat} (h1 : e ≤ sb (ρ 1) ∧ sb (ρ 1) ≤ f) (h6 : a ≤ sb (ρ 6) ∧ sb (ρ 6) ≤ b) (h7 : c ≤ sb (ρ 7) ∧ sb (ρ 7) ≤ d) : sEk ρ (s_env1 e f a b c d) := by
  intro k
  match k with
  | 0 => exact s_full _
  | 1 => exact h1
  | 2 => exact s_full _
  | 3 => exact s_full _
  | 4 => exact s_full _
  | 5 => exact s_full _
  | 6 => exact h6
  | 7 => exact h7
  | k + 8 => exact s_full _
theorem sRho_6 {L : Nat} {xs ρ : Nat → Int32} (h : sRho L xs ρ) : sb (ρ 6) = L + 2147483648 ∧ L ≤ 3072 := by
  obtain ⟨h1, -, h2, -⟩ := h
  have e : L < sM := Nat.lt_of_le_of_lt h1 (by decide)
  rw [h2, sb_of e, (s_bias_eq L).1 (by omega)]
  exact ⟨rfl, h1⟩
theorem sRho_7 {L : Nat} {xs ρ : Nat → Int32} (h : sRho L xs ρ) : ∃ k, k < 64 ∧ sb (ρ 7) = k + 2147483648 := by
  obtain ⟨-, -, -, h3⟩ := h
  have e0 := (a_enc (xs 0)).2
  have e63 : (63 : Int32) = Int32.ofNat 63 := rfl
  have hle : Nat.land (xs 0).toUInt32.toNat 63 ≤ 63 := Nat.and_le_right
  refine ⟨Nat.land (xs 0).toUInt32.toNat 63, Nat.lt_succ_of_le hle, ?_⟩
  rw [h3, e0, e63, a_and]
  rw [← e0]
  rw [sb_of (Nat.lt_of_le_of_lt hle (by decide)), (s_bias_eq _).1 (Nat.lt_of_le_of_lt hle (by decide))]
noncomputable def sc_l18 : List sI := match s_find (sc_meth 271) 0 18 with
  | some l => l
  | none => []
theorem sc_l18_ok : s_ok 271 18 sc_l18 = true := by
  unfold sc_l18
  split
  · rename_i l hl
    exact s_find_ok _ 0 (sc_ok 271 (by decide)) hl
  · rfl
noncomputable def sh_0 : List (Nat × Nat × (Nat → Nat)) := [(23, 10, s_nth [4294967298, 4294967297, 4294967301, 4294967302, 4294967328, 4294967354, 4294967355, 4294967408, 4294967409, 4294967294]), (18, 6, s_nth [4294967298, 4294967300, 0, 0, 0, 0]), (20, 2, s_nth [4294967299, 0]), (0, 1000, fun _ => 0), (22, 10, s_nth [0, 0, 0, 0, 0, 0, 0, 0, 0, 0]), (19, 3, s_nth [0, 0, 0]), (21, 13, s_nth [4294967303, 4294967324, 4294967325, 4294967326, 4, 1, 0, 0, 0, 0, 0, 0, 0]), (2, 20, s_nth [4294967304, 4294967305, 4294967306, 4294967307, 4294967308, 4294967309, 4294967310, 4294967311, 4294967312, 4294967313, 4294967314, 4294967315, 4294967316, 4294967317, 4294967318, 4294967319, 4294967320, 4294967321, 4294967322, 4294967323]), (22, 10, s_nth [0, 0, 0, 0, 0, 0, 0, 0, 0, 0]), (22, 10, s_nth [0, 0, 0, 0, 0, 0, 0, 0, 0, 0]), (22, 10, s_nth [0, 0, 0, 0, 0, 0, 0, 0, 0, 0]), (22, 10, s_nth [0, 0, 0, 0, 0, 0, 0, 0, 0, 0]), (22, 10, s_nth [0, 0, 0, 0, 0, 0, 0, 0, 0, 0]), (22, 10, s_nth [0, 0, 0, 0, 0, 0, 0, 0, 0, 0]), (22, 10, s_nth [0, 0, 0, 0, 0, 0, 0, 0, 0, 0]), (22, 10, s_nth [0, 0, 0, 0, 0, 0, 0, 0, 0, 0])]
noncomputable def sh_1 : List (Nat × Nat × (Nat → Nat)) := [(22, 10, s_nth [0, 0, 0, 0, 0, 0, 0, 0, 0, 0]), (22, 10, s_nth [0, 0, 0, 0, 0, 0, 0, 0, 0, 0]), (22, 10, s_nth [0, 0, 0, 0, 0, 0, 0, 0, 0, 0]), (22, 10, s_nth [0, 0, 0, 0, 0, 0, 0, 0, 0, 0]), (22, 10, s_nth [0, 0, 0, 0, 0, 0, 0, 0, 0, 0]), (22, 10, s_nth [0, 0, 0, 0, 0, 0, 0, 0, 0, 0]), (22, 10, s_nth [0, 0, 0, 0, 0, 0, 0, 0, 0, 0]), (22, 10, s_nth [0, 0, 0, 0, 0, 0, 0, 0, 0, 0]), (22, 10, s_nth [0, 0, 0, 0, 0, 0, 0, 0, 0, 0]), (22, 10, s_nth [0, 0, 0, 0, 0, 0, 0, 0, 0, 0]), (22, 10, s_nth [0, 0, 0, 0, 0, 0, 0, 0, 0, 0]), (22, 10, s_nth [0, 0, 0, 0, 0, 0, 0, 0, 0, 0]), (22, 10, s_nth [0, 0, 0, 0, 0, 0, 0, 0, 0, 0]), (0, 50, fun _ => 0), (16, 3, s_nth [4294967327, 0, 0]), (0, 120, fun _ => 0)]
noncomputable def sh_2 : List (Nat × Nat × (Nat → Nat)) := [(21, 13, s_nth [4294967329, 4294967350, 4294967351, 4294967352, 4, 1, 0, 0, 0, 0, 0, 0, 0]), (2, 20, s_nth [4294967330, 4294967331, 4294967332, 4294967333, 4294967334, 4294967335, 4294967336, 4294967337, 4294967338, 4294967339, 4294967340, 4294967341, 4294967342, 4294967343, 4294967344, 4294967345, 4294967346, 4294967347, 4294967348, 4294967349]), (22, 10, s_nth [0, 0, 0, 0, 0, 0, 0, 0, 0, 0]), (22, 10, s_nth [0, 0, 0, 0, 0, 0, 0, 0, 0, 0]), (22, 10, s_nth [0, 0, 0, 0, 0, 0, 0, 0, 0, 0]), (22, 10, s_nth [0, 0, 0, 0, 0, 0, 0, 0, 0, 0]), (22, 10, s_nth [0, 0, 0, 0, 0, 0, 0, 0, 0, 0]), (22, 10, s_nth [0, 0, 0, 0, 0, 0, 0, 0, 0, 0]), (22, 10, s_nth [0, 0, 0, 0, 0, 0, 0, 0, 0, 0]), (22, 10, s_nth [0, 0, 0, 0, 0, 0, 0, 0, 0, 0]), (22, 10, s_nth [0, 0, 0, 0, 0, 0, 0, 0, 0, 0]), (22, 10, s_nth [0, 0, 0, 0, 0, 0, 0, 0, 0, 0]), (22, 10, s_nth [0, 0, 0, 0, 0, 0, 0, 0, 0, 0]), (22, 10, s_nth [0, 0, 0, 0, 0, 0, 0, 0, 0, 0]), (22, 10, s_nth [0, 0, 0, 0, 0, 0, 0, 0, 0, 0]), (22, 10, s_nth [0, 0, 0, 0, 0, 0, 0, 0, 0, 0])]
noncomputable def sh_3 : List (Nat × Nat × (Nat → Nat)) := [(22, 10, s_nth [0, 0, 0, 0, 0, 0, 0, 0, 0, 0]), (22, 10, s_nth [0, 0, 0, 0, 0, 0, 0, 0, 0, 0]), (22, 10, s_nth [0, 0, 0, 0, 0, 0, 0, 0, 0, 0]), (22, 10, s_nth [0, 0, 0, 0, 0, 0, 0, 0, 0, 0]), (22, 10, s_nth [0, 0, 0, 0, 0, 0, 0, 0, 0, 0]), (22, 10, s_nth [0, 0, 0, 0, 0, 0, 0, 0, 0, 0]), (22, 10, s_nth [0, 0, 0, 0, 0, 0, 0, 0, 0, 0]), (0, 50, fun _ => 0), (16, 3, s_nth [4294967353, 0, 0]), (0, 120, fun _ => 0), (22, 10, s_nth [0, 0, 0, 0, 0, 0, 0, 0, 0, 0]), (3, 2, s_nth [4294967356, 4294967382]), (21, 13, s_nth [4294967357, 4294967378, 4294967379, 4294967380, 4, 1, 0, 0, 0, 0, 0, 0, 0]), (2, 20, s_nth [4294967358, 4294967359, 4294967360, 4294967361, 4294967362, 4294967363, 4294967364, 4294967365, 4294967366, 4294967367, 4294967368, 4294967369, 4294967370, 4294967371, 4294967372, 4294967373, 4294967374, 4294967375, 4294967376, 4294967377]), (22, 10, s_nth [0, 0, 0, 0, 0, 0, 0, 0, 0, 0]), (22, 10, s_nth [0, 0, 0, 0, 0, 0, 0, 0, 0, 0])]
noncomputable def sh_4 : List (Nat × Nat × (Nat → Nat)) := [(22, 10, s_nth [0, 0, 0, 0, 0, 0, 0, 0, 0, 0]), (22, 10, s_nth [0, 0, 0, 0, 0, 0, 0, 0, 0, 0]), (22, 10, s_nth [0, 0, 0, 0, 0, 0, 0, 0, 0, 0]), (22, 10, s_nth [0, 0, 0, 0, 0, 0, 0, 0, 0, 0]), (22, 10, s_nth [0, 0, 0, 0, 0, 0, 0, 0, 0, 0]), (22, 10, s_nth [0, 0, 0, 0, 0, 0, 0, 0, 0, 0]), (22, 10, s_nth [0, 0, 0, 0, 0, 0, 0, 0, 0, 0]), (22, 10, s_nth [0, 0, 0, 0, 0, 0, 0, 0, 0, 0]), (22, 10, s_nth [0, 0, 0, 0, 0, 0, 0, 0, 0, 0]), (22, 10, s_nth [0, 0, 0, 0, 0, 0, 0, 0, 0, 0]), (22, 10, s_nth [0, 0, 0, 0, 0, 0, 0, 0, 0, 0]), (22, 10, s_nth [0, 0, 0, 0, 0, 0, 0, 0, 0, 0]), (22, 10, s_nth [0, 0, 0, 0, 0, 0, 0, 0, 0, 0]), (22, 10, s_nth [0, 0, 0, 0, 0, 0, 0, 0, 0, 0]), (22, 10, s_nth [0, 0, 0, 0, 0, 0, 0, 0, 0, 0]), (22, 10, s_nth [0, 0, 0, 0, 0, 0, 0, 0, 0, 0])]
noncomputable def sh_5 : List (Nat × Nat × (Nat → Nat)) := [(22, 10, s_nth [0, 0, 0, 0, 0, 0, 0, 0, 0, 0]), (22, 10, s_nth [0, 0, 0, 0, 0, 0, 0, 0, 0, 0]), (22, 10, s_nth [0, 0, 0, 0, 0, 0, 0, 0, 0, 0]), (0, 50, fun _ => 0), (16, 3, s_nth [4294967381, 0, 0]), (0, 120, fun _ => 0), (21, 13, s_nth [4294967383, 4294967404, 4294967405, 4294967406, 4, 1, 0, 0, 0, 0, 0, 0, 0]), (2, 20, s_nth [4294967384, 4294967385, 4294967386, 4294967387, 4294967388, 4294967389, 4294967390, 4294967391, 4294967392, 4294967393, 4294967394, 4294967395, 4294967396, 4294967397, 4294967398, 4294967399, 4294967400, 4294967401, 4294967402, 4294967403]), (22, 10, s_nth [0, 0, 0, 0, 0, 0, 0, 0, 0, 0]), (22, 10, s_nth [0, 0, 0, 0, 0, 0, 0, 0, 0, 0]), (22, 10, s_nth [0, 0, 0, 0, 0, 0, 0, 0, 0, 0]), (22, 10, s_nth [0, 0, 0, 0, 0, 0, 0, 0, 0, 0]), (22, 10, s_nth [0, 0, 0, 0, 0, 0, 0, 0, 0, 0]), (22, 10, s_nth [0, 0, 0, 0, 0, 0, 0, 0, 0, 0]), (22, 10, s_nth [0, 0, 0, 0, 0, 0, 0, 0, 0, 0]), (22, 10, s_nth [0, 0, 0, 0, 0, 0, 0, 0, 0, 0])]
noncomputable def sh_6 : List (Nat × Nat × (Nat → Nat)) := [(22, 10, s_nth [0, 0, 0, 0, 0, 0, 0, 0, 0, 0]), (22, 10, s_nth [0, 0, 0, 0, 0, 0, 0, 0, 0, 0]), (22, 10, s_nth [0, 0, 0, 0, 0, 0, 0, 0, 0, 0]), (22, 10, s_nth [0, 0, 0, 0, 0, 0, 0, 0, 0, 0]), (22, 10, s_nth [0, 0, 0, 0, 0, 0, 0, 0, 0, 0]), (22, 10, s_nth [0, 0, 0, 0, 0, 0, 0, 0, 0, 0]), (22, 10, s_nth [0, 0, 0, 0, 0, 0, 0, 0, 0, 0]), (22, 10, s_nth [0, 0, 0, 0, 0, 0, 0, 0, 0, 0]), (22, 10, s_nth [0, 0, 0, 0, 0, 0, 0, 0, 0, 0]), (22, 10, s_nth [0, 0, 0, 0, 0, 0, 0, 0, 0, 0]), (22, 10, s_nth [0, 0, 0, 0, 0, 0, 0, 0, 0, 0]), (22, 10, s_nth [0, 0, 0, 0, 0, 0, 0, 0, 0, 0]), (22, 10, s_nth [0, 0, 0, 0, 0, 0, 0, 0, 0, 0]), (0, 50, fun _ => 0), (16, 3, s_nth [4294967407, 0, 0]), (0, 120, fun _ => 0)]
noncomputable def sh_7 : List (Nat × Nat × (Nat → Nat)) := [(1, 2, fun _ => 0), (17, 3, s_nth [4294967410, 0, 0]), (3, 8, s_nth [4294967411, 4294967437, 4294967463, 4294967489, 4294967515, 4294967541, 4294967567, 4294967593]), (21, 13, s_nth [4294967412, 4294967433, 4294967434, 4294967435, 4, 1, 0, 0, 0, 0, 0, 0, 0]), (2, 20, s_nth [4294967413, 4294967414, 4294967415, 4294967416, 4294967417, 4294967418, 4294967419, 4294967420, 4294967421, 4294967422, 4294967423, 4294967424, 4294967425, 4294967426, 4294967427, 4294967428, 4294967429, 4294967430, 4294967431, 4294967432]), (22, 10, s_nth [0, 0, 0, 0, 0, 0, 0, 0, 0, 0]), (22, 10, s_nth [0, 0, 0, 0, 0, 0, 0, 0, 0, 0]), (22, 10, s_nth [0, 0, 0, 0, 0, 0, 0, 0, 0, 0]), (22, 10, s_nth [0, 0, 0, 0, 0, 0, 0, 0, 0, 0]), (22, 10, s_nth [0, 0, 0, 0, 0, 0, 0, 0, 0, 0]), (22, 10, s_nth [0, 0, 0, 0, 0, 0, 0, 0, 0, 0]), (22, 10, s_nth [0, 0, 0, 0, 0, 0, 0, 0, 0, 0]), (22, 10, s_nth [0, 0, 0, 0, 0, 0, 0, 0, 0, 0]), (22, 10, s_nth [0, 0, 0, 0, 0, 0, 0, 0, 0, 0]), (22, 10, s_nth [0, 0, 0, 0, 0, 0, 0, 0, 0, 0]), (22, 10, s_nth [0, 0, 0, 0, 0, 0, 0, 0, 0, 0])]
noncomputable def sh_8 : List (Nat × Nat × (Nat → Nat)) := [(22, 10, s_nth [0, 0, 0, 0, 0, 0, 0, 0, 0, 0]), (22, 10, s_nth [0, 0, 0, 0, 0, 0, 0, 0, 0, 0]), (22, 10, s_nth [0, 0, 0, 0, 0, 0, 0, 0, 0, 0]), (22, 10, s_nth [0, 0, 0, 0, 0, 0, 0, 0, 0, 0]), (22, 10, s_nth [0, 0, 0, 0, 0, 0, 0, 0, 0, 0]), (22, 10, s_nth [0, 0, 0, 0, 0, 0, 0, 0, 0, 0]), (22, 10, s_nth [0, 0, 0, 0, 0, 0, 0, 0, 0, 0]), (22, 10, s_nth [0, 0, 0, 0, 0, 0, 0, 0, 0, 0]), (22, 10, s_nth [0, 0, 0, 0, 0, 0, 0, 0, 0, 0]), (22, 10, s_nth [0, 0, 0, 0, 0, 0, 0, 0, 0, 0]), (0, 50, fun _ => 0), (16, 3, s_nth [4294967436, 0, 0]), (0, 120, fun _ => 0), (21, 13, s_nth [4294967438, 4294967459, 4294967460, 4294967461, 4, 1, 0, 0, 0, 0, 0, 0, 0]), (2, 20, s_nth [4294967439, 4294967440, 4294967441, 4294967442, 4294967443, 4294967444, 4294967445, 4294967446, 4294967447, 4294967448, 4294967449, 4294967450, 4294967451, 4294967452, 4294967453, 4294967454, 4294967455, 4294967456, 4294967457, 4294967458]), (22, 10, s_nth [0, 0, 0, 0, 0, 0, 0, 0, 0, 0])]
noncomputable def sh_9 : List (Nat × Nat × (Nat → Nat)) := [(22, 10, s_nth [0, 0, 0, 0, 0, 0, 0, 0, 0, 0]), (22, 10, s_nth [0, 0, 0, 0, 0, 0, 0, 0, 0, 0]), (22, 10, s_nth [0, 0, 0, 0, 0, 0, 0, 0, 0, 0]), (22, 10, s_nth [0, 0, 0, 0, 0, 0, 0, 0, 0, 0]), (22, 10, s_nth [0, 0, 0, 0, 0, 0, 0, 0, 0, 0]), (22, 10, s_nth [0, 0, 0, 0, 0, 0, 0, 0, 0, 0]), (22, 10, s_nth [0, 0, 0, 0, 0, 0, 0, 0, 0, 0]), (22, 10, s_nth [0, 0, 0, 0, 0, 0, 0, 0, 0, 0]), (22, 10, s_nth [0, 0, 0, 0, 0, 0, 0, 0, 0, 0]), (22, 10, s_nth [0, 0, 0, 0, 0, 0, 0, 0, 0, 0]), (22, 10, s_nth [0, 0, 0, 0, 0, 0, 0, 0, 0, 0]), (22, 10, s_nth [0, 0, 0, 0, 0, 0, 0, 0, 0, 0]), (22, 10, s_nth [0, 0, 0, 0, 0, 0, 0, 0, 0, 0]), (22, 10, s_nth [0, 0, 0, 0, 0, 0, 0, 0, 0, 0]), (22, 10, s_nth [0, 0, 0, 0, 0, 0, 0, 0, 0, 0]), (22, 10, s_nth [0, 0, 0, 0, 0, 0, 0, 0, 0, 0])]
noncomputable def sh_10 : List (Nat × Nat × (Nat → Nat)) := [(22, 10, s_nth [0, 0, 0, 0, 0, 0, 0, 0, 0, 0]), (22, 10, s_nth [0, 0, 0, 0, 0, 0, 0, 0, 0, 0]), (22, 10, s_nth [0, 0, 0, 0, 0, 0, 0, 0, 0, 0]), (22, 10, s_nth [0, 0, 0, 0, 0, 0, 0, 0, 0, 0]), (0, 50, fun _ => 0), (16, 3, s_nth [4294967462, 0, 0]), (0, 120, fun _ => 0), (21, 13, s_nth [4294967464, 4294967485, 4294967486, 4294967487, 4, 1, 0, 0, 0, 0, 0, 0, 0]), (2, 20, s_nth [4294967465, 4294967466, 4294967467, 4294967468, 4294967469, 4294967470, 4294967471, 4294967472, 4294967473, 4294967474, 4294967475, 4294967476, 4294967477, 4294967478, 4294967479, 4294967480, 4294967481, 4294967482, 4294967483, 4294967484]), (22, 10, s_nth [0, 0, 0, 0, 0, 0, 0, 0, 0, 0]), (22, 10, s_nth [0, 0, 0, 0, 0, 0, 0, 0, 0, 0]), (22, 10, s_nth [0, 0, 0, 0, 0, 0, 0, 0, 0, 0]), (22, 10, s_nth [0, 0, 0, 0, 0, 0, 0, 0, 0, 0]), (22, 10, s_nth [0, 0, 0, 0, 0, 0, 0, 0, 0, 0]), (22, 10, s_nth [0, 0, 0, 0, 0, 0, 0, 0, 0, 0]), (22, 10, s_nth [0, 0, 0, 0, 0, 0, 0, 0, 0, 0])]
noncomputable def sh_11 : List (Nat × Nat × (Nat → Nat)) := [(22, 10, s_nth [0, 0, 0, 0, 0, 0, 0, 0, 0, 0]), (22, 10, s_nth [0, 0, 0, 0, 0, 0, 0, 0, 0, 0]), (22, 10, s_nth [0, 0, 0, 0, 0, 0, 0, 0, 0, 0]), (22, 10, s_nth [0, 0, 0, 0, 0, 0, 0, 0, 0, 0]), (22, 10, s_nth [0, 0, 0, 0, 0, 0, 0, 0, 0, 0]), (22, 10, s_nth [0, 0, 0, 0, 0, 0, 0, 0, 0, 0]), (22, 10, s_nth [0, 0, 0, 0, 0, 0, 0, 0, 0, 0]), (22, 10, s_nth [0, 0, 0, 0, 0, 0, 0, 0, 0, 0]), (22, 10, s_nth [0, 0, 0, 0, 0, 0, 0, 0, 0, 0]), (22, 10, s_nth [0, 0, 0, 0, 0, 0, 0, 0, 0, 0]), (22, 10, s_nth [0, 0, 0, 0, 0, 0, 0, 0, 0, 0]), (22, 10, s_nth [0, 0, 0, 0, 0, 0, 0, 0, 0, 0]), (22, 10, s_nth [0, 0, 0, 0, 0, 0, 0, 0, 0, 0]), (22, 10, s_nth [0, 0, 0, 0, 0, 0, 0, 0, 0, 0]), (0, 50, fun _ => 0), (16, 3, s_nth [4294967488, 0, 0])]
noncomputable def sh_12 : List (Nat × Nat × (Nat → Nat)) := [(0, 120, fun _ => 0), (21, 13, s_nth [4294967490, 4294967511, 4294967512, 4294967513, 4, 1, 0, 0, 0, 0, 0, 0, 0]), (2, 20, s_nth [4294967491, 4294967492, 4294967493, 4294967494, 4294967495, 4294967496, 4294967497, 4294967498, 4294967499, 4294967500, 4294967501, 4294967502, 4294967503, 4294967504, 4294967505, 4294967506, 4294967507, 4294967508, 4294967509, 4294967510]), (22, 10, s_nth [0, 0, 0, 0, 0, 0, 0, 0, 0, 0]), (22, 10, s_nth [0, 0, 0, 0, 0, 0, 0, 0, 0, 0]), (22, 10, s_nth [0, 0, 0, 0, 0, 0, 0, 0, 0, 0]), (22, 10, s_nth [0, 0, 0, 0, 0, 0, 0, 0, 0, 0]), (22, 10, s_nth [0, 0, 0, 0, 0, 0, 0, 0, 0, 0]), (22, 10, s_nth [0, 0, 0, 0, 0, 0, 0, 0, 0, 0]), (22, 10, s_nth [0, 0, 0, 0, 0, 0, 0, 0, 0, 0]), (22, 10, s_nth [0, 0, 0, 0, 0, 0, 0, 0, 0, 0]), (22, 10, s_nth [0, 0, 0, 0, 0, 0, 0, 0, 0, 0]), (22, 10, s_nth [0, 0, 0, 0, 0, 0, 0, 0, 0, 0]), (22, 10, s_nth [0, 0, 0, 0, 0, 0, 0, 0, 0, 0]), (22, 10, s_nth [0, 0, 0, 0, 0, 0, 0, 0, 0, 0]), (22, 10, s_nth [0, 0, 0, 0, 0, 0, 0, 0, 0, 0])]
noncomputable def sh_13 : List (Nat × Nat × (Nat → Nat)) := [(22, 10, s_nth [0, 0, 0, 0, 0, 0, 0, 0, 0, 0]), (22, 10, s_nth [0, 0, 0, 0, 0, 0, 0, 0, 0, 0]), (22, 10, s_nth [0, 0, 0, 0, 0, 0, 0, 0, 0, 0]), (22, 10, s_nth [0, 0, 0, 0, 0, 0, 0, 0, 0, 0]), (22, 10, s_nth [0, 0, 0, 0, 0, 0, 0, 0, 0, 0]), (22, 10, s_nth [0, 0, 0, 0, 0, 0, 0, 0, 0, 0]), (22, 10, s_nth [0, 0, 0, 0, 0, 0, 0, 0, 0, 0]), (22, 10, s_nth [0, 0, 0, 0, 0, 0, 0, 0, 0, 0]), (0, 50, fun _ => 0), (16, 3, s_nth [4294967514, 0, 0]), (0, 120, fun _ => 0), (21, 13, s_nth [4294967516, 4294967537, 4294967538, 4294967539, 4, 1, 0, 0, 0, 0, 0, 0, 0]), (2, 20, s_nth [4294967517, 4294967518, 4294967519, 4294967520, 4294967521, 4294967522, 4294967523, 4294967524, 4294967525, 4294967526, 4294967527, 4294967528, 4294967529, 4294967530, 4294967531, 4294967532, 4294967533, 4294967534, 4294967535, 4294967536]), (22, 10, s_nth [0, 0, 0, 0, 0, 0, 0, 0, 0, 0]), (22, 10, s_nth [0, 0, 0, 0, 0, 0, 0, 0, 0, 0]), (22, 10, s_nth [0, 0, 0, 0, 0, 0, 0, 0, 0, 0])]
noncomputable def sh_14 : List (Nat × Nat × (Nat → Nat)) := [(22, 10, s_nth [0, 0, 0, 0, 0, 0, 0, 0, 0, 0]), (22, 10, s_nth [0, 0, 0, 0, 0, 0, 0, 0, 0, 0]), (22, 10, s_nth [0, 0, 0, 0, 0, 0, 0, 0, 0, 0]), (22, 10, s_nth [0, 0, 0, 0, 0, 0, 0, 0, 0, 0]), (22, 10, s_nth [0, 0, 0, 0, 0, 0, 0, 0, 0, 0]), (22, 10, s_nth [0, 0, 0, 0, 0, 0, 0, 0, 0, 0]), (22, 10, s_nth [0, 0, 0, 0, 0, 0, 0, 0, 0, 0]), (22, 10, s_nth [0, 0, 0, 0, 0, 0, 0, 0, 0, 0]), (22, 10, s_nth [0, 0, 0, 0, 0, 0, 0, 0, 0, 0]), (22, 10, s_nth [0, 0, 0, 0, 0, 0, 0, 0, 0, 0]), (22, 10, s_nth [0, 0, 0, 0, 0, 0, 0, 0, 0, 0]), (22, 10, s_nth [0, 0, 0, 0, 0, 0, 0, 0, 0, 0]), (22, 10, s_nth [0, 0, 0, 0, 0, 0, 0, 0, 0, 0]), (22, 10, s_nth [0, 0, 0, 0, 0, 0, 0, 0, 0, 0]), (22, 10, s_nth [0, 0, 0, 0, 0, 0, 0, 0, 0, 0]), (22, 10, s_nth [0, 0, 0, 0, 0, 0, 0, 0, 0, 0])]
noncomputable def sh_15 : List (Nat × Nat × (Nat → Nat)) := [(22, 10, s_nth [0, 0, 0, 0, 0, 0, 0, 0, 0, 0]), (22, 10, s_nth [0, 0, 0, 0, 0, 0, 0, 0, 0, 0]), (0, 50, fun _ => 0), (16, 3, s_nth [4294967540, 0, 0]), (0, 120, fun _ => 0), (21, 13, s_nth [4294967542, 4294967563, 4294967564, 4294967565, 4, 1, 0, 0, 0, 0, 0, 0, 0]), (2, 20, s_nth [4294967543, 4294967544, 4294967545, 4294967546, 4294967547, 4294967548, 4294967549, 4294967550, 4294967551, 4294967552, 4294967553, 4294967554, 4294967555, 4294967556, 4294967557, 4294967558, 4294967559, 4294967560, 4294967561, 4294967562]), (22, 10, s_nth [0, 0, 0, 0, 0, 0, 0, 0, 0, 0]), (22, 10, s_nth [0, 0, 0, 0, 0, 0, 0, 0, 0, 0]), (22, 10, s_nth [0, 0, 0, 0, 0, 0, 0, 0, 0, 0]), (22, 10, s_nth [0, 0, 0, 0, 0, 0, 0, 0, 0, 0]), (22, 10, s_nth [0, 0, 0, 0, 0, 0, 0, 0, 0, 0]), (22, 10, s_nth [0, 0, 0, 0, 0, 0, 0, 0, 0, 0]), (22, 10, s_nth [0, 0, 0, 0, 0, 0, 0, 0, 0, 0]), (22, 10, s_nth [0, 0, 0, 0, 0, 0, 0, 0, 0, 0]), (22, 10, s_nth [0, 0, 0, 0, 0, 0, 0, 0, 0, 0])]
noncomputable def sh_16 : List (Nat × Nat × (Nat → Nat)) := [(22, 10, s_nth [0, 0, 0, 0, 0, 0, 0, 0, 0, 0]), (22, 10, s_nth [0, 0, 0, 0, 0, 0, 0, 0, 0, 0]), (22, 10, s_nth [0, 0, 0, 0, 0, 0, 0, 0, 0, 0]), (22, 10, s_nth [0, 0, 0, 0, 0, 0, 0, 0, 0, 0]), (22, 10, s_nth [0, 0, 0, 0, 0, 0, 0, 0, 0, 0]), (22, 10, s_nth [0, 0, 0, 0, 0, 0, 0, 0, 0, 0]), (22, 10, s_nth [0, 0, 0, 0, 0, 0, 0, 0, 0, 0]), (22, 10, s_nth [0, 0, 0, 0, 0, 0, 0, 0, 0, 0]), (22, 10, s_nth [0, 0, 0, 0, 0, 0, 0, 0, 0, 0]), (22, 10, s_nth [0, 0, 0, 0, 0, 0, 0, 0, 0, 0]), (22, 10, s_nth [0, 0, 0, 0, 0, 0, 0, 0, 0, 0]), (22, 10, s_nth [0, 0, 0, 0, 0, 0, 0, 0, 0, 0]), (0, 50, fun _ => 0), (16, 3, s_nth [4294967566, 0, 0]), (0, 120, fun _ => 0), (21, 13, s_nth [4294967568, 4294967589, 4294967590, 4294967591, 4, 1, 0, 0, 0, 0, 0, 0, 0])]
noncomputable def sh_17 : List (Nat × Nat × (Nat → Nat)) := [(2, 20, s_nth [4294967569, 4294967570, 4294967571, 4294967572, 4294967573, 4294967574, 4294967575, 4294967576, 4294967577, 4294967578, 4294967579, 4294967580, 4294967581, 4294967582, 4294967583, 4294967584, 4294967585, 4294967586, 4294967587, 4294967588]), (22, 10, s_nth [0, 0, 0, 0, 0, 0, 0, 0, 0, 0]), (22, 10, s_nth [0, 0, 0, 0, 0, 0, 0, 0, 0, 0]), (22, 10, s_nth [0, 0, 0, 0, 0, 0, 0, 0, 0, 0]), (22, 10, s_nth [0, 0, 0, 0, 0, 0, 0, 0, 0, 0]), (22, 10, s_nth [0, 0, 0, 0, 0, 0, 0, 0, 0, 0]), (22, 10, s_nth [0, 0, 0, 0, 0, 0, 0, 0, 0, 0]), (22, 10, s_nth [0, 0, 0, 0, 0, 0, 0, 0, 0, 0]), (22, 10, s_nth [0, 0, 0, 0, 0, 0, 0, 0, 0, 0]), (22, 10, s_nth [0, 0, 0, 0, 0, 0, 0, 0, 0, 0]), (22, 10, s_nth [0, 0, 0, 0, 0, 0, 0, 0, 0, 0]), (22, 10, s_nth [0, 0, 0, 0, 0, 0, 0, 0, 0, 0]), (22, 10, s_nth [0, 0, 0, 0, 0, 0, 0, 0, 0, 0]), (22, 10, s_nth [0, 0, 0, 0, 0, 0, 0, 0, 0, 0]), (22, 10, s_nth [0, 0, 0, 0, 0, 0, 0, 0, 0, 0]), (22, 10, s_nth [0, 0, 0, 0, 0, 0, 0, 0, 0, 0])]
noncomputable def sh_18 : List (Nat × Nat × (Nat → Nat)) := [(22, 10, s_nth [0, 0, 0, 0, 0, 0, 0, 0, 0, 0]), (22, 10, s_nth [0, 0, 0, 0, 0, 0, 0, 0, 0, 0]), (22, 10, s_nth [0, 0, 0, 0, 0, 0, 0, 0, 0, 0]), (22, 10, s_nth [0, 0, 0, 0, 0, 0, 0, 0, 0, 0]), (22, 10, s_nth [0, 0, 0, 0, 0, 0, 0, 0, 0, 0]), (22, 10, s_nth [0, 0, 0, 0, 0, 0, 0, 0, 0, 0]), (0, 50, fun _ => 0), (16, 3, s_nth [4294967592, 0, 0]), (0, 120, fun _ => 0), (21, 13, s_nth [4294967594, 4294967615, 4294967616, 4294967617, 4, 1, 0, 0, 0, 0, 0, 0, 0]), (2, 20, s_nth [4294967595, 4294967596, 4294967597, 4294967598, 4294967599, 4294967600, 4294967601, 4294967602, 4294967603, 4294967604, 4294967605, 4294967606, 4294967607, 4294967608, 4294967609, 4294967610, 4294967611, 4294967612, 4294967613, 4294967614]), (22, 10, s_nth [0, 0, 0, 0, 0, 0, 0, 0, 0, 0]), (22, 10, s_nth [0, 0, 0, 0, 0, 0, 0, 0, 0, 0]), (22, 10, s_nth [0, 0, 0, 0, 0, 0, 0, 0, 0, 0]), (22, 10, s_nth [0, 0, 0, 0, 0, 0, 0, 0, 0, 0]), (22, 10, s_nth [0, 0, 0, 0, 0, 0, 0, 0, 0, 0])]
noncomputable def sh_19 : List (Nat × Nat × (Nat → Nat)) := [(22, 10, s_nth [0, 0, 0, 0, 0, 0, 0, 0, 0, 0]), (22, 10, s_nth [0, 0, 0, 0, 0, 0, 0, 0, 0, 0]), (22, 10, s_nth [0, 0, 0, 0, 0, 0, 0, 0, 0, 0]), (22, 10, s_nth [0, 0, 0, 0, 0, 0, 0, 0, 0, 0]), (22, 10, s_nth [0, 0, 0, 0, 0, 0, 0, 0, 0, 0]), (22, 10, s_nth [0, 0, 0, 0, 0, 0, 0, 0, 0, 0]), (22, 10, s_nth [0, 0, 0, 0, 0, 0, 0, 0, 0, 0]), (22, 10, s_nth [0, 0, 0, 0, 0, 0, 0, 0, 0, 0]), (22, 10, s_nth [0, 0, 0, 0, 0, 0, 0, 0, 0, 0]), (22, 10, s_nth [0, 0, 0, 0, 0, 0, 0, 0, 0, 0]), (22, 10, s_nth [0, 0, 0, 0, 0, 0, 0, 0, 0, 0]), (22, 10, s_nth [0, 0, 0, 0, 0, 0, 0, 0, 0, 0]), (22, 10, s_nth [0, 0, 0, 0, 0, 0, 0, 0, 0, 0]), (22, 10, s_nth [0, 0, 0, 0, 0, 0, 0, 0, 0, 0]), (22, 10, s_nth [0, 0, 0, 0, 0, 0, 0, 0, 0, 0]), (22, 10, s_nth [0, 0, 0, 0, 0, 0, 0, 0, 0, 0])]
noncomputable def sh_20 : List (Nat × Nat × (Nat → Nat)) := [(0, 50, fun _ => 0), (16, 3, s_nth [4294967618, 0, 0]), (0, 120, fun _ => 0), (24, 18, s_nth [4294967620, 4294967621, 4294967622, 4294967623, 4294967624, 4294967625, 0, 4294967626, 0, 4294967294, 0, 0, 0, 0, 0, 0, 4294967627, 0]), (0, 330, fun j => cond (Nat.beq j 1) 1 (cond (Nat.beq j 0) 4 (0))), (0, 330, fun _ => 0), (0, 330, fun _ => 0), (0, 2640, fun _ => 0), (0, 660, fun _ => 0), (1, 2, fun _ => 0), (0, 1000, fun _ => 0), (0, 1700, fun _ => 0)]
noncomputable def sh_all : List (List (Nat × Nat × (Nat → Nat))) := [sh_0, sh_1, sh_2, sh_3, sh_4, sh_5, sh_6, sh_7, sh_8, sh_9, sh_10, sh_11, sh_12, sh_13, sh_14, sh_15, sh_16, sh_17, sh_18, sh_19, sh_20]
noncomputable def sh0 : sH := (fun a => s_at (0, 0, fun _ => 0) (s_at [] sh_all (a / 16)) (a % 16), 332, 13058)
def sKL : List Nat := [4295967296, 4294967296, 4294967619, 0, 17179869285, 17179869285, 17179869285, 17179869285]
end
