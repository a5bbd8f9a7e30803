/-! THE G MACHINE IS RIGHT -/
theorem gnm_eq {a : Nat} (h : a < sM) : gnm a = Int32.ofNat a := by
  unfold gnm
  have h2 : a < 4294967296 := h
  cases q : Nat.blt a 2147483648 with
  | true => rfl
  | false =>
    have h3 := b_nlt q
    show -(Int32.ofNat (4294967296 - a)) = Int32.ofNat a
    apply Int32.toBitVec.inj
    show -(BitVec.ofNat 32 (4294967296 - a)) = BitVec.ofNat 32 a
    apply BitVec.eq_of_toNat_eq
    simp only [BitVec.toNat_neg, BitVec.toNat_ofNat]
    omega
theorem gnth_ok : ∀ (l : gL) (i : Nat) (v : Value), gnth l i = some v → l[i]? = some (some v)
  | [], i, v, h => by cases h
  | x :: t, 0, v, h => by
    have h2 : x = some v := h
    rw [h2]
    rfl
  | x :: t, i + 1, v, h => by
    rw [List.getElem?_cons_succ]
    exact gnth_ok t i v h
theorem gnth_no : ∀ (l : gL) (i : Nat), gnth l i = none → l[i]? = some none ∨ l[i]? = none
  | [], i, h => Or.inr rfl
  | x :: t, 0, h => by
    have h2 : x = none := h
    rw [h2]
    exact Or.inl rfl
  | x :: t, i + 1, h => by
    rw [List.getElem?_cons_succ]
    exact gnth_no t i h
theorem gset_ok (v : Value) : ∀ (l : gL) (i : Nat), gset l i v = l.set i (some v)
  | [], i => rfl
  | x :: t, 0 => rfl
  | x :: t, i + 1 => by
    show x :: gset t i v = x :: t.set i (some v)
    rw [gset_ok v t i]
theorem gfree_ok {Lv : gL} {a : Nat} (v : Value) (h : gfree a Lv = true) : jv_set1 Lv a v = some (gset Lv a v) := by
  unfold gfree at h
  obtain ⟨h1, h2⟩ := s_and h
  have hlt := b_lt h1
  unfold jv_set1
  rw [if_pos hlt, gset_ok]
  cases a with
  | zero => rfl
  | succ j =>
    have h3 : (match gnth Lv j with
      | some (.int _) => true
      | some (.ref _) => true
      | none => true
      | _ => false) = true := h2
    have h4 : ¬ jv_cat2 Lv j = true := by
      refine jv_cat2_one (fun v hv => ?_)
      split at h3
      · rename_i q
        rw [gnth_ok _ _ _ q] at hv
        cases hv
        rfl
      · rename_i q
        rw [gnth_ok _ _ _ q] at hv
        cases hv
        rfl
      · rename_i q
        rcases gnth_no _ _ q with q | q
        · rw [q] at hv; cases hv
        · rw [q] at hv; cases hv
      · cases h3
    show (if jv_cat2 Lv j = true then none else some (Lv.set (j + 1) (some v))) = _
    rw [if_neg h4]
theorem gkd_far {p : Nat} (h : 332 ≤ p) : gkd p = 0 := by
  unfold gkd sh0
  show (s_at (0, 0, fun _ => 0) (s_at [] sh_all (p / 16)) (p % 16)).1 = 0
  rcases Nat.lt_or_ge p 336 with q | q
  · have : p = 332 ∨ p = 333 ∨ p = 334 ∨ p = 335 := by omega
    rcases this with rfl | rfl | rfl | rfl <;> rfl
  · have e : s_at [] sh_all (p / 16) = [] := by
      obtain ⟨m, hm⟩ : ∃ m, p / 16 = m + 21 := ⟨p / 16 - 21, by omega⟩
      rw [hm]
      rfl
    rw [e]
    rfl
theorem gln_ok : ∀ p, p < 332 → ∀ c, c < 9 → gkd p = 16 + c → gln p = jv_fn c := by decide +kernel
theorem gln_lt : ∀ p, p < 332 → gln p < 100000 := by decide +kernel
section GSND
variable {y pc : Nat} {i : Instr} {len : Nat} {t : List sI} {Lv : gL} {st : List Value} {σ : gS} {K : gK} {k : gC} {j : gJ} {a b : Nat}
theorem gE_step (hy : y < 272) (hcode : jv_code y pc = some (i, len)) (hR : jv_isR i = false) (hC : jv_isC i = none) {pc' : Nat} {Lv' : gL} {st' : List Value} {σ' : gS} (hs : ∀ (L : Nat) (xs : Nat → Int32) (h : jv_H), gRel L xs σ h → ∃ h1, jv_step (sow y) (sini y) i len pc Lv st h = some (pc', Lv', st', h1) ∧ gRel L xs σ' h1) (hg : gE y pc' Lv' st' σ' K) : gE y pc Lv st σ K := by
  intro L xs h hh
  obtain ⟨h1, h2, h3⟩ := hs L xs h hh
  obtain ⟨r, h', σ2, h4, h5, h6⟩ := hg L xs h1 h3
  obtain ⟨ow, kd, na, mL, fr, lo, hinf, e1, e2⟩ := s_inf hy
  rw [e1, e2] at h2
  exact ⟨r, h', σ2, jv_ev_step (fun n => jv_run_step hinf hcode hR hC h2) h4, h5, h6⟩
/-- what each operation's row takes: the method, the instruction there, what holds behind it -/
def gA (y pc : Nat) (i : Instr) (len : Nat) (K : gK) (k : gC) : Prop := y < 272 ∧ jv_code y pc = some (i, len) ∧ ∀ Lv st σ, k Lv st σ → gE y (pc + len) Lv st σ K
theorem gA_go (A : gA y pc i len K k) (hR : jv_isR i = false) (hC : jv_isC i = none) {Lv' : gL} {st' : List Value} {σ' : gS} (hs : ∀ (L : Nat) (xs : Nat → Int32) (h : jv_H), gRel L xs σ h → ∃ h1, jv_step (sow y) (sini y) i len pc Lv st h = some (pc + len, Lv', st', h1) ∧ gRel L xs σ' h1) (hk : k Lv' st' σ') : gE y pc Lv st σ K :=
  gE_step A.1 A.2.1 hR hC hs (A.2.2 _ _ _ hk)
theorem gA_pure (A : gA y pc i len K k) (hR : jv_isR i = false) (hC : jv_isC i = none) {st' : List Value} (hs : jv_pure i st = some st') (hk : k Lv st' σ) : gE y pc Lv st σ K :=
  gA_go A hR hC (fun L xs h hh => ⟨h, st_pure hs, hh⟩) hk
theorem gk_const (A : gA y pc i len K k) (hs : sk_const i a = true) (hr : go_const a Lv st σ k) : gE y pc Lv st σ K := by
  unfold go_const at hr
  unfold sk_const at hs
  split at hs
  · obtain ⟨h1, h2⟩ := of_decide_eq_true hs
    rw [gnm_eq h2, ← h1] at hr
    exact gA_pure A rfl rfl rfl hr
  · obtain ⟨h1, h2⟩ := of_decide_eq_true hs
    rw [gnm_eq h2, ← h1] at hr
    exact gA_pure A rfl rfl rfl hr
  · obtain ⟨h1, h2⟩ := of_decide_eq_true hs
    rw [gnm_eq h2, ← h1] at hr
    exact gA_pure A rfl rfl rfl hr
  · cases hs
theorem gk_ldc {kd : Nat} (A : gA y pc i len K k) (hkd : kd = 0) (hs : sk_ldc y i a kd = true) (hr : go_const a Lv st σ k) : gE y pc Lv st σ K := by
  unfold go_const at hr
  unfold sk_ldc at hs
  split at hs
  · rename_i idx
    split at hs
    · rename_i w hl
      obtain ⟨h1, h2⟩ := of_decide_eq_true hs
      rw [gnm_eq h2, ← h1] at hr
      refine gA_go A rfl rfl (fun L xs h hh => ⟨h, st_heap rfl rfl rfl rfl ?_, hh⟩) hr
      show (match jv_ldc (sow y) idx with
        | some v => some (v :: st, h)
        | none => none) = _
      rw [hl]
    · cases hkd
    · cases hs
  · cases hs
theorem gk_ldr {kd : Nat} (A : gA y pc i len K k) (hkd : kd = 1) (hs : sk_ldc y i a kd = true) (hr : go_ref a Lv st σ k) : gE y pc Lv st σ K := by
  unfold go_ref at hr
  unfold sk_ldc at hs
  split at hs
  · rename_i idx
    split at hs
    · cases hkd
    · rename_i p hl
      obtain ⟨h1, h2⟩ := of_decide_eq_true hs
      have e : a - sREF = p := by rw [h1]; exact Nat.add_sub_cancel_left ..
      rw [e] at hr
      refine gA_go A rfl rfl (fun L xs h hh => ⟨h, st_heap rfl rfl rfl rfl ?_, hh⟩) hr
      show (match jv_ldc (sow y) idx with
        | some v => some (v :: st, h)
        | none => none) = _
      rw [hl]
    · cases hs
  · cases hs
theorem gk_iload (A : gA y pc i len K k) (hs : sk_iload i a = true) (hr : go_iload a Lv st σ k) : gE y pc Lv st σ K := by
  unfold go_iload at hr
  split at hr
  · rename_i x hq
    have hv := gnth_ok _ _ _ hq
    have e : jv_ldI Lv a st = some (.int x :: st) := by unfold jv_ldI; rw [hv]
    unfold sk_iload at hs
    split at hs
    · have h2 := of_decide_eq_true hs
      exact gA_go A rfl rfl (fun L xs h hh => ⟨h, st_ld rfl (by rw [← h2] at e; exact e), hh⟩) hr
    · have h2 := of_decide_eq_true hs
      exact gA_go A rfl rfl (fun L xs h hh => ⟨h, st_ld rfl (by rw [← h2] at e; exact e), hh⟩) hr
    · cases hs
  · exact hr.elim
theorem gk_aload (A : gA y pc i len K k) (hs : sk_aload i a = true) (hr : go_aload a Lv st σ k) : gE y pc Lv st σ K := by
  unfold go_aload at hr
  split at hr
  · rename_i x hq
    have hv := gnth_ok _ _ _ hq
    have e : jv_ldA Lv a st = some (.ref x :: st) := by unfold jv_ldA; rw [hv]
    unfold sk_aload at hs
    split at hs
    · have h2 := of_decide_eq_true hs
      exact gA_go A rfl rfl (fun L xs h hh => ⟨h, st_ld rfl (by rw [← h2] at e; exact e), hh⟩) hr
    · have h2 := of_decide_eq_true hs
      exact gA_go A rfl rfl (fun L xs h hh => ⟨h, st_ld rfl (by rw [← h2] at e; exact e), hh⟩) hr
    · cases hs
  · exact hr.elim
theorem gk_istore (A : gA y pc i len K k) (hs : sk_istore i a = true) (hr : go_istore a Lv st σ k) : gE y pc Lv st σ K := by
  unfold go_istore at hr
  split at hr
  · rename_i x r
    cases hq : gfree a Lv with
    | false => rw [hq] at hr; exact hr.elim
    | true =>
      rw [hq] at hr
      have e : jv_stI Lv a (.int x :: r) = some (gset Lv a (.int x), r) := by unfold jv_stI; simp only [gfree_ok _ hq]
      unfold sk_istore at hs
      split at hs
      · have h2 := of_decide_eq_true hs
        exact gA_go A rfl rfl (fun L xs h hh => ⟨h, st_sto rfl rfl rfl (by rw [← h2] at e; exact e), hh⟩) (by rw [h2]; exact hr)
      · have h2 := of_decide_eq_true hs
        exact gA_go A rfl rfl (fun L xs h hh => ⟨h, st_sto rfl rfl rfl (by rw [← h2] at e; exact e), hh⟩) (by rw [h2]; exact hr)
      · cases hs
  · exact hr.elim
theorem gk_astore (A : gA y pc i len K k) (hs : sk_astore i a = true) (hr : go_astore a Lv st σ k) : gE y pc Lv st σ K := by
  unfold go_astore at hr
  split at hr
  · rename_i x r
    cases hq : gfree a Lv with
    | false => rw [hq] at hr; exact hr.elim
    | true =>
      rw [hq] at hr
      have e : jv_stA Lv a (.ref x :: r) = some (gset Lv a (.ref x), r) := by unfold jv_stA; simp only [gfree_ok _ hq]
      unfold sk_astore at hs
      split at hs
      · have h2 := of_decide_eq_true hs
        exact gA_go A rfl rfl (fun L xs h hh => ⟨h, st_sto rfl rfl rfl (by rw [← h2] at e; exact e), hh⟩) (by rw [h2]; exact hr)
      · have h2 := of_decide_eq_true hs
        exact gA_go A rfl rfl (fun L xs h hh => ⟨h, st_sto rfl rfl rfl (by rw [← h2] at e; exact e), hh⟩) (by rw [h2]; exact hr)
      · cases hs
  · exact hr.elim
theorem gk_iinc (A : gA y pc i len K k) (hs : sk_iinc i a b = true) (hr : go_iinc a b Lv st σ k) : gE y pc Lv st σ K := by
  unfold go_iinc at hr
  split at hr
  · rename_i x hx
    have hv := gnth_ok _ _ _ hx
    cases hq : gfree a Lv with
    | false => rw [hq] at hr; exact hr.elim
    | true =>
      rw [hq] at hr
      unfold sk_iinc at hs
      split at hs
      · rename_i q n
        obtain ⟨rfl, hn, hb⟩ := of_decide_eq_true hs
        have hr : k (gset Lv q (.int (x + gnm b))) st σ := hr
        rw [gnm_eq hb, ← hn] at hr
        refine gA_go A rfl rfl (fun L xs h hh => ⟨h, st_sto rfl rfl rfl ?_, hh⟩) hr
        show (match Lv[q]? with
          | some (some (.int x)) => match jv_set1 Lv q (.int (x + Int32.ofInt n)) with
            | some L' => some (L', st)
            | none => none
          | _ => none) = _
        rw [hv]
        show (match jv_set1 Lv q (.int (x + Int32.ofInt n)) with
            | some L' => some (L', st)
            | none => none) = _
        rw [gfree_ok _ hq]
      · cases hs
  · exact hr.elim
theorem gk_two (A : gA y pc i len K k) {f : Int32 → Int32 → Int32} (hR : jv_isR i = false) (hC : jv_isC i = none) (hp : ∀ (x v : Int32) (r : List Value), jv_pure i (.int v :: .int x :: r) = some (.int (f x v) :: r)) (hr : go_two Lv st σ k f) : gE y pc Lv st σ K := by
  unfold go_two at hr
  split at hr
  · exact gA_pure A hR hC (hp _ _ _) hr
  · exact hr.elim
theorem gk_div (A : gA y pc i len K k) {f : Int32 → Int32 → Int32} (hR : jv_isR i = false) (hC : jv_isC i = none) (hp : ∀ (x v : Int32) (r : List Value), v ≠ 0 → jv_pure i (.int v :: .int x :: r) = some (.int (f x v) :: r)) (hr : go_div Lv st σ k f) : gE y pc Lv st σ K := by
  unfold go_div at hr
  split at hr
  · exact gA_pure A hR hC (hp _ _ _ hr.1) hr.2
  · exact hr.elim
theorem gk_neg (A : gA y pc .ineg len K k) (hr : go_neg Lv st σ k) : gE y pc Lv st σ K := by
  unfold go_neg at hr
  split at hr
  · exact gA_pure A rfl rfl rfl hr
  · exact hr.elim
theorem gk_dup (A : gA y pc i len K k) (hs : i = .dup) (hr : go_dup Lv st σ k) : gE y pc Lv st σ K := by
  subst hs
  unfold go_dup at hr
  split at hr
  · exact gA_pure A rfl rfl rfl hr
  · exact gA_pure A rfl rfl rfl hr
  · exact hr.elim
theorem gk_dup2 (A : gA y pc i len K k) (hs : i = .dup2) (hr : go_dup2 Lv st σ k) : gE y pc Lv st σ K := by
  subst hs
  unfold go_dup2 at hr
  split at hr
  · exact gA_pure A rfl rfl rfl hr
  · exact hr.elim
theorem gk_pop (A : gA y pc i len K k) (hs : i = .pop) (hr : go_pop Lv st σ k) : gE y pc Lv st σ K := by
  subst hs
  unfold go_pop at hr
  split at hr
  · exact gA_pure A rfl rfl rfl hr
  · exact gA_pure A rfl rfl rfl hr
  · exact hr.elim
theorem gcl_of {c p : Nat} {P : Prop} (hc : c < 9) (h : gcl c p P) : (p < 332 ∧ gkd p = 16 + c) ∧ P := by
  unfold gcl at h
  cases q : Nat.beq c 6 with
  | true =>
    rw [q] at h
    obtain ⟨⟨h1, h2⟩, h3⟩ := h
    exact ⟨⟨h1, by rw [b_eq q]; exact h2⟩, h3⟩
  | false =>
    rw [q] at h
    cases q2 : (Nat.blt p 332 && Nat.beq (gkd p) (16 + c)) with
    | true =>
      rw [q2] at h
      obtain ⟨h1, h2⟩ := s_and q2
      exact ⟨⟨b_lt h1, b_eq h2⟩, h⟩
    | false => rw [q2] at h; exact h.elim
theorem gCk_obj {f : Nat → Int32} {p c : Nat} {x : jv_E} (hc : gCk f p x) (hk : gkd p = 16 + c) : ∃ fs, x = .inr (.inr (c, fs)) ∧ gln p = fs.length ∧ ∀ (i : Nat) (v : Value), fs[i]? = some v → gvl f p c i v := by
  match x, hc with
  | .inl (ty, n, g), hc =>
    obtain ⟨e1, e2, -⟩ := hc
    omega
  | .inr (.inl (ty, n, g)), hc =>
    obtain ⟨e1, e2, -⟩ := hc
    omega
  | .inr (.inr (d, fs)), hc =>
    obtain ⟨e1, e2, e3⟩ := hc
    have : d = c := by omega
    subst this
    exact ⟨fs, rfl, e2, e3⟩
theorem gCk_arr {f : Nat → Int32} {p c : Nat} {x : jv_E} (hc : gCk f p x) (hk : gkd p = c) (hc2 : c < 2) : ∃ g, x = .inl (c, gln p, g) ∧ ∀ i, i < gln p → g i = f i := by
  match x, hc with
  | .inl (ty, n, g), hc =>
    obtain ⟨e1, e2, e3, e4⟩ := hc
    have : ty = c := by omega
    subst this
    subst e3
    exact ⟨g, rfl, e4⟩
  | .inr (.inl (ty, n, g)), hc =>
    obtain ⟨e1, e2, -⟩ := hc
    omega
  | .inr (.inr (d, fs)), hc =>
    obtain ⟨e1, e2, e3⟩ := hc
    omega
theorem gCk_rarr {f : Nat → Int32} {p c : Nat} {x : jv_E} (hc : gCk f p x) (hk : gkd p = c) (hc2 : c = 2 ∨ c = 3) : ∃ g, x = .inr (.inl (c, gln p, g)) ∧ ∀ i, i < gln p → g i = some (gpl p i) := by
  match x, hc with
  | .inl (ty, n, g), hc =>
    obtain ⟨e1, e2, e3, e4⟩ := hc
    omega
  | .inr (.inl (ty, n, g)), hc =>
    obtain ⟨e1, e2, e3, e4⟩ := hc
    have : ty = c := by omega
    subst this
    subst e3
    exact ⟨g, rfl, e4⟩
  | .inr (.inr (d, fs)), hc =>
    obtain ⟨e1, e2, e3⟩ := hc
    omega
theorem gRel_put {L : Nat} {xs : Nat → Int32} {h : jv_H} {p m : Nat} {w : Int32} {x : jv_E} (hh : gRel L xs σ h) (hp : p < 332) (hc : gCk (gup σ p m w p) p x) : gRel L xs (gup σ p m w) (jv_put h p x) := by
  obtain ⟨h1, h2, h3, h4⟩ := hh
  have hs : ∀ q, 332 ≤ q → gup σ p m w q = σ q := by
    intro q hq
    funext j
    unfold gup
    rw [if_neg (fun e => by omega)]
  refine ⟨h1, h2, ⟨?_, h3.2.1, by rw [hs _ (by decide)]; exact h3.2.2.1, by rw [hs _ (by decide)]; exact h3.2.2.2⟩, fun a ha => ?_⟩
  · show jv_up h.1 p x 1000000 = _
    unfold jv_up
    rw [if_neg (by omega)]
    exact h3.1
  · show gCk (gup σ p m w a) a (jv_up h.1 p x a)
    unfold jv_up
    by_cases q : a = p
    · rw [if_pos q, q]; exact hc
    · rw [if_neg q]
      have e : gup σ p m w a = σ a := by
        funext j
        unfold gup
        rw [if_neg (fun e => q e.1)]
      rw [e]
      exact h4 a ha
theorem gup_at (p m : Nat) (w : Int32) : gup σ p m w p m = w := by unfold gup; rw [if_pos ⟨rfl, rfl⟩]
theorem gup_ne {p m q n : Nat} {w : Int32} (h : ¬ (q = p ∧ n = m)) : gup σ p m w q n = σ q n := by unfold gup; rw [if_neg h]
end GSND
