/-! THE S MACHINE STANDS FOR THE J MACHINE: each operation -/
def sX (ρ : Nat → Int32) (L : Nat) (xs : Nat → Int32) (env : sE) (rest : List sF) (H : sH) (gs : List jF) (y pc : Nat) (i : Instr) (len : Nat) (t : List sI) (SL st : List Nat) (Lv : List (Option Value)) (vs : List Value) (h : jv_H) : Prop :=
  sRho L xs ρ ∧ sEk ρ env ∧ y < 272 ∧ jv_code y pc = some (i, len) ∧ s_ok y (pc + len) t = true ∧ sL ρ SL Lv ∧ sS ρ st vs ∧ sFs ρ rest gs ∧ sHk ρ L xs H h
theorem s_inf {y : Nat} (hy : y < 272) : ∃ (ow kd na mL fr lo : Nat), jv_inf y = some (ow, kd, na, mL, fr, lo) ∧ sow y = ow ∧ sini y = decide (kd = 2) := by
  obtain ⟨⟨ow, kd, na, mL, fr, lo⟩, hq⟩ := Option.isSome_iff_exists.mp (sc_inf y hy)
  exact ⟨ow, kd, na, mL, fr, lo, hq, by unfold sow; rw [hq]; rfl, by unfold sini; rw [hq]; rfl⟩
section SOK
variable {run : sRun} {ρ : Nat → Int32} {L : Nat} {xs : Nat → Int32} {env : sE} {rest : List sF} {H : sH} {gs : List jF} {y pc : Nat} {i : Instr} {len : Nat} {t : List sI} {SL st : List Nat} {Lv : List (Option Value)} {vs : List Value} {h : jv_H}
theorem sX_step (X : sX ρ L xs env rest H gs y pc i len t SL st Lv vs h) (hR : jv_isR i = false) (hC : jv_isC i = none) {pc' : Nat} {Lv' : List (Option Value)} {vs' : List Value} {h1 : jv_H} (hs : jv_step (sow y) (sini y) i len pc Lv vs h = some (pc', Lv', vs', h1)) (hg : sG gs y pc' Lv' vs' h1) : sG gs y pc Lv vs h := by
  obtain ⟨-, -, hy, hcode, -⟩ := X
  obtain ⟨ow, kd, na, mL, fr, lo, hinf, e1, e2⟩ := s_inf hy
  rw [e1, e2] at hs
  obtain ⟨h', hf, hb⟩ := hg
  exact ⟨h', jv_fin_of (fun x hx => jv_ev_step (fun n => jv_run_step hinf hcode hR hC hs) hx) hf, hb⟩
theorem sX_go (hrun : ∀ env f rest H, run env f rest H = true → sSnd env f rest H) (X : sX ρ L xs env rest H gs y pc i len t SL st Lv vs h) (hR : jv_isR i = false) (hC : jv_isC i = none) {Lv' : List (Option Value)} {vs' : List Value} {h1 : jv_H} (hs : jv_step (sow y) (sini y) i len pc Lv vs h = some (pc + len, Lv', vs', h1))
    {env' : sE} {SL' st' : List Nat} {H' : sH} (hr : run env' (y, pc + len, t, SL', st') rest H' = true) (hE : sEk ρ env') (hL : sL ρ SL' Lv') (hS : sS ρ st' vs') (hH : sHk ρ L xs H' h1) : sG gs y pc Lv vs h :=
  sX_step X hR hC hs (hrun _ _ _ _ hr L xs ρ X.1 hE gs Lv' vs' h1 X.2.2.1 X.2.2.2.2.1 hL hS X.2.2.2.2.2.2.2.1 hH)
theorem s_goto_ok (hrun : ∀ env f rest H, run env f rest H = true → sSnd env f rest H) {tgt : Nat} {env' : sE} {SL' st' : List Nat} {H' : sH} (hρ : sRho L xs ρ) (hE : sEk ρ env') (hy : y < 272) {Lv' : List (Option Value)} {vs' : List Value} {h1 : jv_H} (hL : sL ρ SL' Lv') (hS : sS ρ st' vs') (hrs : sFs ρ rest gs) (hH : sHk ρ L xs H' h1) (hr : s_goto sc_meth run env' y tgt SL' st' rest H' = true) : sG gs y tgt Lv' vs' h1 := by
  unfold s_goto at hr
  split at hr
  · rename_i l hl
    exact hrun _ _ _ _ hr L xs ρ hρ hE gs Lv' vs' h1 hy (s_find_ok _ 0 (sc_ok y hy) hl) hL hS hrs hH
  · cases hr
theorem st_pure {ow : Nat} {ini : Bool} {vs' : List Value} (h0 : jv_pure i vs = some vs') : jv_step ow ini i len pc Lv vs h = some (pc + len, Lv, vs', h) := by
  unfold jv_step
  rw [h0]
theorem st_ld {ow : Nat} {ini : Bool} {vs' : List Value} (h0 : jv_pure i vs = none) (h1 : jv_ld i Lv vs = some vs') : jv_step ow ini i len pc Lv vs h = some (pc + len, Lv, vs', h) := by
  unfold jv_step
  rw [h0, h1]
theorem st_br {ow pc' : Nat} {ini : Bool} {vs' : List Value} (h0 : jv_pure i vs = none) (h1 : jv_ld i Lv vs = none) (h2 : jv_br i pc vs = some (pc', vs')) : jv_step ow ini i len pc Lv vs h = some (pc', Lv, vs', h) := by
  unfold jv_step
  rw [h0, h1, h2]
theorem st_sto {ow : Nat} {ini : Bool} {Lv' : List (Option Value)} {vs' : List Value} (h0 : jv_pure i vs = none) (h1 : jv_ld i Lv vs = none) (h2 : jv_br i pc vs = none) (h3 : jv_sto i Lv vs = some (Lv', vs')) : jv_step ow ini i len pc Lv vs h = some (pc + len, Lv', vs', h) := by
  unfold jv_step
  rw [h0, h1, h2, h3]
theorem st_heap {ow : Nat} {ini : Bool} {vs' : List Value} {h1 : jv_H} (h0 : jv_pure i vs = none) (h2 : jv_ld i Lv vs = none) (h3 : jv_br i pc vs = none) (h4 : jv_sto i Lv vs = none) (h5 : jv_heap ow ini i vs h = some (vs', h1)) : jv_step ow ini i len pc Lv vs h = some (pc + len, Lv, vs', h1) := by
  unfold jv_step
  rw [h0, h2, h3, h4, h5]
theorem k_const (hrun : ∀ env f rest H, run env f rest H = true → sSnd env f rest H) (X : sX ρ L xs env rest H gs y pc i len t SL st Lv vs h) {a : Nat} (hk : sk_const i a = true) (hr : so_const run env y (pc + len) t a SL st rest H = true) : sG gs y pc Lv vs h := by
  have key : jv_pure i vs = some (.int (Int32.ofNat a) :: vs) ∧ jv_isR i = false ∧ jv_isC i = none ∧ a < sM := by
    unfold sk_const at hk
    split at hk
    · obtain ⟨h1, h2⟩ := of_decide_eq_true hk
      exact ⟨by rw [← h1]; rfl, rfl, rfl, h2⟩
    · obtain ⟨h1, h2⟩ := of_decide_eq_true hk
      exact ⟨by rw [← h1]; rfl, rfl, rfl, h2⟩
    · obtain ⟨h1, h2⟩ := of_decide_eq_true hk
      exact ⟨by rw [← h1]; rfl, rfl, rfl, h2⟩
    · cases hk
  obtain ⟨k1, k2, k3, k4⟩ := key
  obtain ⟨-, hE, -, -, -, hL, hS, -, hH⟩ := id X
  exact sX_go hrun X k2 k3 (st_pure k1) hr hE hL ⟨_, vs, rfl, Or.inl ⟨k4, rfl⟩, hS⟩ hH
theorem k_ldc (hrun : ∀ env f rest H, run env f rest H = true → sSnd env f rest H) (X : sX ρ L xs env rest H gs y pc i len t SL st Lv vs h) {a : Nat} (kd : Nat) (hk : sk_ldc y i a kd = true) (hr : so_const run env y (pc + len) t a SL st rest H = true) : sG gs y pc Lv vs h := by
  obtain ⟨-, hE, -, -, -, hL, hS, -, hH⟩ := id X
  unfold sk_ldc at hk
  split at hk
  · rename_i idx
    split at hk
    · rename_i w hl
      obtain ⟨h1, h2⟩ := of_decide_eq_true hk
      refine sX_go hrun X rfl rfl (st_heap (vs' := .int w :: vs) (h1 := h) rfl rfl rfl rfl ?_) hr hE hL ⟨_, vs, rfl, Or.inl ⟨h2, h1⟩, hS⟩ hH
      show (match jv_ldc (sow y) idx with
        | some v => some (v :: vs, h)
        | none => none) = _
      rw [hl]
    · rename_i p hl
      obtain ⟨h1, h2⟩ := of_decide_eq_true hk
      refine sX_go hrun X rfl rfl (st_heap (vs' := .ref p :: vs) (h1 := h) rfl rfl rfl rfl ?_) hr hE hL ⟨_, vs, rfl, ⟨h1, h2⟩, hS⟩ hH
      show (match jv_ldc (sow y) idx with
        | some v => some (v :: vs, h)
        | none => none) = _
      rw [hl]
    · cases hk
  · cases hk
theorem k_iload (hrun : ∀ env f rest H, run env f rest H = true → sSnd env f rest H) (X : sX ρ L xs env rest H gs y pc i len t SL st Lv vs h) {a : Nat} (hk : sk_iload i a = true) (hr : so_iload run env y (pc + len) t a SL st rest H = true) : sG gs y pc Lv vs h := by
  obtain ⟨-, hE, -, -, -, hL, hS, -, hH⟩ := id X
  obtain ⟨h1, hr⟩ := s_c1 hr
  have hu : ¬ s_nth SL a = sUNS := by intro q; rw [q] at h1; cases h1
  obtain ⟨v, hv, hsr⟩ := sL_nth _ _ a hL hu
  obtain ⟨w, rfl⟩ := sr_int h1 hsr
  have key : jv_pure i vs = none ∧ jv_ld i Lv vs = some (.int w :: vs) ∧ jv_isR i = false ∧ jv_isC i = none := by
    have e : jv_ldI Lv a vs = some (.int w :: vs) := by unfold jv_ldI; rw [hv]
    unfold sk_iload at hk
    split at hk
    · have h2 := of_decide_eq_true hk
      exact ⟨rfl, by rw [← h2] at e; exact e, rfl, rfl⟩
    · have h2 := of_decide_eq_true hk
      exact ⟨rfl, by rw [← h2] at e; exact e, rfl, rfl⟩
    · cases hk
  obtain ⟨k1, k2, k3, k4⟩ := key
  exact sX_go hrun X k3 k4 (st_ld k1 k2) hr hE hL ⟨_, vs, rfl, hsr, hS⟩ hH
theorem k_aload (hrun : ∀ env f rest H, run env f rest H = true → sSnd env f rest H) (X : sX ρ L xs env rest H gs y pc i len t SL st Lv vs h) {a : Nat} (hk : sk_aload i a = true) (hr : so_aload run env y (pc + len) t a SL st rest H = true) : sG gs y pc Lv vs h := by
  obtain ⟨-, hE, -, -, -, hL, hS, -, hH⟩ := id X
  obtain ⟨h1, hr⟩ := s_c1 hr
  have hu : ¬ s_nth SL a = sUNS := by intro q; rw [q] at h1; cases h1
  obtain ⟨v, hv, hsr⟩ := sL_nth _ _ a hL hu
  have hw := (sr_ref h1 hsr).1
  obtain ⟨w, hw2⟩ : ∃ w, w = s_nth SL a - sREF := ⟨_, rfl⟩
  rw [← hw2] at hw
  subst hw
  have key : jv_pure i vs = none ∧ jv_ld i Lv vs = some (.ref w :: vs) ∧ jv_isR i = false ∧ jv_isC i = none := by
    have e : jv_ldA Lv a vs = some (.ref w :: vs) := by unfold jv_ldA; rw [hv]
    unfold sk_aload at hk
    split at hk
    · have h2 := of_decide_eq_true hk
      exact ⟨rfl, by rw [← h2] at e; exact e, rfl, rfl⟩
    · have h2 := of_decide_eq_true hk
      exact ⟨rfl, by rw [← h2] at e; exact e, rfl, rfl⟩
    · cases hk
  obtain ⟨k1, k2, k3, k4⟩ := key
  exact sX_go hrun X k3 k4 (st_ld k1 k2) hr hE hL ⟨_, vs, rfl, hsr, hS⟩ hH
theorem k_dload (hrun : ∀ env f rest H, run env f rest H = true → sSnd env f rest H) (X : sX ρ L xs env rest H gs y pc i len t SL st Lv vs h) {a : Nat} (hk : sk_dload i a = true) (hr : so_dload run env y (pc + len) t a SL st rest H = true) : sG gs y pc Lv vs h := by
  obtain ⟨-, hE, -, -, -, hL, hS, -, hH⟩ := id X
  obtain ⟨h1, hr⟩ := s_c1 hr
  have hu : ¬ s_nth SL a = sUNS := by intro q; rw [q] at h1; cases h1
  obtain ⟨v, hv, hsr⟩ := sL_nth _ _ a hL hu
  obtain ⟨w, rfl⟩ := sr_dbl h1 hsr
  have key : jv_pure i vs = none ∧ jv_ld i Lv vs = some (.double w :: vs) ∧ jv_isR i = false ∧ jv_isC i = none := by
    have e : jv_ldD Lv a vs = some (.double w :: vs) := by unfold jv_ldD; rw [hv]
    unfold sk_dload at hk
    split at hk
    · have h2 := of_decide_eq_true hk
      exact ⟨rfl, by rw [← h2] at e; exact e, rfl, rfl⟩
    · have h2 := of_decide_eq_true hk
      exact ⟨rfl, by rw [← h2] at e; exact e, rfl, rfl⟩
    · cases hk
  obtain ⟨k1, k2, k3, k4⟩ := key
  exact sX_go hrun X k3 k4 (st_ld k1 k2) hr hE hL ⟨_, vs, rfl, hsr, hS⟩ hH
theorem k_istore (hrun : ∀ env f rest H, run env f rest H = true → sSnd env f rest H) (X : sX ρ L xs env rest H gs y pc i len t SL st Lv vs h) {a : Nat} (hk : sk_istore i a = true) (hr : so_istore run env y (pc + len) t a SL st rest H = true) : sG gs y pc Lv vs h := by
  obtain ⟨-, hE, -, -, -, hL, hS, -, hH⟩ := id X
  unfold so_istore at hr
  split at hr
  · rename_i x r
    obtain ⟨h1, hr⟩ := s_c1 hr
    obtain ⟨h1, h2⟩ := s_and h1
    obtain ⟨v, vs', rfl, hsr, hS⟩ := hS
    obtain ⟨w, rfl⟩ := sr_int h1 hsr
    have key : jv_pure i (.int w :: vs') = none ∧ jv_ld i Lv (.int w :: vs') = none ∧ jv_br i pc (.int w :: vs') = none ∧ jv_sto i Lv (.int w :: vs') = some (Lv.set a (some (.int w)), vs') ∧ jv_isR i = false ∧ jv_isC i = none := by
      have e : jv_stI Lv a (.int w :: vs') = some (Lv.set a (some (.int w)), vs') := by unfold jv_stI; simp only [s_free_ok hL h2]
      unfold sk_istore at hk
      split at hk
      · have h2 := of_decide_eq_true hk
        exact ⟨rfl, rfl, rfl, by rw [← h2] at e ⊢; exact e, rfl, rfl⟩
      · have h2 := of_decide_eq_true hk
        exact ⟨rfl, rfl, rfl, by rw [← h2] at e ⊢; exact e, rfl, rfl⟩
      · cases hk
    obtain ⟨k1, k2, k3, k4, k5, k6⟩ := key
    exact sX_go hrun X k5 k6 (st_sto k1 k2 k3 k4) hr hE (sL_set (o := some (.int w)) _ _ a hL hsr) hS hH
  · cases hr
theorem k_astore (hrun : ∀ env f rest H, run env f rest H = true → sSnd env f rest H) (X : sX ρ L xs env rest H gs y pc i len t SL st Lv vs h) {a : Nat} (hk : sk_astore i a = true) (hr : so_astore run env y (pc + len) t a SL st rest H = true) : sG gs y pc Lv vs h := by
  obtain ⟨-, hE, -, -, -, hL, hS, -, hH⟩ := id X
  unfold so_astore at hr
  split at hr
  · rename_i x r
    obtain ⟨h1, hr⟩ := s_c1 hr
    obtain ⟨h1, h2⟩ := s_and h1
    obtain ⟨v, vs', rfl, hsr, hS⟩ := hS
    have hw := (sr_ref h1 hsr).1
    obtain ⟨w, hw2⟩ : ∃ w, w = x - sREF := ⟨_, rfl⟩
    rw [← hw2] at hw
    subst hw
    have key : jv_pure i (.ref w :: vs') = none ∧ jv_ld i Lv (.ref w :: vs') = none ∧ jv_br i pc (.ref w :: vs') = none ∧ jv_sto i Lv (.ref w :: vs') = some (Lv.set a (some (.ref w)), vs') ∧ jv_isR i = false ∧ jv_isC i = none := by
      have e : jv_stA Lv a (.ref w :: vs') = some (Lv.set a (some (.ref w)), vs') := by unfold jv_stA; simp only [s_free_ok hL h2]
      unfold sk_astore at hk
      split at hk
      · have h2 := of_decide_eq_true hk
        exact ⟨rfl, rfl, rfl, by rw [← h2] at e ⊢; exact e, rfl, rfl⟩
      · have h2 := of_decide_eq_true hk
        exact ⟨rfl, rfl, rfl, by rw [← h2] at e ⊢; exact e, rfl, rfl⟩
      · cases hk
    obtain ⟨k1, k2, k3, k4, k5, k6⟩ := key
    exact sX_go hrun X k5 k6 (st_sto k1 k2 k3 k4) hr hE (sL_set (o := some (.ref w)) _ _ a hL hsr) hS hH
  · cases hr
theorem k_dstore (hrun : ∀ env f rest H, run env f rest H = true → sSnd env f rest H) (X : sX ρ L xs env rest H gs y pc i len t SL st Lv vs h) {a : Nat} (hk : sk_dstore i a = true) (hr : so_dstore run env y (pc + len) t a SL st rest H = true) : sG gs y pc Lv vs h := by
  obtain ⟨-, hE, -, -, -, hL, hS, -, hH⟩ := id X
  unfold so_dstore at hr
  split at hr
  · rename_i x r
    obtain ⟨h1, hr⟩ := s_c1 hr
    obtain ⟨h1, h2⟩ := s_and h1
    obtain ⟨h2, h3⟩ := s_and h2
    obtain ⟨v, vs', rfl, hsr, hS⟩ := hS
    obtain ⟨w, rfl⟩ := sr_dbl h1 hsr
    have key : jv_pure i (.double w :: vs') = none ∧ jv_ld i Lv (.double w :: vs') = none ∧ jv_br i pc (.double w :: vs') = none ∧ jv_sto i Lv (.double w :: vs') = some ((Lv.set a (some (.double w))).set (a + 1) none, vs') ∧ jv_isR i = false ∧ jv_isC i = none := by
      have e : jv_stD Lv a (.double w :: vs') = some ((Lv.set a (some (.double w))).set (a + 1) none, vs') := by unfold jv_stD; simp only [s_free_ok2 hL h2 h3]
      unfold sk_dstore at hk
      split at hk
      · have h2 := of_decide_eq_true hk
        exact ⟨rfl, rfl, rfl, by rw [← h2] at e ⊢; exact e, rfl, rfl⟩
      · have h2 := of_decide_eq_true hk
        exact ⟨rfl, rfl, rfl, by rw [← h2] at e ⊢; exact e, rfl, rfl⟩
      · cases hk
    obtain ⟨k1, k2, k3, k4, k5, k6⟩ := key
    exact sX_go hrun X k5 k6 (st_sto k1 k2 k3 k4) hr hE (sL_set (o := none) _ _ (a + 1) (sL_set (o := some (.double w)) _ _ a hL hsr) rfl) hS hH
  · cases hr
theorem k_iinc (hrun : ∀ env f rest H, run env f rest H = true → sSnd env f rest H) (X : sX ρ L xs env rest H gs y pc i len t SL st Lv vs h) {a b : Nat} (hk : sk_iinc i a b = true) (hr : so_iinc run env y (pc + len) t a b SL st rest H = true) : sG gs y pc Lv vs h := by
  obtain ⟨-, hE, -, -, -, hL, hS, -, hH⟩ := id X
  unfold sk_iinc at hk
  split at hk
  · rename_i k n
    obtain ⟨rfl, hn, hb⟩ := of_decide_eq_true hk
    unfold so_iinc at hr
    have hu : ¬ s_nth SL k = sUNS := by
      intro q
      rw [q] at hr
      have e : s_res env sUNS = sUNS := by unfold s_res; rfl
      rw [e] at hr
      cases hr
    obtain ⟨v, hv, hsr⟩ := sL_nth _ _ k hL hu
    have hsr2 := sr_res hE hsr
    have hI : ∃ w, v = .int w := by
      have h3 := hr
      unfold s_conc at h3
      rcases s_c2 h3 with ⟨x1, -⟩ | ⟨x1, h3⟩
      · exact ⟨_, sr_num (b_lt x1) hsr2⟩
      · obtain ⟨x2, -⟩ := s_c1 h3
        obtain ⟨j, -, -, -, e⟩ := sr_sym x2 hsr2
        exact ⟨_, e⟩
    obtain ⟨w, rfl⟩ := hI
    obtain ⟨z, env', hE', hz, rfl, hr⟩ := s_conc_ok hr hE hsr2
    obtain ⟨h1, hr⟩ := s_c1 hr
    rw [s_frc_eq] at hr
    refine sX_go hrun X rfl rfl (st_sto (Lv' := Lv.set k (some (.int (Int32.ofNat z + Int32.ofInt n)))) (vs' := vs) rfl rfl rfl ?_) hr hE' (sL_set (o := some (.int (Int32.ofNat z + Int32.ofInt n))) _ _ k hL ?_) hS hH
    · show (match Lv[k]? with
        | some (some (.int x)) => match jv_set1 Lv k (.int (x + Int32.ofInt n)) with
          | some L' => some (L', vs)
          | none => none
        | _ => none) = _
      rw [hv]
      show (match jv_set1 Lv k (.int (Int32.ofNat z + Int32.ofInt n)) with
          | some L' => some (L', vs)
          | none => none) = _
      rw [s_free_ok hL h1]
    · rw [hn, a_add]
      exact Or.inl ⟨Nat.mod_lt _ (by decide), rfl⟩
  · cases hk
theorem s_conc_int {k : Nat → sE → Bool} {x : Nat} {v : Value} (hr : s_conc env x k = true) (hsr : sr ρ x v) : ∃ w, v = .int w := by
  unfold s_conc at hr
  rcases s_c2 hr with ⟨x1, -⟩ | ⟨x1, hr⟩
  · exact ⟨_, sr_num (b_lt x1) hsr⟩
  · obtain ⟨x2, -⟩ := s_c1 hr
    obtain ⟨j, -, -, -, e⟩ := sr_sym x2 hsr
    exact ⟨_, e⟩
/-- an operation on two numbers -/
theorem k_two (hrun : ∀ env f rest H, run env f rest H = true → sSnd env f rest H) (X : sX ρ L xs env rest H gs y pc i len t SL st Lv vs h) {f : Nat → Nat → Nat} {ok : Nat → Nat → Bool} {g : Int32 → Int32 → Int32} (hR : jv_isR i = false) (hC : jv_isC i = none) (hp : ∀ (x v : Nat) (r : List Value), x < sM → v < sM → ok x v = true → jv_pure i (.int (Int32.ofNat v) :: .int (Int32.ofNat x) :: r) = some (.int (g (Int32.ofNat x) (Int32.ofNat v)) :: r) ∧ f x v < sM ∧ g (Int32.ofNat x) (Int32.ofNat v) = Int32.ofNat (f x v))
    (hr : so_two run env y (pc + len) t SL st rest H f ok = true) : sG gs y pc Lv vs h := by
  obtain ⟨-, hE, -, -, -, hL, hS, -, hH⟩ := id X
  unfold so_two at hr
  split at hr
  · rename_i v x r
    obtain ⟨v1, vs1, rfl, hsv, v2, vs2, rfl, hsx, hS⟩ := hS
    have hsx2 := sr_res hE hsx
    obtain ⟨wx, rfl⟩ := s_conc_int hr hsx2
    obtain ⟨z, env', hE', hz, rfl, hr⟩ := s_conc_ok hr hE hsx2
    have hsv2 := sr_res hE' hsv
    obtain ⟨wv, rfl⟩ := s_conc_int hr hsv2
    obtain ⟨z2, env2, hE2, hz2, rfl, hr⟩ := s_conc_ok hr hE' hsv2
    obtain ⟨h1, hr⟩ := s_c1 hr
    rw [s_frc_eq] at hr
    obtain ⟨p1, p2, p3⟩ := hp z z2 vs2 hz hz2 h1
    exact sX_go hrun X hR hC (st_pure p1) hr hE2 hL ⟨_, vs2, rfl, Or.inl ⟨p2, p3⟩, hS⟩ hH
  · cases hr
theorem k_iand (hrun : ∀ env f rest H, run env f rest H = true → sSnd env f rest H) (X : sX ρ L xs env rest H gs y pc i len t SL st Lv vs h) (hk : i = .iand) (hr : so_iand run env y (pc + len) t SL st rest H = true) : sG gs y pc Lv vs h := by
  subst hk
  obtain ⟨hρ, hE, -, -, -, hL, hS, -, hH⟩ := id X
  unfold so_iand at hr
  split at hr
  · rename_i v x r
    obtain ⟨v1, vs1, rfl, hsv, v2, vs2, rfl, hsx, hS⟩ := hS
    rcases s_c2 hr with ⟨q, hr⟩ | ⟨q, hr⟩
    · obtain ⟨q1, q2⟩ := s_and q
      have hx1 := b_lt q1
      have hv1 := b_lt q2
      cases sr_num hx1 hsx
      cases sr_num hv1 hsv
      rw [s_frc_eq] at hr
      refine sX_go hrun X rfl rfl (st_pure (vs' := .int (Int32.ofNat x &&& Int32.ofNat v) :: vs2) rfl) hr hE hL ⟨_, vs2, rfl, Or.inl ⟨?_, a_and x v⟩, hS⟩ hH
      exact Nat.lt_of_le_of_lt Nat.and_le_left hx1
    · rcases s_c2 hr with ⟨q3, hr⟩ | ⟨q3, hr⟩
      · obtain ⟨q1, q2⟩ := s_and q3
        have ex : x = 17179869184 := b_eq q1
        have ev : v = 63 := b_eq q2
        subst ex
        subst ev
        cases sr_num (by decide) hsv
        have hS0 : s_isS 17179869184 = true := rfl
        obtain ⟨k, hk, hk2, hk3, rfl⟩ := sr_sym hS0 hsx
        have hk2 : 17179869184 = 17179869184 + k := hk2
        have hk0 : k = 0 := by omega
        subst hk0
        refine sX_go hrun X rfl rfl (st_pure (vs' := .int (ρ 0 &&& Int32.ofNat 63) :: vs2) rfl) hr hE hL ⟨_, vs2, rfl, Or.inr (Or.inl ⟨7, by decide, rfl, ?_⟩), hS⟩ hH
        rw [hρ.2.2.2, hρ.2.1 0 (by decide)]
        rfl
      · obtain ⟨q4, hr⟩ := s_c1 hr
        obtain ⟨q1, q2⟩ := s_and q4
        obtain ⟨wx, rfl⟩ := sr_int q1 hsx
        obtain ⟨wv, rfl⟩ := sr_int q2 hsv
        exact sX_go hrun X rfl rfl (st_pure (vs' := .int (wx &&& wv) :: vs2) rfl) hr hE hL ⟨_, vs2, rfl, Or.inr (Or.inr rfl), hS⟩ hH
  · cases hr
theorem k_ishr (hrun : ∀ env f rest H, run env f rest H = true → sSnd env f rest H) (X : sX ρ L xs env rest H gs y pc i len t SL st Lv vs h) (hk : i = .ishr) (hr : so_ishr run env y (pc + len) t SL st rest H = true) : sG gs y pc Lv vs h := by
  subst hk
  obtain ⟨hρ, hE, -, -, -, hL, hS, -, hH⟩ := id X
  unfold so_ishr at hr
  split at hr
  · rename_i v x r
    obtain ⟨v1, vs1, rfl, hsv, v2, vs2, rfl, hsx, hS⟩ := hS
    obtain ⟨q4, hr⟩ := s_c1 hr
    obtain ⟨q1, q2⟩ := s_and q4
    obtain ⟨wx, rfl⟩ := sr_int q1 hsx
    obtain ⟨wv, rfl⟩ := sr_int q2 hsv
    exact sX_go hrun X rfl rfl (st_pure (vs' := .int (wx >>> (wv &&& 31)) :: vs2) rfl) hr hE hL ⟨_, vs2, rfl, Or.inr (Or.inr rfl), hS⟩ hH
  · cases hr
theorem k_goto (hrun : ∀ env f rest H, run env f rest H = true → sSnd env f rest H) (X : sX ρ L xs env rest H gs y pc i len t SL st Lv vs h) {a : Nat} (hk : sk_goto pc i a = true) (hr : s_goto sc_meth run env y a SL st rest H = true) : sG gs y pc Lv vs h := by
  obtain ⟨hρ, hE, hy, -, -, hL, hS, hrs, hH⟩ := id X
  unfold sk_goto at hk
  split at hk
  · rename_i off
    have h1 := of_decide_eq_true hk
    refine sX_step X rfl rfl (st_br (pc' := a) (vs' := vs) rfl rfl ?_) (s_goto_ok hrun hρ hE hy hL hS hrs hH hr)
    show jv_jmp pc off vs = some (a, vs)
    unfold jv_jmp
    rw [if_pos (by omega), h1]
    rfl
  · cases hk
theorem s_jmp {off : Int} {b : Nat} {r : List Value} (h1 : (pc : Int) + off = (b : Int)) : jv_jmp pc off r = some (b, r) := by
  unfold jv_jmp
  rw [if_pos (by omega), h1]
  rfl
theorem s_lt_int {x v : Nat} {kt kf : sE → Bool} (hr : s_lt env x v kt kf = true) : (x < sM ∨ s_isS x = true) ∧ (v < sM ∨ s_isS v = true) := by
  unfold s_lt at hr
  rcases s_c2 hr with ⟨x1, hr⟩ | ⟨x1, hr⟩
  · refine ⟨Or.inl (b_lt x1), ?_⟩
    rcases s_c2 hr with ⟨y1, hr⟩ | ⟨y1, hr⟩
    · exact Or.inl (b_lt y1)
    · exact Or.inr (s_c1 hr).1
  · obtain ⟨q, -⟩ := s_c1 hr
    obtain ⟨q1, q2⟩ := s_and q
    exact ⟨Or.inr q1, Or.inl (b_lt q2)⟩
theorem s_eq_int {x v : Nat} {kt kf : sE → Bool} (hr : s_eq env x v kt kf = true) : (x < sM ∨ s_isS x = true) ∧ (v < sM ∨ s_isS v = true) := by
  unfold s_eq at hr
  rcases s_c2 hr with ⟨x1, hr⟩ | ⟨x1, hr⟩
  · refine ⟨Or.inl (b_lt x1), ?_⟩
    rcases s_c2 hr with ⟨y1, hr⟩ | ⟨y1, hr⟩
    · exact Or.inl (b_lt y1)
    · exact Or.inr (s_c1 hr).1
  · obtain ⟨q, -⟩ := s_c1 hr
    obtain ⟨q1, q2⟩ := s_and q
    exact ⟨Or.inr q1, Or.inl (b_lt q2)⟩
theorem s_cc_int {cc x v : Nat} {kt kf : sE → Bool} (hr : s_cc env cc x v kt kf = true) : (x < sM ∨ s_isS x = true) ∧ (v < sM ∨ s_isS v = true) := by
  unfold s_cc at hr
  rcases s_c2 hr with ⟨-, hr⟩ | ⟨-, hr⟩
  · exact s_eq_int hr
  rcases s_c2 hr with ⟨-, hr⟩ | ⟨-, hr⟩
  · exact s_eq_int hr
  rcases s_c2 hr with ⟨-, hr⟩ | ⟨-, hr⟩
  · exact s_lt_int hr
  rcases s_c2 hr with ⟨-, hr⟩ | ⟨-, hr⟩
  · exact s_lt_int hr
  rcases s_c2 hr with ⟨-, hr⟩ | ⟨-, hr⟩
  · exact (s_lt_int hr).symm
  · exact (s_lt_int hr).symm
theorem sI_of {x : Nat} {v : Value} (hx : x < sM ∨ s_isS x = true) (hsr : sr ρ x v) : ∃ w, v = .int w := by
  rcases hx with hx | hx
  · exact ⟨_, sr_num hx hsr⟩
  · obtain ⟨j, -, -, -, e⟩ := sr_sym hx hsr
    exact ⟨_, e⟩
theorem k_if (hrun : ∀ env f rest H, run env f rest H = true → sSnd env f rest H) (X : sX ρ L xs env rest H gs y pc i len t SL st Lv vs h) {a b : Nat} (hk : sk_if pc i a b = true) (hlen : len = 3) (hr : so_if sc_meth run env y (pc + len) t a b SL st rest H = true) : sG gs y pc Lv vs h := by
  obtain ⟨hρ, hE, hy, -, hok, hL, hS, hrs, hH⟩ := id X
  unfold sk_if at hk
  split at hk
  · rename_i cn off
    obtain ⟨rfl, h1⟩ := of_decide_eq_true hk
    unfold so_if at hr
    split at hr
    · rename_i x r
      obtain ⟨v1, vs1, rfl, hsx, hS⟩ := hS
      have hsx2 := sr_res hE hsx
      obtain ⟨w, rfl⟩ := sI_of (s_cc_int hr).1 hsx2
      rcases s_cc_ok hr hE hsx2 (Or.inl ⟨by decide, rfl⟩ : sr ρ 0 (.int (Int32.ofNat 0))) with ⟨hc, env', hE', hr⟩ | ⟨hc, env', hE', hr⟩
      · refine sX_step X rfl rfl (st_br (pc' := b) (vs' := vs1) rfl rfl ?_) (s_goto_ok hrun hρ hE' hy hL hS hrs hH hr)
        show (match jv_jmp pc off vs1 with
          | some t => if jv_cc cn w 0 = true then some t else some (pc + 3, vs1)
          | none => none) = some (b, vs1)
        rw [s_jmp h1]
        exact if_pos hc
      · refine sX_go hrun X rfl rfl (st_br (pc' := pc + len) (vs' := vs1) rfl rfl ?_) hr hE' hL hS hH
        show (match jv_jmp pc off vs1 with
          | some t => if jv_cc cn w 0 = true then some t else some (pc + 3, vs1)
          | none => none) = some (pc + len, vs1)
        rw [s_jmp h1, hlen]
        exact if_neg hc
    · cases hr
  · cases hk
theorem k_icmp (hrun : ∀ env f rest H, run env f rest H = true → sSnd env f rest H) (X : sX ρ L xs env rest H gs y pc i len t SL st Lv vs h) {a b : Nat} (hk : sk_icmp pc i a b = true) (hlen : len = 3) (hr : so_icmp sc_meth run env y (pc + len) t a b SL st rest H = true) : sG gs y pc Lv vs h := by
  obtain ⟨hρ, hE, hy, -, hok, hL, hS, hrs, hH⟩ := id X
  unfold sk_icmp at hk
  split at hk
  · rename_i cn off
    obtain ⟨rfl, h1⟩ := of_decide_eq_true hk
    unfold so_icmp at hr
    split at hr
    · rename_i v x r
      obtain ⟨v1, vs1, rfl, hsv, v2, vs2, rfl, hsx, hS⟩ := hS
      have hsx2 := sr_res hE hsx
      have hsv2 := sr_res hE hsv
      obtain ⟨w, rfl⟩ := sI_of (s_cc_int hr).1 hsx2
      obtain ⟨u, rfl⟩ := sI_of (s_cc_int hr).2 hsv2
      rcases s_cc_ok hr hE hsx2 hsv2 with ⟨hc, env', hE', hr⟩ | ⟨hc, env', hE', hr⟩
      · refine sX_step X rfl rfl (st_br (pc' := b) (vs' := vs2) rfl rfl ?_) (s_goto_ok hrun hρ hE' hy hL hS hrs hH hr)
        show (match jv_jmp pc off vs2 with
          | some t => if jv_cc cn w u = true then some t else some (pc + 3, vs2)
          | none => none) = some (b, vs2)
        rw [s_jmp h1]
        exact if_pos hc
      · refine sX_go hrun X rfl rfl (st_br (pc' := pc + len) (vs' := vs2) rfl rfl ?_) hr hE' hL hS hH
        show (match jv_jmp pc off vs2 with
          | some t => if jv_cc cn w u = true then some t else some (pc + 3, vs2)
          | none => none) = some (pc + len, vs2)
        rw [s_jmp h1, hlen]
        exact if_neg hc
    · cases hr
  · cases hk
theorem k_dup (hrun : ∀ env f rest H, run env f rest H = true → sSnd env f rest H) (X : sX ρ L xs env rest H gs y pc i len t SL st Lv vs h) (hk : i = .dup) (hr : so_dup run env y (pc + len) t SL st rest H = true) : sG gs y pc Lv vs h := by
  subst hk
  obtain ⟨hρ, hE, -, -, -, hL, hS, -, hH⟩ := id X
  unfold so_dup at hr
  split at hr
  · rename_i x r
    obtain ⟨v1, vs1, rfl, hsx, hS⟩ := hS
    obtain ⟨q, hr⟩ := s_c1 hr
    rcases s_or q with q | q
    · obtain ⟨w, rfl⟩ := sr_int q hsx
      exact sX_go hrun X rfl rfl (st_pure (vs' := .int w :: .int w :: vs1) rfl) hr hE hL ⟨_, _, rfl, hsx, _, vs1, rfl, hsx, hS⟩ hH
    · have hw := (sr_ref q hsx).1
      obtain ⟨w, hw2⟩ : ∃ w, w = x - sREF := ⟨_, rfl⟩
      rw [← hw2] at hw
      subst hw
      exact sX_go hrun X rfl rfl (st_pure (vs' := .ref w :: .ref w :: vs1) rfl) hr hE hL ⟨_, _, rfl, hsx, _, vs1, rfl, hsx, hS⟩ hH
  · cases hr
theorem k_pop (hrun : ∀ env f rest H, run env f rest H = true → sSnd env f rest H) (X : sX ρ L xs env rest H gs y pc i len t SL st Lv vs h) (hk : i = .pop) (hr : so_pop run env y (pc + len) t SL st rest H = true) : sG gs y pc Lv vs h := by
  subst hk
  obtain ⟨hρ, hE, -, -, -, hL, hS, -, hH⟩ := id X
  unfold so_pop at hr
  split at hr
  · rename_i x r
    obtain ⟨v1, vs1, rfl, hsx, hS⟩ := hS
    obtain ⟨q, hr⟩ := s_c1 hr
    rcases s_or q with q | q
    · obtain ⟨w, rfl⟩ := sr_int q hsx
      exact sX_go hrun X rfl rfl (st_pure (vs' := vs1) rfl) hr hE hL hS hH
    · have hw := (sr_ref q hsx).1
      obtain ⟨w, hw2⟩ : ∃ w, w = x - sREF := ⟨_, rfl⟩
      rw [← hw2] at hw
      subst hw
      exact sX_go hrun X rfl rfl (st_pure (vs' := vs1) rfl) hr hE hL hS hH
  · cases hr
theorem k_dup2 (hrun : ∀ env f rest H, run env f rest H = true → sSnd env f rest H) (X : sX ρ L xs env rest H gs y pc i len t SL st Lv vs h) (hk : i = .dup2) (hr : so_dup2 run env y (pc + len) t SL st rest H = true) : sG gs y pc Lv vs h := by
  subst hk
  obtain ⟨hρ, hE, -, -, -, hL, hS, -, hH⟩ := id X
  unfold so_dup2 at hr
  split at hr
  · rename_i x p r
    obtain ⟨v1, vs1, rfl, hsx, v2, vs2, rfl, hsp, hS⟩ := hS
    obtain ⟨q, hr⟩ := s_c1 hr
    obtain ⟨q1, q2⟩ := s_and q
    obtain ⟨w, rfl⟩ := sr_int q1 hsx
    have hw := (sr_ref q2 hsp).1
    obtain ⟨u, hw2⟩ : ∃ w, w = p - sREF := ⟨_, rfl⟩
    rw [← hw2] at hw
    subst hw
    exact sX_go hrun X rfl rfl (st_pure (vs' := .int w :: .ref u :: .int w :: .ref u :: vs2) rfl) hr hE hL ⟨_, _, rfl, hsx, _, _, rfl, hsp, _, _, rfl, hsx, _, vs2, rfl, hsp, hS⟩ hH
  · cases hr
/-- a place on the stack, and its cell -/
theorem s_cell {p : Nat} {v : Value} (hH : sHk ρ L xs H h) (hp : s_isR p = true) (hlt : Nat.blt (p - sREF) H.2.1 = true) (hsp : sr ρ p v) : ∃ q : Nat, q = p - sREF ∧ v = .ref q ∧ q < h.2.1 ∧ q < H.2.1 ∧ sCk ρ (H.1 q) (h.1 q) := by
  have h1 := (sr_ref hp hsp).1
  have h2 := b_lt hlt
  exact ⟨p - sREF, rfl, h1, by rw [hH.1]; exact h2, h2, hH.2.2.2.2 _ h2⟩
theorem sCk_obj {c : Nat × Nat × (Nat → Nat)} {x : jv_E} {d : Nat} (hc : sCk ρ c x) (hd : Nat.beq c.1 (16 + d) = true) : ∃ fs, x = .inr (.inr (d, fs)) ∧ c.2.1 = fs.length ∧ ∀ (i : Nat) (v : Value), fs[i]? = some v → sr ρ (c.2.2 i) v := by
  have h1 := b_eq hd
  match x, hc with
  | .inl (ty, n, f), hc =>
    obtain ⟨e1, e2, -⟩ := hc
    omega
  | .inr (.inl (ty, n, f)), hc =>
    obtain ⟨e1, e2, -⟩ := hc
    omega
  | .inr (.inr (d2, fs)), hc =>
    obtain ⟨e1, e2, e3⟩ := hc
    have : d2 = d := by omega
    subst this
    exact ⟨fs, rfl, e2, e3⟩
theorem sCk_arr {c : Nat × Nat × (Nat → Nat)} {x : jv_E} {d : Nat} (hc : sCk ρ c x) (hd : Nat.beq c.1 d = true) (hd2 : d < 2) : ∃ (n : Nat) (f : Nat → Int32), x = .inl (d, n, f) ∧ c.2.1 = n ∧ ∀ i, i < n → sr ρ (c.2.2 i) (.int (f i)) := by
  have h1 := b_eq hd
  match x, hc with
  | .inl (ty, n, f), hc =>
    obtain ⟨e1, e2, e3, e4⟩ := hc
    have : ty = d := by omega
    subst this
    exact ⟨n, f, rfl, e3, e4⟩
  | .inr (.inl (ty, n, f)), hc =>
    obtain ⟨e1, e2, -⟩ := hc
    omega
  | .inr (.inr (d2, fs)), hc =>
    obtain ⟨e1, e2, e3⟩ := hc
    omega
theorem sCk_rarr {c : Nat × Nat × (Nat → Nat)} {x : jv_E} {d : Nat} (hc : sCk ρ c x) (hd : Nat.beq c.1 d = true) (hd2 : d = 2 ∨ d = 3) : ∃ (n : Nat) (f : Nat → Option Nat), x = .inr (.inl (d, n, f)) ∧ c.2.1 = n ∧ ∀ i, i < n → sRo (c.2.2 i) (f i) := by
  have h1 := b_eq hd
  match x, hc with
  | .inl (ty, n, f), hc =>
    obtain ⟨e1, e2, e3, e4⟩ := hc
    omega
  | .inr (.inl (ty, n, f)), hc =>
    obtain ⟨e1, e2, e3, e4⟩ := hc
    have : ty = d := by omega
    subst this
    exact ⟨n, f, rfl, e3, e4⟩
  | .inr (.inr (d2, fs)), hc =>
    obtain ⟨e1, e2, e3⟩ := hc
    omega
theorem k_getf (hrun : ∀ env f rest H, run env f rest H = true → sSnd env f rest H) (X : sX ρ L xs env rest H gs y pc i len t SL st Lv vs h) {a b : Nat} (hk : sk_getf y i a b = true) (hr : so_getf run env y (pc + len) t a b SL st rest H = true) : sG gs y pc Lv vs h := by
  obtain ⟨hρ, hE, -, -, -, hL, hS, -, hH⟩ := id X
  unfold sk_getf at hk
  split at hk
  · rename_i idx
    have hfld := of_decide_eq_true hk
    unfold so_getf at hr
    split at hr
    · rename_i p r
      obtain ⟨v1, vs1, rfl, hsp, hS⟩ := hS
      obtain ⟨q, hr⟩ := s_c1 hr
      obtain ⟨q1, q⟩ := s_and q
      obtain ⟨q2, q⟩ := s_and q
      obtain ⟨q3, q4⟩ := s_and q
      obtain ⟨u, hu, rfl, hlt, hlt2, hc⟩ := s_cell hH q1 q2 hsp
      rw [← hu] at q3 q4 hr
      obtain ⟨fs, hx, hlen, hf⟩ := sCk_obj hc q3
      have hb : b < fs.length := by rw [← hlen]; exact b_lt q4
      rw [s_frc_eq] at hr
      have hv := List.getElem?_eq_getElem hb
      refine sX_go hrun X rfl rfl (st_heap (vs' := fs[b] :: vs1) (h1 := h) rfl rfl rfl rfl ?_) hr hE hL ⟨_, vs1, rfl, hf b _ hv, hS⟩ hH
      show (match jv_get (sow y) idx (.ref u :: vs1) h with
        | some st' => some (st', h)
        | none => none) = _
      have e : jv_get (sow y) idx (.ref u :: vs1) h = some (fs[b] :: vs1) := by
        unfold jv_get
        simp only [hfld]
        rw [if_pos hlt]
        simp only [hx]
        rw [if_pos trivial]
        simp only [hv]
      rw [e]
    · cases hr
  · cases hk
theorem k_putf (hrun : ∀ env f rest H, run env f rest H = true → sSnd env f rest H) (X : sX ρ L xs env rest H gs y pc i len t SL st Lv vs h) {a b kd : Nat} {ok : Nat → Bool} (hk : sk_putf y i a b kd = true) (hokv : ∀ (x : Nat) (v : Value) (ty : FieldType), ok x = true → sr ρ x v → pv_k kd ty = true → narrow ty v = v ∧ fits ty v = true) (hr : so_putf run env y (pc + len) t a b SL st rest H ok = true) : sG gs y pc Lv vs h := by
  obtain ⟨hρ, hE, -, -, -, hL, hS, -, hH⟩ := id X
  unfold sk_putf at hk
  split at hk
  · rename_i idx
    obtain ⟨hk1, hk2⟩ := s_and hk
    obtain ⟨hfld, hfin⟩ := of_decide_eq_true hk1
    unfold so_putf at hr
    split at hr
    · rename_i x p r
      obtain ⟨v0, vs0, rfl, hsx, v1, vs1, rfl, hsp, hS⟩ := hS
      obtain ⟨q, hr⟩ := s_c1 hr
      obtain ⟨q0, q⟩ := s_and q
      obtain ⟨q1, q⟩ := s_and q
      obtain ⟨q2, q⟩ := s_and q
      obtain ⟨q3, q4⟩ := s_and q
      obtain ⟨u, hu, rfl, hlt, hlt2, hc⟩ := s_cell hH q1 q2 hsp
      rw [← hu] at q3 q4 hr
      obtain ⟨fs, hx, hlen, hf⟩ := sCk_obj hc q3
      have hb : b < fs.length := by rw [← hlen]; exact b_lt q4
      obtain ⟨hn, hfi⟩ := hokv x v0 (jv_fty a b) q0 hsx hk2
      have hcell : sCk ρ ((H.1 u).1, (H.1 u).2.1, s_up (H.1 u).2.2 b x) (.inr (.inr (a, fs.set b v0))) := by
        refine ⟨b_eq q3, by rw [List.length_set]; exact hlen, fun j w hj => ?_⟩
        show sr ρ (cond (Nat.beq j b) x ((H.1 u).2.2 j)) w
        cases hq : Nat.beq j b with
        | true =>
          rw [b_eq hq, List.getElem?_set_self hb] at hj
          cases hj
          exact hsx
        | false =>
          rw [List.getElem?_set_ne (fun e => b_ne hq e.symm)] at hj
          exact hf j w hj
      refine sX_go hrun X rfl rfl (st_heap (vs' := vs1) (h1 := jv_put h u (.inr (.inr (a, fs.set b v0)))) rfl rfl rfl rfl ?_) hr hE hL hS (sHk_put hH hlt2 hcell)
      show jv_set (sow y) (sini y) idx (v0 :: .ref u :: vs1) h = _
      unfold jv_set
      simp only [hfld]
      rw [if_pos ⟨hlt, hn, hfi, hfin⟩]
      simp only [hx]
      rw [if_pos ⟨trivial, hb⟩]
    · cases hr
  · cases hk
theorem sI_int {z : Nat} (h : z < 2147483648) : (Int32.ofNat z).toInt = z := Int32.toInt_ofNat_of_lt (by omega)
theorem sI_pos {z : Nat} (h : z < 2147483648) : ¬ Int32.ofNat z < 0 := by
  rw [Int32.lt_iff_toInt_lt, sI_int h]
  show ¬ (z : Int) < 0
  omega
theorem sI_clamp {z : Nat} (h : z < 2147483648) : (Int32.ofNat z).toNatClampNeg = z := by
  show (Int32.ofNat z).toInt.toNat = z
  rw [sI_int h]
  omega
theorem s_nat {z : Nat} (h2 : Nat.blt z 2147483648 = true) : ¬ Int32.ofNat z < 0 ∧ (Int32.ofNat z).toNatClampNeg = z := ⟨sI_pos (b_lt h2), sI_clamp (b_lt h2)⟩
theorem k_iald (hrun : ∀ env f rest H, run env f rest H = true → sSnd env f rest H) (X : sX ρ L xs env rest H gs y pc i len t SL st Lv vs h) (hk : i = .iaload) (hr : so_iald run env y (pc + len) t SL st rest H = true) : sG gs y pc Lv vs h := by
  subst hk
  obtain ⟨hρ, hE, -, -, -, hL, hS, -, hH⟩ := id X
  unfold so_iald at hr
  split at hr
  · rename_i j p r
    obtain ⟨v0, vs0, rfl, hsj, v1, vs1, rfl, hsp, hS⟩ := hS
    rcases s_c2 hr with ⟨q, hr⟩ | ⟨-, hr⟩
    · obtain ⟨qa, qb⟩ := s_and q
      have hp := b_eq qa
      have how : sow y = 10 := by
        rw [b_eq qb]
        rfl
      have hR : s_isR p = true := by rw [hp]; rfl
      have hpr := (sr_ref hR hsp).1
      have hpr2 : p - sREF = 1000000 := by rw [hp]; rfl
      rw [hpr2] at hpr
      subst hpr
      have hsj2 := sr_res hE hsj
      obtain ⟨w, rfl⟩ := s_conc_int hr hsj2
      obtain ⟨z, env', hE', hz, rfl, hr⟩ := s_conc_ok hr hE hsj2
      obtain ⟨q2, hr⟩ := s_c1 hr
      obtain ⟨q3, q4⟩ := s_and q2
      have hz6 : z < 6 := b_lt q3
      have hzL : z < L := by
        have e1 := (hE' 6).1
        rw [hρ.2.2.1, sb_of (Nat.lt_of_le_of_lt hρ.1 (by decide))] at e1
        have e2 := b_lt q4
        have e3 := hρ.1
        rw [(s_bias_eq L).1 (by omega)] at e1
        rw [(s_bias_eq z).1 (by omega)] at e2
        omega
      have hzc : (Int32.ofNat z).toNatClampNeg = z := sI_clamp (by omega)
      have hz0 : ¬ Int32.ofNat z < 0 := sI_pos (by omega)
      refine sX_go hrun X rfl rfl (st_heap (vs' := .int (xs z) :: vs1) (h1 := h) rfl rfl rfl rfl ?_) hr hE' hL ⟨_, vs1, rfl, Or.inr (Or.inl ⟨z, by omega, rfl, (hρ.2.1 z hz6).symm⟩), hS⟩ hH
      show (if (1000000 : Nat) < h.2.1 ∨ ((1000000 : Nat) = 1000000 ∧ sow y = 10) then match h.1 1000000 with
        | .inl (ty, n, f) => if (ty = 0 ∧ (1000000 : Nat) < h.2.1 ∨ ty = 9 ∧ (1000000 : Nat) = 1000000) ∧ ¬ (Int32.ofNat z < 0 ∨ n ≤ (Int32.ofNat z).toNatClampNeg) then some (.int (f (Int32.ofNat z).toNatClampNeg) :: vs1, h) else none
        | _ => none else none) = _
      rw [if_pos (Or.inr ⟨rfl, how⟩), hH.2.2.2.1]
      show (if ((9 : Nat) = 0 ∧ (1000000 : Nat) < h.2.1 ∨ (9 : Nat) = 9 ∧ (1000000 : Nat) = 1000000) ∧ ¬ (Int32.ofNat z < 0 ∨ L ≤ (Int32.ofNat z).toNatClampNeg) then some (.int (xs (Int32.ofNat z).toNatClampNeg) :: vs1, h) else none) = _
      rw [hzc, if_pos ⟨Or.inr ⟨rfl, rfl⟩, fun e => e.elim hz0 (fun e => by omega)⟩]
    · obtain ⟨q, hr⟩ := s_c1 hr
      obtain ⟨q1, q⟩ := s_and q
      obtain ⟨q2, q3⟩ := s_and q
      obtain ⟨u, hu, rfl, hlt, hlt2, hc⟩ := s_cell hH q1 q2 hsp
      rw [← hu] at q3 hr
      obtain ⟨n, f, hx, hlen, hf⟩ := sCk_arr hc q3 (by decide)
      have hsj2 := sr_res hE hsj
      obtain ⟨w, rfl⟩ := s_conc_int hr hsj2
      obtain ⟨z, env', hE', hz, rfl, hr⟩ := s_conc_ok hr hE hsj2
      obtain ⟨q4, hr⟩ := s_c1 hr
      obtain ⟨q5, q6⟩ := s_and q4
      obtain ⟨z0, z1⟩ := s_nat q6
      have hzn : z < n := by rw [← hlen]; exact b_lt q5
      rw [s_frc_eq] at hr
      refine sX_go hrun X rfl rfl (st_heap (vs' := .int (f z) :: vs1) (h1 := h) rfl rfl rfl rfl ?_) hr hE' hL ⟨_, vs1, rfl, hf z hzn, hS⟩ hH
      show (if u < h.2.1 ∨ (u = 1000000 ∧ sow y = 10) then match h.1 u with
        | .inl (ty, n, f) => if (ty = 0 ∧ u < h.2.1 ∨ ty = 9 ∧ u = 1000000) ∧ ¬ (Int32.ofNat z < 0 ∨ n ≤ (Int32.ofNat z).toNatClampNeg) then some (.int (f (Int32.ofNat z).toNatClampNeg) :: vs1, h) else none
        | _ => none else none) = _
      rw [if_pos (Or.inl hlt), hx]
      show (if ((0 : Nat) = 0 ∧ u < h.2.1 ∨ (0 : Nat) = 9 ∧ u = 1000000) ∧ ¬ (Int32.ofNat z < 0 ∨ n ≤ (Int32.ofNat z).toNatClampNeg) then some (.int (f (Int32.ofNat z).toNatClampNeg) :: vs1, h) else none) = _
      rw [z1, if_pos ⟨Or.inl ⟨rfl, hlt⟩, fun e => e.elim z0 (fun e => by omega)⟩]
  · cases hr
end SOK
