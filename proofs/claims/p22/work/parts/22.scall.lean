/-! THE S MACHINE STANDS FOR THE J MACHINE: calls, ends, switches, floating numbers -/
section SOK3
variable {run : sRun} {ρ : Nat → Int32} {L : Nat} {xs : Nat → Int32} {env : sE} {rest : List sF} {H : sH} {gs : List jF} {y pc : Nat} {i : Instr} {len : Nat} {t : List sI} {SL st : List Nat} {Lv : List (Option Value)} {vs : List Value} {h : jv_H}
theorem s_noD_ok : ∀ (l : List Nat) (M : List Value), sS ρ l M → s_noD l = true → jv_wd M = M.length
  | [], M, h, _ => by rw [show M = [] from h]; rfl
  | x :: t, M, h, hn => by
    obtain ⟨v, M', rfl, h1, h2⟩ := h
    obtain ⟨n1, n2⟩ := s_and (show (Nat.blt x sDBL && s_noD t) = true from hn)
    have h3 := s_noD_ok t M' h2 n2
    have h4 : v.category = 1 := sr_cat (b_lt n1) h1
    have h5 : jv_wd (v :: M') = v.category + jv_wd M' := by simp [jv_wd]
    rw [h5, h3, h4, List.length_cons]
    omega
theorem jv_wd_take {M : List Value} (h : jv_wd M = M.length) : ∀ n : Nat, jv_wd (M.take n) = (M.take n).length ∧ jv_wd (M.drop n) = (M.drop n).length := by
  intro n
  have hge : ∀ u : List Value, u.length ≤ jv_wd u := by
    intro u
    induction u with
    | nil => exact Nat.le_refl _
    | cons x t ih =>
      have h2 : jv_wd (x :: t) = x.category + jv_wd t := by simp [jv_wd]
      rcases lv_cat x with h3 | h3 <;> simp only [List.length_cons] <;> omega
  have h1 : jv_wd M = jv_wd (M.take n) + jv_wd (M.drop n) := by
    unfold jv_wd
    rw [← List.sum_append, ← List.map_append, List.take_append_drop]
  have h2 : M.length = (M.take n).length + (M.drop n).length := by rw [← List.length_append, List.take_append_drop]
  have h3 := hge (M.take n)
  have h4 := hge (M.drop n)
  omega
theorem sS_take : ∀ (l : List Nat) (M : List Value) (n : Nat), sS ρ l M → sS ρ (s_take l n) (M.take n)
  | [], M, n, h => by
    rw [show M = [] from h, List.take_nil]
    exact rfl
  | x :: t, M, 0, h => by
    rw [List.take_zero]
    exact rfl
  | x :: t, M, n + 1, h => by
    obtain ⟨v, M', rfl, h1, h2⟩ := h
    exact ⟨v, M'.take n, rfl, h1, sS_take t M' n h2⟩
theorem sS_drop : ∀ (l : List Nat) (M : List Value) (n : Nat), sS ρ l M → sS ρ (s_drop l n) (M.drop n)
  | [], M, n, h => by
    rw [show M = [] from h, List.drop_nil]
    exact rfl
  | x :: t, M, 0, h => h
  | x :: t, M, n + 1, h => by
    obtain ⟨v, M', rfl, h1, h2⟩ := h
    exact sS_drop t M' n h2
theorem sS_nth : ∀ (l : List Nat) (M : List Value) (i : Nat), sS ρ l M → i < l.length → ∃ v, M[i]? = some v ∧ sr ρ (s_nth l i) v
  | [], M, i, h, hn => absurd hn (Nat.not_lt_zero i)
  | x :: t, M, 0, h, hn => by
    obtain ⟨v, M', rfl, h1, h2⟩ := h
    exact ⟨v, rfl, h1⟩
  | x :: t, M, i + 1, h, hn => by
    obtain ⟨v, M', rfl, h1, h2⟩ := h
    exact sS_nth t M' i h2 (Nat.lt_of_succ_lt_succ hn)
theorem sL_rev : ∀ (l : List Nat) (M : List Value) (acc : List Nat) (A : List (Option Value)), sS ρ l M → sL ρ acc A → sL ρ (s_rev l acc) (M.reverse.map some ++ A)
  | [], M, acc, A, h, hA => by
    rw [show M = [] from h]
    exact hA
  | x :: t, M, acc, A, h, hA => by
    obtain ⟨v, M', rfl, h1, h2⟩ := h
    have h3 := sL_rev t M' (x :: acc) (some v :: A) h2 ⟨some v, A, rfl, h1, hA⟩
    rw [List.reverse_cons, List.map_append, List.append_assoc]
    exact h3
theorem sL_uns : ∀ n : Nat, sL ρ (s_uns n) (List.replicate n none)
  | 0 => rfl
  | n + 1 => ⟨none, List.replicate n none, List.replicate_succ, rfl, sL_uns n⟩
set_option maxHeartbeats 4000000 in
theorem k_call (hrun : ∀ env f rest H, run env f rest H = true → sSnd env f rest H) (X : sX ρ L xs env rest H gs y pc i len t SL st Lv vs h) {a b : Nat} (hk : sk_call y i a b = true) (hlen : len = 3) (hr : so_call sc_meth run env y (pc + len) t a b SL st rest H = true) : sG gs y pc Lv vs h := by
  subst hlen
  obtain ⟨hρ, hE, hy, hcode, hok, hL, hS, hrs, hH⟩ := id X
  unfold sk_call at hk
  split at hk
  · rename_i ck idx ow kd na mL fr lo ow2 kd2 na2 mL2 fr2 lo2 hC hinf hinf2
    obtain ⟨hcal, ha, hck, hb, hna, hmL, hnm, hkd, hfr, hlo⟩ := of_decide_eq_true hk
    have hb1 : b % 16 = na2 := by split at hb <;> omega
    have hb2 : b / 16 % 64 = mL2 := by split at hb <;> omega
    have hb3 : b / 1024 = (if kd2 = 0 then 0 else ow2 + 1) := by
      by_cases q : kd2 = 0
      · rw [if_pos q] at hb ⊢; omega
      · rw [if_neg q] at hb ⊢; omega
    unfold so_call at hr
    rw [hb1, hb2] at hr
    obtain ⟨q, hr⟩ := s_c1 hr
    obtain ⟨q1, q⟩ := s_and q
    obtain ⟨q2, q⟩ := s_and q
    obtain ⟨q3, q⟩ := s_and q
    have hwd := s_noD_ok _ _ hS q1
    have hsl := sS_len _ _ hS
    have q2 := b_le q2
    have q3 := b_le q3
    have hloc : sL ρ (s_rev (s_take st na2) (s_uns (mL2 - na2))) ((vs.take na2).reverse.map some ++ List.replicate (mL2 - na2) none) := sL_rev _ _ _ _ (sS_take _ _ _ hS) (sL_uns _)
    have hg := hrun _ _ _ _ hr L xs ρ hρ hE ((y, pc + 3, Lv, vs.drop na2) :: gs) _ [] h ha (sc_ok a ha) hloc rfl ⟨(y, pc + 3, Lv, vs.drop na2), gs, rfl, ⟨rfl, rfl, hy, hok, hL, sS_drop _ _ _ hS⟩, hrs⟩ hH
    obtain ⟨h', ⟨r, h1, hev, hf⟩, hbd⟩ := hg
    have hmay : jv_may ck fr lo (ow2, kd2, na2, mL2, fr2, lo2) na2 vs h = true := by
      obtain ⟨w1, w2⟩ := jv_wd_take hwd na2
      have w3 : (vs.take na2).length = na2 := by rw [List.length_take]; omega
      have w4 : (vs.drop na2).length ≤ 8 := by rw [List.length_drop]; omega
      unfold jv_may
      rw [Bool.and_eq_true]
      refine ⟨decide_eq_true ⟨hck.symm, rfl, by omega, hnm, hfr, hlo, by omega, by omega⟩, ?_⟩
      subst hck
      rcases s_c2 q with ⟨z1, -⟩ | ⟨z1, z2⟩
      · have z := b_eq z1
        rw [hb3] at z
        have hck0 : ck = 0 := by
          by_cases e : ck = 0
          · exact e
          · rw [if_neg e] at z; omega
        subst hck0
        rfl
      · have z := b_ne z1
        rw [hb3] at z
        have hck0 : ¬ ck = 0 := fun e => z (by rw [if_pos e])
        rw [hb3, if_neg hck0] at z2
        obtain ⟨z3, z2⟩ := s_and z2
        obtain ⟨z4, z5⟩ := s_and z2
        obtain ⟨v, hv, hsr⟩ := sS_nth st vs (na2 - 1) hS (by omega)
        obtain ⟨u, hu, rfl, hlt, hlt2, hc⟩ := s_cell hH z3 z4 hsr
        rw [← hu] at z5
        obtain ⟨fs, hx, -⟩ := sCk_obj (d := ow2) hc (by rw [show 16 + ow2 = 15 + (ow2 + 1) by omega]; exact z5)
        have hlast : (vs.take na2).getLast? = some (.ref u) := by
          rw [List.getLast?_eq_getElem?, w3, List.getElem?_take, if_pos (by omega)]
          exact hv
        match ck, hck0 with
        | n + 1, _ =>
          show (match (vs.take na2).getLast? with
            | some (.ref a) => decide (a < h.2.1) && (match h.1 a with
              | .inr (.inr (d, _)) => decide (d = ow2)
              | _ => false)
            | _ => false) = true
          rw [hlast]
          show (decide (u < h.2.1) && (match h.1 u with
              | .inr (.inr (d, _)) => decide (d = ow2)
              | _ => false)) = true
          rw [hx, Bool.and_eq_true]
          exact ⟨decide_eq_true hlt, decide_eq_true rfl⟩
        | 0, e => exact absurd rfl e
    refine ⟨h', jv_fin_of (fun x hx => ?_) hf, hbd⟩
    obtain ⟨N1, hN1⟩ := hev
    obtain ⟨N2, hN2⟩ := hx
    refine ⟨N1 + N2 + 1, fun n hn => ?_⟩
    obtain ⟨m, rfl⟩ : ∃ m, n = m + 1 := ⟨n - 1, by omega⟩
    rw [jv_run_call hinf hcode hC hcal (by omega) (by omega) (by omega) hinf2 hmay (hN1 m (by omega))]
    exact hN2 m (by omega)
  · cases hk
theorem s_wd8 {r : List Nat} {M : List Value} (hS : sS ρ r M) (q : (s_noD r && Nat.ble r.length 8) = true) : jv_wd M ≤ 8 := by
  obtain ⟨q1, q2⟩ := s_and q
  rw [s_noD_ok _ _ hS q1, sS_len _ _ hS]
  exact b_le q2
theorem sk_spec_eq {z ck fr0 lo0 : Nat} (hk : sk_spec y i z ck fr0 lo0 = true) : ∃ (idx ow kd na mL fr lo na' ne : Nat), jv_isC i = some (ck, idx) ∧ jv_inf y = some (ow, kd, na, mL, fr, lo) ∧ jv_cal ow idx = some (z, na', ne) ∧ fr0 ≤ fr ∧ lo0 ≤ lo := by
  unfold sk_spec at hk
  split at hk
  · rename_i ck1 idx ow kd na mL fr lo hC hinf
    split at hk
    · rename_i z1 na' ne hcal
      obtain ⟨rfl, rfl, h1, h2⟩ := of_decide_eq_true hk
      exact ⟨idx, ow, kd, na, mL, fr, lo, na', ne, hC, hinf, hcal, h1, h2⟩
    · cases hk
  · cases hk
theorem k_obj (hrun : ∀ env f rest H, run env f rest H = true → sSnd env f rest H) (X : sX ρ L xs env rest H gs y pc i len t SL st Lv vs h) (hk : sk_spec y i 900 2 1 20 = true) (hlen : len = 3) (hr : so_obj run env y (pc + len) t SL st rest H = true) : sG gs y pc Lv vs h := by
  subst hlen
  obtain ⟨hρ, hE, hy, hcode, hok, hL, hS, hrs, hH⟩ := id X
  obtain ⟨idx, ow, kd, na, mL, fr, lo, na', ne, hC, hinf, hcal, h1, h2⟩ := sk_spec_eq hk
  unfold so_obj at hr
  split at hr
  · rename_i p r
    obtain ⟨v1, vs1, rfl, hsp, hS⟩ := hS
    obtain ⟨q, hr⟩ := s_c1 hr
    obtain ⟨q1, q⟩ := s_and q
    have hwd := s_wd8 hS q
    have hw := (sr_ref q1 hsp).1
    obtain ⟨u, hu⟩ : ∃ u, u = p - sREF := ⟨_, rfl⟩
    rw [← hu] at hw
    subst hw
    obtain ⟨h', hf, hb⟩ := hrun _ _ _ _ hr L xs ρ hρ hE gs Lv vs1 h hy hok hL hS hrs hH
    refine ⟨h', jv_fin_of (fun x hx => jv_ev_step (fun n => ?_) hx) hf, hb⟩
    exact jv_run_obj hinf hcode hC hcal h1 (by omega)
  · cases hr
theorem k_slen (hrun : ∀ env f rest H, run env f rest H = true → sSnd env f rest H) (X : sX ρ L xs env rest H gs y pc i len t SL st Lv vs h) (hk : sk_spec y i 901 1 2 40 = true) (hlen : len = 3) (hr : so_slen run env y (pc + len) t SL st rest H = true) : sG gs y pc Lv vs h := by
  subst hlen
  obtain ⟨hρ, hE, hy, hcode, hok, hL, hS, hrs, hH⟩ := id X
  obtain ⟨idx, ow, kd, na, mL, fr, lo, na', ne, hC, hinf, hcal, h1, h2⟩ := sk_spec_eq hk
  unfold so_slen at hr
  split at hr
  · rename_i p r
    obtain ⟨v1, vs1, rfl, hsp, hS⟩ := hS
    obtain ⟨q, hr⟩ := s_c1 hr
    obtain ⟨q1, q⟩ := s_and q
    have hwd := s_wd8 hS q
    have hw := (sr_ref q1 hsp).1
    obtain ⟨u, hu⟩ : ∃ u, u = p - sREF := ⟨_, rfl⟩
    rw [← hu] at hw hr
    subst hw
    split at hr
    · rename_i k hk2
      have hlt : (jv_byt.getD k []).length < sM := by
        have h20 := (jv_tix_eq hk2).1
        have : ∀ k, k < 20 → (jv_byt.getD k []).length < sM := by decide +kernel
        exact this k h20
      obtain ⟨h', hf, hb⟩ := hrun _ _ _ _ hr L xs ρ hρ hE gs Lv (.int (Int32.ofNat (jv_byt.getD k []).length) :: vs1) h hy hok hL ⟨_, vs1, rfl, Or.inl ⟨hlt, rfl⟩, hS⟩ hrs hH
      refine ⟨h', jv_fin_of (fun x hx => jv_ev_step (fun n => ?_) hx) hf, hb⟩
      refine jv_run_slen hinf hcode hC hcal ?_ h1 h2 hwd
      unfold jv_strlen
      simp only [hk2]
    · cases hr
  · cases hr
theorem a_enc (w : Int32) : w.toUInt32.toNat < sM ∧ w = Int32.ofNat w.toUInt32.toNat := by
  refine ⟨w.toUInt32.toNat_lt, ?_⟩
  apply Int32.toBitVec.inj
  show w.toBitVec = BitVec.ofNat 32 w.toUInt32.toNat
  apply BitVec.eq_of_toNat_eq
  rw [BitVec.toNat_ofNat]
  have h1 := w.toUInt32.toNat_lt
  have h2 : w.toUInt32.toNat = w.toBitVec.toNat := rfl
  rw [Nat.mod_eq_of_lt h1, h2]
theorem sr_lit (w : Int32) : sr ρ w.toUInt32.toNat (.int w) := Or.inl (a_enc w)
theorem k_sat (hrun : ∀ env f rest H, run env f rest H = true → sSnd env f rest H) (X : sX ρ L xs env rest H gs y pc i len t SL st Lv vs h) (hk : sk_spec y i 902 1 6 120 = true) (hlen : len = 3) (hr : so_sat run env y (pc + len) t SL st rest H = true) : sG gs y pc Lv vs h := by
  subst hlen
  obtain ⟨hρ, hE, hy, hcode, hok, hL, hS, hrs, hH⟩ := id X
  obtain ⟨idx, ow, kd, na, mL, fr, lo, na', ne, hC, hinf, hcal, h1, h2⟩ := sk_spec_eq hk
  unfold so_sat at hr
  split at hr
  · rename_i j p r
    obtain ⟨v0, vs0, rfl, hsj, v1, vs1, rfl, hsp, hS⟩ := hS
    obtain ⟨q, hr⟩ := s_c1 hr
    obtain ⟨q1, q⟩ := s_and q
    have hwd := s_wd8 hS q
    have hw := (sr_ref q1 hsp).1
    obtain ⟨u, hu⟩ : ∃ u, u = p - sREF := ⟨_, rfl⟩
    rw [← hu] at hw hr
    subst hw
    split at hr
    · rename_i k hk2
      have h20 := (jv_tix_eq hk2).1
      have hsj2 := sr_res hE hsj
      obtain ⟨w, rfl⟩ := s_conc_int hr hsj2
      obtain ⟨z, env', hE', hz, rfl, hr⟩ := s_conc_ok hr hE hsj2
      obtain ⟨q5, hr⟩ := s_c1 hr
      rw [s_frc_eq] at hr
      have q5 := b_lt q5
      have hl20 : ∀ k, k < 20 → (jv_byt.getD k []).length < 100 := by decide +kernel
      have hz100 : z < 2147483648 := Nat.lt_trans q5 (Nat.lt_trans (hl20 k h20) (by decide))
      have z0 : ¬ Int32.ofNat z < 0 := sI_pos hz100
      have z1 : (Int32.ofNat z).toNatClampNeg = z := sI_clamp hz100
      obtain ⟨h', hf, hb⟩ := hrun _ _ _ _ hr L xs ρ hρ hE' gs Lv (.int ((jv_byt.getD k []).getD z 0) :: vs1) h hy hok hL ⟨_, vs1, rfl, sr_lit _, hS⟩ hrs hH
      refine ⟨h', jv_fin_of (fun x hx => jv_ev_step (fun n => ?_) hx) hf, hb⟩
      refine jv_run_sat hinf hcode hC hcal ?_ h1 h2 hwd
      unfold jv_strat
      simp only [hk2, z1]
      rw [if_pos (fun e => e.elim z0 (fun e => Nat.not_le.mpr q5 e))]
    · cases hr
  · cases hr
theorem k_ret (hrun : ∀ env f rest H, run env f rest H = true → sSnd env f rest H) (X : sX ρ L xs env rest H gs y pc i len t SL st Lv vs h) {ok : Nat → Bool} (hokv : ∀ (x : Nat) (v : Value), ok x = true → sr ρ x v → jv_ret (jv_ym y).2.2 i [v] = some (some v)) (hr : so_ret run env st rest H ok = true) : sG gs y pc Lv vs h := by
  obtain ⟨hρ, hE, hy, hcode, hok, hL, hS, hrs, hH⟩ := id X
  obtain ⟨ow, kd, na, mL, fr, lo, hinf, -, -⟩ := s_inf hy
  unfold so_ret at hr
  split at hr
  · rename_i x
    obtain ⟨v, vs1, rfl, hsx, hS⟩ := hS
    have hS2 : vs1 = [] := hS
    subst hS2
    obtain ⟨q, hr⟩ := s_c1 hr
    have hev : jv_ev y pc Lv [v] h (some v, h) := ⟨1, fun n hn => by
      obtain ⟨m, rfl⟩ : ∃ m, n = m + 1 := ⟨n - 1, by omega⟩
      exact jv_run_ret hinf hcode (hokv x v q hsx)⟩
    split at hr
    · have hgs : gs = [] := hrs
      subst hgs
      obtain ⟨r1, r2⟩ := s_and hr
      obtain ⟨r2, r3⟩ := s_and r2
      have hs1 := sr_res hE hsx
      rw [b_eq r1] at hs1
      have hv := sr_num (by decide) hs1
      have hv2 : v = .int 1 := hv
      subst hv2
      exact ⟨h, hev, by rw [hH.1]; exact b_le r2, by rw [hH.2.1]; exact b_le r3⟩
    · rename_i y2 pc2 t2 SL2 st2 rest2 xx
      obtain ⟨⟨gy, gpc, gL, gst⟩, gs', rfl, ⟨e1, e2, hlt, hok2, hL2, hS2⟩, hrs2⟩ := hrs
      have e1 : y2 = gy := e1
      have e2 : pc2 = gpc := e2
      subst e1
      subst e2
      obtain ⟨h', hf, hb⟩ := hrun _ _ _ _ hr L xs ρ hρ hE gs' gL (v :: gst) h hlt hok2 hL2 ⟨v, gst, rfl, hsx, hS2⟩ hrs2 hH
      exact ⟨h', ⟨some v, h, hev, hf⟩, hb⟩
  · cases hr
theorem k_vret (hrun : ∀ env f rest H, run env f rest H = true → sSnd env f rest H) (X : sX ρ L xs env rest H gs y pc i len t SL st Lv vs h) (hk : sk_ret y i 0 = true) (hr : so_vret run env st rest H = true) : sG gs y pc Lv vs h := by
  obtain ⟨hρ, hE, hy, hcode, hok, hL, hS, hrs, hH⟩ := id X
  obtain ⟨ow, kd, na, mL, fr, lo, hinf, -, -⟩ := s_inf hy
  have hret : jv_ret (jv_ym y).2.2 i [] = some none := by
    have hk : sk_r0 i (jv_ym y).2.2 = true := hk
    unfold sk_r0 at hk
    generalize (jv_ym y).2.2 = rt at hk ⊢
    split at hk
    · rfl
    · cases hk
  unfold so_vret at hr
  split at hr
  · have hS2 : vs = [] := hS
    subst hS2
    split at hr
    · cases hr
    · rename_i g rest2
      have hev : jv_ev y pc Lv [] h (none, h) := ⟨1, fun n hn => by
        obtain ⟨m, rfl⟩ : ∃ m, n = m + 1 := ⟨n - 1, by omega⟩
        exact jv_run_ret hinf hcode hret⟩
      obtain ⟨y2, pc2, t2, SL2, st2⟩ := g
      obtain ⟨⟨gy, gpc, gL, gst⟩, gs', rfl, ⟨e1, e2, hlt, hok2, hL2, hS2⟩, hrs2⟩ := hrs
      have e1 : y2 = gy := e1
      have e2 : pc2 = gpc := e2
      subst e1
      subst e2
      obtain ⟨h', hf, hb⟩ := hrun _ _ _ _ hr L xs ρ hρ hE gs' gL gst h hlt hok2 hL2 hS2 hrs2 hH
      exact ⟨h', ⟨none, h, hev, hf⟩, hb⟩
  · cases hr
theorem sk_ret_1 {v : Value} (hk : sk_ret y i 1 = true) (hv : ∃ w, v = .int w) : jv_ret (jv_ym y).2.2 i [v] = some (some v) := by
  obtain ⟨w, rfl⟩ := hv
  have hk : sk_r1 i (jv_ym y).2.2 = true := hk
  unfold sk_r1 at hk
  generalize (jv_ym y).2.2 = rt at hk ⊢
  split at hk
  · exact if_pos rfl
  · cases hk
theorem sk_ret_2 {v : Value} (hk : sk_ret y i 2 = true) (hv : ∃ w : Int32, v = .int w ∧ (w = 0 ∨ w = 1)) : jv_ret (jv_ym y).2.2 i [v] = some (some v) := by
  obtain ⟨w, rfl, hw⟩ := hv
  have hn : narrow .boolean (.int w) = .int w := by rcases hw with rfl | rfl <;> decide
  have hk : sk_r2 i (jv_ym y).2.2 = true := hk
  unfold sk_r2 at hk
  generalize (jv_ym y).2.2 = rt at hk ⊢
  split at hk
  · exact if_pos hn
  · cases hk
theorem sk_ret_3 {v : Value} (hk : sk_ret y i 3 = true) (hv : ∃ a, v = .ref a) : jv_ret (jv_ym y).2.2 i [v] = some (some v) := by
  obtain ⟨w, rfl⟩ := hv
  have hk : sk_r3 i (jv_ym y).2.2 = true := hk
  unfold sk_r3 at hk
  generalize (jv_ym y).2.2 = rt at hk ⊢
  split at hk
  · exact rfl
  · cases hk
theorem sk_ret_4 {v : Value} (hk : sk_ret y i 4 = true) (hv : ∃ a, v = .float a) : jv_ret (jv_ym y).2.2 i [v] = some (some v) := by
  obtain ⟨w, rfl⟩ := hv
  have hk : sk_r4 i (jv_ym y).2.2 = true := hk
  unfold sk_r4 at hk
  generalize (jv_ym y).2.2 = rt at hk ⊢
  split at hk
  · exact rfl
  · cases hk
theorem sk_ret_5 {v : Value} (hk : sk_ret y i 5 = true) (hv : ∃ a, v = .double a) : jv_ret (jv_ym y).2.2 i [v] = some (some v) := by
  obtain ⟨w, rfl⟩ := hv
  have hk : sk_r5 i (jv_ym y).2.2 = true := hk
  unfold sk_r5 at hk
  generalize (jv_ym y).2.2 = rt at hk ⊢
  split at hk
  · exact rfl
  · cases hk
theorem s_to32 {z : Int} (h1 : -2147483648 ≤ z) (h2 : z < 2147483648) : (Int32.ofInt z).toInt = z := Int32.toInt_ofInt_of_le (by omega) (by omega)
theorem k_tab (hrun : ∀ env f rest H, run env f rest H = true → sSnd env f rest H) (X : sX ρ L xs env rest H gs y pc i len t SL st Lv vs h) {a : Nat} (hk : sk_tab pc i a = true) (hr : so_tab sc_meth run env y a SL st rest H = true) : sG gs y pc Lv vs h := by
  obtain ⟨hρ, hE, hy, hcode, hok, hL, hS, hrs, hH⟩ := id X
  unfold sk_tab at hk
  split at hk
  · rename_i d lo hi offs
    obtain ⟨hk1, hk2⟩ := s_and hk
    obtain ⟨rfl, hd, hlo1, hlo2, hhi1, hhi2⟩ := of_decide_eq_true hk1
    unfold so_tab at hr
    split at hr
    · rename_i x r
      obtain ⟨v1, vs1, rfl, hsx, hS⟩ := hS
      rw [hcode] at hr
      have hsx2 := sr_res hE hsx
      have hr : s_lt env (s_res env x) (Int32.ofInt lo).toUInt32.toNat (fun env => s_goto sc_meth run env y ((a : Int) + d).toNat SL r rest H)
        (fun env => s_lt env (Int32.ofInt hi).toUInt32.toNat (s_res env x) (fun env => s_goto sc_meth run env y ((a : Int) + d).toNat SL r rest H)
          (fun env => s_conc env (s_res env x) (fun x env => match offs[((Int32.ofNat x).toInt - lo).toNat]? with
            | some off => s_goto sc_meth run env y ((a : Int) + off).toNat SL r rest H
            | none => false))) = true := hr
      obtain ⟨w, rfl⟩ := sI_of (s_lt_int hr).1 hsx2
      have hbr : jv_br (.tableswitch d lo hi offs) a (.int w :: vs1) = (if w.toInt < lo ∨ hi < w.toInt then jv_jmp a d vs1 else match offs[(w.toInt - lo).toNat]? with
        | some off => jv_jmp a off vs1
        | none => none) := rfl
      have go : ∀ (off : Int) (env' : sE), 0 ≤ (a : Int) + off → sEk ρ env' → jv_br (.tableswitch d lo hi offs) a (.int w :: vs1) = jv_jmp a off vs1 → s_goto sc_meth run env' y ((a : Int) + off).toNat SL r rest H = true → sG gs y a Lv (.int w :: vs1) h := by
        intro off env' h0 hE' hb1 hr'
        refine sX_step X rfl rfl (st_br (pc' := ((a : Int) + off).toNat) (vs' := vs1) rfl rfl ?_) (s_goto_ok hrun hρ hE' hy hL hS hrs hH hr')
        rw [hb1]
        unfold jv_jmp
        rw [if_pos h0]
      rcases s_lt_ok hr hE hsx2 (sr_lit _) with ⟨hc, env', hE', hr⟩ | ⟨hc, env', hE', hr⟩
      · refine go d env' hd hE' ?_ hr
        rw [Int32.lt_iff_toInt_lt, s_to32 hlo1 hlo2] at hc
        rw [hbr, if_pos (Or.inl hc)]
      · have hsx3 := sr_res hE' hsx
        rcases s_lt_ok hr hE' (sr_lit _) hsx3 with ⟨hc2, env2, hE2, hr⟩ | ⟨hc2, env2, hE2, hr⟩
        · refine go d env2 hd hE2 ?_ hr
          rw [Int32.lt_iff_toInt_lt, s_to32 hhi1 hhi2] at hc2
          rw [hbr, if_pos (Or.inr hc2)]
        · have hsx4 := sr_res hE2 hsx
          obtain ⟨z, env3, hE3, hz, hw, hr⟩ := s_conc_ok hr hE2 hsx4
          rw [← hw] at hr
          split at hr
          · rename_i off hoff
            have h0 : 0 ≤ (a : Int) + off := by
              have h3 := List.all_eq_true.mp hk2 off (Array.mem_toList_iff.mpr (Array.mem_of_getElem? hoff))
              exact of_decide_eq_true h3
            refine go off env3 h0 hE3 ?_ hr
            rw [Int32.lt_iff_toInt_lt, s_to32 hlo1 hlo2] at hc
            rw [Int32.lt_iff_toInt_lt, s_to32 hhi1 hhi2] at hc2
            rw [hbr, if_neg (fun e => e.elim hc hc2), hoff]
          · cases hr
    · cases hr
  · cases hk
theorem k_lsw (hrun : ∀ env f rest H, run env f rest H = true → sSnd env f rest H) (X : sX ρ L xs env rest H gs y pc i len t SL st Lv vs h) {a : Nat} (hk : sk_lsw pc i a = true) (hr : so_lsw sc_meth run env y a SL st rest H = true) : sG gs y pc Lv vs h := by
  obtain ⟨hρ, hE, hy, hcode, hok, hL, hS, hrs, hH⟩ := id X
  unfold sk_lsw at hk
  split at hk
  · rename_i d ps
    obtain ⟨hk1, hk2⟩ := s_and hk
    obtain ⟨hsort, hk2⟩ := s_and hk2
    obtain ⟨rfl, hd, hne0⟩ := of_decide_eq_true hk1
    unfold so_lsw at hr
    split at hr
    · rename_i x r
      obtain ⟨v1, vs1, rfl, hsx, hS⟩ := hS
      rw [hcode] at hr
      have hsx2 := sr_res hE hsx
      have hr : s_lsw sc_meth run y a SL rest H (s_res env x) r d ps.toList env = true := hr
      have hall : ∀ p ∈ ps.toList, 0 ≤ (a : Int) + p.2 ∧ -2147483648 ≤ p.1 ∧ p.1 < 2147483648 := fun p hp => of_decide_eq_true (List.all_eq_true.mp hk2 p hp)
      have key : ∀ (l : List (Int × Int)) (env' : sE) (X0 : Nat), (∀ p ∈ l, 0 ≤ (a : Int) + p.2 ∧ -2147483648 ≤ p.1 ∧ p.1 < 2147483648) → l ≠ [] ∨ (∃ w, v1 = .int w) → sEk ρ env' → sr ρ X0 v1 → s_lsw sc_meth run y a SL rest H X0 r d l env' = true →
          ∃ (w : Int32) (off : Int) (env2 : sE), v1 = .int w ∧ sEk ρ env2 ∧ 0 ≤ (a : Int) + off ∧ Op.lookupswitch.offset l d w.toInt = off ∧ s_goto sc_meth run env2 y ((a : Int) + off).toNat SL r rest H = true := by
        intro l
        induction l with
        | nil =>
          intro env' X0 _ hne hE' hs' hr'
          rcases hne with e | ⟨w, hw⟩
          · exact absurd rfl e
          · exact ⟨w, d, env', hw, hE', hd, rfl, hr'⟩
        | cons p l ih =>
          intro env' X0 hal _ hE' hs' hr'
          obtain ⟨k, off⟩ := p
          have hr' : s_eq env' X0 (Int32.ofInt k).toUInt32.toNat (fun env => s_goto sc_meth run env y ((a : Int) + off).toNat SL r rest H) (s_lsw sc_meth run y a SL rest H X0 r d l) = true := hr'
          obtain ⟨p1, p2, p3⟩ := hal (k, off) List.mem_cons_self
          obtain ⟨w, hw⟩ := sI_of (s_eq_int hr').1 hs'
          rw [hw] at hs'
          rcases s_eq_ok hr' hE' hs' (sr_lit _) with ⟨hc, env2, hE2, hr2⟩ | ⟨hc, env2, hE2, hr2⟩
          · refine ⟨w, off, env2, hw, hE2, p1, ?_, hr2⟩
            rw [Op.lookupswitch.offset_cons, if_pos]
            rw [hc, s_to32 p2 p3]
          · obtain ⟨w2, off2, env3, hw2, hE3, h0, ho, hr3⟩ := ih env2 X0 (fun q hq => hal q (List.mem_cons_of_mem _ hq)) (Or.inr ⟨w, hw⟩) hE2 (by rw [hw]; exact hs') hr2
            rw [hw] at hw2
            cases hw2
            refine ⟨w, off2, env3, hw, hE3, h0, ?_, hr3⟩
            rw [Op.lookupswitch.offset_cons, if_neg]
            · exact ho
            · intro e
              apply hc
              apply Int32.toInt_inj.1
              rw [s_to32 p2 p3]
              exact e.symm
      have hv1 : ps.toList ≠ [] ∨ ∃ w, v1 = .int w := Or.inl (fun e => by rw [e] at hne0; exact absurd hne0 (by decide))
      obtain ⟨w, off, env2, rfl, hE2, h0, ho, hr2⟩ := key _ env _ hall hv1 hE hsx2 hr
      refine sX_step X rfl rfl (st_br (pc' := ((a : Int) + off).toNat) (vs' := vs1) rfl rfl ?_) (s_goto_ok hrun hρ hE2 hy hL hS hrs hH hr2)
      show (if (ps.toList.zip (ps.toList.drop 1)).all (fun (a, next) => a.1 < next.1) = true then jv_jmp a (Op.lookupswitch.offset ps.toList d w.toInt) vs1 else none) = _
      rw [if_pos hsort, ho]
      unfold jv_jmp
      rw [if_pos h0]
    · cases hr
  · cases hk
theorem sr_dec {x : Nat} {u v : Value} (h : s_dec x = some u) (hs : sr ρ x v) : v = u := by
  unfold s_dec at h
  cases h1 : Nat.blt x sM with
  | true =>
    rw [h1, c_t] at h
    cases h
    exact sr_num (b_lt h1) hs
  | false =>
    rw [h1, c_f] at h
    cases h2 : Nat.ble sDBL x with
    | true =>
      rw [h2, c_t] at h
      cases h
      obtain ⟨w, rfl⟩ := sr_dbl h2 hs
      have hx : x = 1208925819614629174706176 + w.toNat := hs
      have e : x - 1208925819614629174706176 = w.toNat := by omega
      show Value.double w = .double (UInt64.ofNat (x - 1208925819614629174706176))
      rw [e, UInt64.ofNat_toNat]
    | false =>
      rw [h2, c_f] at h
      cases h3 : Nat.ble sFLT x with
      | false => rw [h3, c_f] at h; cases h
      | true =>
        rw [h3, c_t] at h
        cases h
        have h4 : 1099511627776 ≤ x := b_le h3
        have h5 : x < 1208925819614629174706176 := b_nle h2
        have h6 : 4294967296 ≤ x := b_nlt h1
        cases v with
        | float w =>
          have hx : x = 1099511627776 + w.toNat := hs
          have e : x - 1099511627776 = w.toNat := by omega
          show Value.float w = .float (UInt32.ofNat (x - 1099511627776))
          rw [e, UInt32.ofNat_toNat]
        | int w =>
          rcases hs with ⟨h7, -⟩ | ⟨k, hk, hk2, -⟩ | hu
          · have : x < 4294967296 := h7
            omega
          · have : x = 17179869184 + k := hk2
            omega
          · have : x = 17179869284 := hu
            omega
        | ref a =>
          have r := sRf_num hs
          omega
        | null =>
          have : x = 17179869286 := hs
          omega
        | double w =>
          have : x = 1208925819614629174706176 + w.toNat := hs
          omega
        | long w => cases hs
        | retAddr w => cases hs
theorem jp_1 {x v : Value} (hi : i = .i2f ∨ i = .i2d ∨ i = .f2d) (h0 : jv_pure i [x] = some [v]) : (∀ r, jv_pure i (x :: r) = some (v :: r)) ∧ sr ρ (s_enc v) v := by
  rcases hi with rfl | rfl | rfl
  · cases x <;> first | (cases h0; done) | skip
    rename_i w
    have h0 : some [Value.float (FP.i2f w)] = some [v] := h0
    cases h0
    exact ⟨fun r => rfl, rfl⟩
  · cases x <;> first | (cases h0; done) | skip
    rename_i w
    have h0 : some [Value.double (FP.i2d w)] = some [v] := h0
    cases h0
    exact ⟨fun r => rfl, rfl⟩
  · cases x <;> first | (cases h0; done) | skip
    rename_i w
    have h0 : (if (FP.f2d w) &&& 0x7fffffffffffffff ≤ 0x7ff0000000000000 then some [Value.double (FP.f2d w)] else none) = some [v] := h0
    split at h0
    · rename_i hc
      cases h0
      exact ⟨fun r => if_pos hc, rfl⟩
    · cases h0
theorem jp_2 {x z v : Value} (hi : i = .fdiv ∨ i = .ddiv ∨ ∃ op, i = .dcmp op) (h0 : jv_pure i [x, z] = some [v]) : (∀ r, jv_pure i (x :: z :: r) = some (v :: r)) ∧ sr ρ (s_enc v) v := by
  rcases hi with rfl | rfl | ⟨op, rfl⟩
  · cases x <;> first | (cases h0; done) | skip
    cases z <;> first | (cases h0; done) | skip
    rename_i w w2
    have h0 : (if (FP.fdiv w2 w) &&& 0x7fffffff ≤ 0x7f800000 then some [Value.float (FP.fdiv w2 w)] else none) = some [v] := h0
    split at h0
    · rename_i hc
      cases h0
      exact ⟨fun r => if_pos hc, rfl⟩
    · cases h0
  · cases x <;> first | (cases h0; done) | skip
    cases z <;> first | (cases h0; done) | skip
    rename_i w w2
    have h0 : (if (FP.ddiv w2 w) &&& 0x7fffffffffffffff ≤ 0x7ff0000000000000 then some [Value.double (FP.ddiv w2 w)] else none) = some [v] := h0
    split at h0
    · rename_i hc
      cases h0
      exact ⟨fun r => if_pos hc, rfl⟩
    · cases h0
  · cases x <;> first | (cases h0; done) | skip
    cases z <;> first | (cases h0; done) | skip
    rename_i w w2
    have h0 : some [Value.int (Op.cmpValue (FP.dcmp w2 w) op)] = some [v] := h0
    cases h0
    exact ⟨fun r => rfl, sr_lit _⟩
theorem jp_0 {v : Value} (hi : (∃ k, i = .fconst k) ∨ ∃ k, i = .dconst k) (h0 : jv_pure i [] = some [v]) : (∀ r, jv_pure i r = some (v :: r)) ∧ sr ρ (s_enc v) v := by
  rcases hi with ⟨k, rfl⟩ | ⟨k, rfl⟩
  · have h0 : (if k = 0 then some [Value.float FP.fconst0] else none) = some [v] := h0
    split at h0
    · rename_i hc
      cases h0
      exact ⟨fun r => if_pos hc, rfl⟩
    · cases h0
  · have h0 : (if k = 0 then some [Value.double FP.dconst0] else none) = some [v] := h0
    split at h0
    · rename_i hc
      cases h0
      exact ⟨fun r => if_pos hc, rfl⟩
    · cases h0
theorem k_pure (hrun : ∀ env f rest H, run env f rest H = true → sSnd env f rest H) (X : sX ρ L xs env rest H gs y pc i len t SL st Lv vs h) {a b : Nat} (hk : sk_pure pc i a b = true) (hr : so_pure run env y (pc + len) t a b SL st rest H = true) : sG gs y pc Lv vs h := by
  obtain ⟨hρ, hE, hy, hcode, hok, hL, hS, hrs, hH⟩ := id X
  have kind : a = pc ∧ jv_isR i = false ∧ jv_isC i = none ∧ ((b = 0 ∧ ((∃ k, i = .fconst k) ∨ ∃ k, i = .dconst k)) ∨ (b = 1 ∧ (i = .i2f ∨ i = .i2d ∨ i = .f2d)) ∨ (b = 2 ∧ (i = .fdiv ∨ i = .ddiv ∨ ∃ op, i = .dcmp op))) := by
    unfold sk_pure at hk
    split at hk
    · obtain ⟨e1, e2⟩ := of_decide_eq_true hk
      exact ⟨e1, rfl, rfl, Or.inl ⟨e2, Or.inl ⟨_, rfl⟩⟩⟩
    · obtain ⟨e1, e2⟩ := of_decide_eq_true hk
      exact ⟨e1, rfl, rfl, Or.inl ⟨e2, Or.inr ⟨_, rfl⟩⟩⟩
    · obtain ⟨e1, e2⟩ := of_decide_eq_true hk
      exact ⟨e1, rfl, rfl, Or.inr (Or.inl ⟨e2, Or.inl rfl⟩)⟩
    · obtain ⟨e1, e2⟩ := of_decide_eq_true hk
      exact ⟨e1, rfl, rfl, Or.inr (Or.inl ⟨e2, Or.inr (Or.inl rfl)⟩)⟩
    · obtain ⟨e1, e2⟩ := of_decide_eq_true hk
      exact ⟨e1, rfl, rfl, Or.inr (Or.inl ⟨e2, Or.inr (Or.inr rfl)⟩)⟩
    · obtain ⟨e1, e2⟩ := of_decide_eq_true hk
      exact ⟨e1, rfl, rfl, Or.inr (Or.inr ⟨e2, Or.inl rfl⟩)⟩
    · obtain ⟨e1, e2⟩ := of_decide_eq_true hk
      exact ⟨e1, rfl, rfl, Or.inr (Or.inr ⟨e2, Or.inr (Or.inl rfl)⟩)⟩
    · obtain ⟨e1, e2⟩ := of_decide_eq_true hk
      exact ⟨e1, rfl, rfl, Or.inr (Or.inr ⟨e2, Or.inr (Or.inr ⟨_, rfl⟩)⟩)⟩
    · cases hk
  obtain ⟨rfl, hR, hC, kind⟩ := kind
  unfold so_pure at hr
  rw [hcode] at hr
  rcases kind with ⟨rfl, hi⟩ | ⟨rfl, hi⟩ | ⟨rfl, hi⟩
  · have hr : (match jv_pure i [] with
      | some [v] => s_frc (s_enc v) (fun v => run env (y, a + len, t, SL, v :: st) rest H)
      | _ => false) = true := hr
    split at hr
    · rename_i v hv
      rw [s_frc_eq] at hr
      obtain ⟨p1, p2⟩ := jp_0 (ρ := ρ) hi hv
      exact sX_go hrun X hR hC (st_pure (p1 vs)) hr hE hL ⟨v, vs, rfl, p2, hS⟩ hH
    · cases hr
  · have hr : (match (generalizing := false) st with
      | x :: r => match s_dec x with
        | some x => match jv_pure i [x] with
          | some [v] => s_frc (s_enc v) (fun v => run env (y, a + len, t, SL, v :: r) rest H)
          | _ => false
        | none => false
      | _ => false) = true := hr
    split at hr
    · rename_i x r
      obtain ⟨v1, vs1, rfl, hsx, hS⟩ := hS
      split at hr
      · rename_i u hu
        cases sr_dec hu hsx
        split at hr
        · rename_i v hv
          rw [s_frc_eq] at hr
          obtain ⟨p1, p2⟩ := jp_1 (ρ := ρ) hi hv
          exact sX_go hrun X hR hC (st_pure (p1 vs1)) hr hE hL ⟨v, vs1, rfl, p2, hS⟩ hH
        · cases hr
      · cases hr
    · cases hr
  · have hr : (match (generalizing := false) st with
      | x :: z :: r => match s_dec x, s_dec z with
        | some x, some z => match jv_pure i [x, z] with
          | some [v] => s_frc (s_enc v) (fun v => run env (y, a + len, t, SL, v :: r) rest H)
          | _ => false
        | _, _ => false
      | _ => false) = true := hr
    split at hr
    · rename_i x z r
      obtain ⟨v1, vs1, rfl, hsx, v2, vs2, rfl, hsz, hS⟩ := hS
      split at hr
      · rename_i u u2 hu hu2
        cases sr_dec hu hsx
        cases sr_dec hu2 hsz
        split at hr
        · rename_i v hv
          rw [s_frc_eq] at hr
          obtain ⟨p1, p2⟩ := jp_2 (ρ := ρ) hi hv
          exact sX_go hrun X hR hC (st_pure (p1 vs2)) hr hE hL ⟨v, vs2, rfl, p2, hS⟩ hH
        · cases hr
      · cases hr
    · cases hr
end SOK3
