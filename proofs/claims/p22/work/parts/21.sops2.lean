/-! THE S MACHINE STANDS FOR THE J MACHINE: arrays, making, calls, ends -/
section SOK2
variable {run : sRun} {ρ : Nat → Int32} {L : Nat} {xs : Nat → Int32} {env : sE} {rest : List sF} {H : sH} {gs : List jF} {y pc : Nat} {i : Instr} {len : Nat} {t : List sI} {SL st : List Nat} {Lv : List (Option Value)} {vs : List Value} {h : jv_H}
theorem k_bald (hrun : ∀ env f rest H, run env f rest H = true → sSnd env f rest H) (X : sX ρ L xs env rest H gs y pc i len t SL st Lv vs h) (hk : i = .baload) (hr : so_bald run env y (pc + len) t SL st rest H = true) : sG gs y pc Lv vs h := by
  subst hk
  obtain ⟨hρ, hE, -, -, -, hL, hS, -, hH⟩ := id X
  unfold so_bald at hr
  split at hr
  · rename_i j p r
    obtain ⟨v0, vs0, rfl, hsj, v1, vs1, rfl, hsp, hS⟩ := hS
    obtain ⟨q, hr⟩ := s_c1 hr
    obtain ⟨q1, q⟩ := s_and q
    obtain ⟨q2, q3⟩ := s_and q
    obtain ⟨u, hu, rfl, hlt, hlt2, hc⟩ := s_cell hH q1 q2 hsp
    rw [← hu] at q3 hr
    obtain ⟨n, f, hx, hlen, hf⟩ := sCk_arr hc q3 (by decide)
    have hsj2 := sr_res hE hsj
    obtain ⟨w, rfl⟩ := s_conc_int hr hsj2
    obtain ⟨z, env', hE', hz, rfl, hr⟩ := s_conc_ok hr hE hsj2
    obtain ⟨q4, hr⟩ := s_c1 hr
    obtain ⟨q5, q6⟩ := s_and q4
    obtain ⟨z0, z1⟩ := s_nat q6
    have hzn : z < n := by rw [← hlen]; exact b_lt q5
    rw [s_frc_eq] at hr
    refine sX_go hrun X rfl rfl (st_heap (vs' := .int (f z) :: vs1) (h1 := h) rfl rfl rfl rfl ?_) hr hE' hL ⟨_, vs1, rfl, hf z hzn, hS⟩ hH
    show (if u < h.2.1 then match h.1 u with
      | .inl (ty, n, f) => if ty = 1 ∧ ¬ (Int32.ofNat z < 0 ∨ n ≤ (Int32.ofNat z).toNatClampNeg) then some (.int (f (Int32.ofNat z).toNatClampNeg) :: vs1, h) else none
      | _ => none else none) = _
    rw [if_pos hlt, hx]
    show (if (1 : Nat) = 1 ∧ ¬ (Int32.ofNat z < 0 ∨ n ≤ (Int32.ofNat z).toNatClampNeg) then some (.int (f (Int32.ofNat z).toNatClampNeg) :: vs1, h) else none) = _
    rw [z1, if_pos ⟨rfl, fun e => e.elim z0 (fun e => by omega)⟩]
  · cases hr
theorem k_aald (hrun : ∀ env f rest H, run env f rest H = true → sSnd env f rest H) (X : sX ρ L xs env rest H gs y pc i len t SL st Lv vs h) (hk : i = .aaload) (hr : so_aald run env y (pc + len) t SL st rest H = true) : sG gs y pc Lv vs h := by
  subst hk
  obtain ⟨hρ, hE, -, -, -, hL, hS, -, hH⟩ := id X
  unfold so_aald at hr
  split at hr
  · rename_i j p r
    obtain ⟨v0, vs0, rfl, hsj, v1, vs1, rfl, hsp, hS⟩ := hS
    obtain ⟨q, hr⟩ := s_c1 hr
    obtain ⟨q1, q⟩ := s_and q
    obtain ⟨q2, q3⟩ := s_and q
    obtain ⟨u, hu, rfl, hlt, hlt2, hc⟩ := s_cell hH q1 q2 hsp
    rw [← hu] at q3 hr
    have key : ∃ (d n : Nat) (f : Nat → Option Nat), (d = 2 ∨ d = 3) ∧ h.1 u = .inr (.inl (d, n, f)) ∧ (H.1 u).2.1 = n ∧ ∀ i, i < n → sRo ((H.1 u).2.2 i) (f i) := by
      rcases s_or q3 with q3 | q3
      · obtain ⟨n, f, e1, e2, e3⟩ := sCk_rarr hc q3 (Or.inl rfl)
        exact ⟨2, n, f, Or.inl rfl, e1, e2, e3⟩
      · obtain ⟨n, f, e1, e2, e3⟩ := sCk_rarr hc q3 (Or.inr rfl)
        exact ⟨3, n, f, Or.inr rfl, e1, e2, e3⟩
    obtain ⟨d, n, f, hd, hx, hlen, hf⟩ := key
    have hsj2 := sr_res hE hsj
    obtain ⟨w, rfl⟩ := s_conc_int hr hsj2
    obtain ⟨z, env', hE', hz, rfl, hr⟩ := s_conc_ok hr hE hsj2
    obtain ⟨q4, hr⟩ := s_c1 hr
    obtain ⟨q5, q6⟩ := s_and q4
    obtain ⟨z0, z1⟩ := s_nat q6
    have hzn : z < n := by rw [← hlen]; exact b_lt q5
    rw [s_frc_eq] at hr
    obtain ⟨q7, hr⟩ := s_c1 hr
    have hfz := hf z hzn
    cases hfo : f z with
    | none =>
      rw [hfo] at hfz
      have e : (H.1 u).2.2 z = sNUL := hfz
      rw [e] at q7
      cases q7
    | some b =>
      rw [hfo] at hfz
      refine sX_go hrun X rfl rfl (st_heap (vs' := .ref b :: vs1) (h1 := h) rfl rfl rfl rfl ?_) hr hE' hL ⟨_, vs1, rfl, hfz, hS⟩ hH
      show (if u < h.2.1 then match h.1 u with
        | .inr (.inl (ty, n, f)) => if (ty = 2 ∨ ty = 3) ∧ ¬ (Int32.ofNat z < 0 ∨ n ≤ (Int32.ofNat z).toNatClampNeg) then (match f (Int32.ofNat z).toNatClampNeg with
          | some b => some (.ref b :: vs1, h)
          | none => none) else none
        | _ => none else none) = _
      rw [if_pos hlt, hx]
      show (if (d = 2 ∨ d = 3) ∧ ¬ (Int32.ofNat z < 0 ∨ n ≤ (Int32.ofNat z).toNatClampNeg) then (match f (Int32.ofNat z).toNatClampNeg with
          | some b => some (.ref b :: vs1, h)
          | none => none) else none) = _
      rw [z1, if_pos ⟨hd, fun e => e.elim z0 (fun e => by omega)⟩, hfo]
  · cases hr
theorem k_iast (hrun : ∀ env f rest H, run env f rest H = true → sSnd env f rest H) (X : sX ρ L xs env rest H gs y pc i len t SL st Lv vs h) (hk : i = .iastore) (hr : so_ast run env y (pc + len) t SL st rest H 0 s_isI = true) : sG gs y pc Lv vs h := by
  subst hk
  obtain ⟨hρ, hE, -, -, -, hL, hS, -, hH⟩ := id X
  unfold so_ast at hr
  split at hr
  · rename_i x j p r
    obtain ⟨v9, vs9, rfl, hsx, v0, vs0, rfl, hsj, v1, vs1, rfl, hsp, hS⟩ := hS
    obtain ⟨q, hr⟩ := s_c1 hr
    obtain ⟨q0, q⟩ := s_and q
    obtain ⟨q1, q⟩ := s_and q
    obtain ⟨q2, q3⟩ := s_and q
    obtain ⟨wx, rfl⟩ := sr_int q0 hsx
    obtain ⟨u, hu, rfl, hlt, hlt2, hc⟩ := s_cell hH q1 q2 hsp
    rw [← hu] at q3 hr
    obtain ⟨n, f, hx, hlen, hf⟩ := sCk_arr hc q3 (by decide)
    have hsj2 := sr_res hE hsj
    obtain ⟨w, rfl⟩ := s_conc_int hr hsj2
    obtain ⟨z, env', hE', hz, rfl, hr⟩ := s_conc_ok hr hE hsj2
    obtain ⟨q4, hr⟩ := s_c1 hr
    obtain ⟨q5, q6⟩ := s_and q4
    obtain ⟨z0, z1⟩ := s_nat q6
    have hzn : z < n := by rw [← hlen]; exact b_lt q5
    have hcell : sCk ρ (0, (H.1 u).2.1, s_up (H.1 u).2.2 z x) (.inl (0, n, upd f z wx)) := by
      refine ⟨rfl, by decide, hlen, fun k hk => ?_⟩
      show sr ρ (cond (Nat.beq k z) x ((H.1 u).2.2 k)) (.int (if k = z then wx else f k))
      cases hq : Nat.beq k z with
      | true => rw [if_pos (b_eq hq)]; exact hsx
      | false => rw [if_neg (b_ne hq)]; exact hf k hk
    refine sX_go hrun X rfl rfl (st_heap (vs' := vs1) (h1 := jv_put h u (.inl (0, n, upd f z wx))) rfl rfl rfl rfl ?_) hr hE' hL hS (sHk_put hH hlt2 hcell)
    show (if u < h.2.1 then match h.1 u with
      | .inl (ty, n, f) => if ty = 0 ∧ ¬ (Int32.ofNat z < 0 ∨ n ≤ (Int32.ofNat z).toNatClampNeg) then some (vs1, jv_put h u (.inl (ty, n, upd f (Int32.ofNat z).toNatClampNeg wx))) else none
      | _ => none else none) = _
    rw [if_pos hlt, hx]
    show (if (0 : Nat) = 0 ∧ ¬ (Int32.ofNat z < 0 ∨ n ≤ (Int32.ofNat z).toNatClampNeg) then some (vs1, jv_put h u (.inl (0, n, upd f (Int32.ofNat z).toNatClampNeg wx))) else none) = _
    rw [z1, if_pos ⟨rfl, fun e => e.elim z0 (fun e => by omega)⟩]
  · cases hr
theorem s_01 {x : Nat} {v : Value} (hx : s_is01 x = true) (h : sr ρ x v) : ∃ w : Int32, v = .int w ∧ (w = 0 ∨ w = 1) := by
  have h1 := b_lt hx
  refine ⟨_, sr_num (Nat.lt_trans h1 (by decide)) h, ?_⟩
  match x, h1 with
  | 0, _ => exact Or.inl rfl
  | 1, _ => exact Or.inr rfl
theorem k_bast (hrun : ∀ env f rest H, run env f rest H = true → sSnd env f rest H) (X : sX ρ L xs env rest H gs y pc i len t SL st Lv vs h) (hk : i = .bastore) (hr : so_ast run env y (pc + len) t SL st rest H 1 s_is01 = true) : sG gs y pc Lv vs h := by
  subst hk
  obtain ⟨hρ, hE, -, -, -, hL, hS, -, hH⟩ := id X
  unfold so_ast at hr
  split at hr
  · rename_i x j p r
    obtain ⟨v9, vs9, rfl, hsx, v0, vs0, rfl, hsj, v1, vs1, rfl, hsp, hS⟩ := hS
    obtain ⟨q, hr⟩ := s_c1 hr
    obtain ⟨q0, q⟩ := s_and q
    obtain ⟨q1, q⟩ := s_and q
    obtain ⟨q2, q3⟩ := s_and q
    obtain ⟨wx, rfl, hw01⟩ := s_01 q0 hsx
    have hnar : vp_nar .boolean wx = wx := by rcases hw01 with rfl | rfl <;> decide
    obtain ⟨u, hu, rfl, hlt, hlt2, hc⟩ := s_cell hH q1 q2 hsp
    rw [← hu] at q3 hr
    obtain ⟨n, f, hx, hlen, hf⟩ := sCk_arr hc q3 (by decide)
    have hsj2 := sr_res hE hsj
    obtain ⟨w, rfl⟩ := s_conc_int hr hsj2
    obtain ⟨z, env', hE', hz, rfl, hr⟩ := s_conc_ok hr hE hsj2
    obtain ⟨q4, hr⟩ := s_c1 hr
    obtain ⟨q5, q6⟩ := s_and q4
    obtain ⟨z0, z1⟩ := s_nat q6
    have hzn : z < n := by rw [← hlen]; exact b_lt q5
    have hcell : sCk ρ (1, (H.1 u).2.1, s_up (H.1 u).2.2 z x) (.inl (1, n, upd f z wx)) := by
      refine ⟨rfl, by decide, hlen, fun k hk => ?_⟩
      show sr ρ (cond (Nat.beq k z) x ((H.1 u).2.2 k)) (.int (if k = z then wx else f k))
      cases hq : Nat.beq k z with
      | true => rw [if_pos (b_eq hq)]; exact hsx
      | false => rw [if_neg (b_ne hq)]; exact hf k hk
    refine sX_go hrun X rfl rfl (st_heap (vs' := vs1) (h1 := jv_put h u (.inl (1, n, upd f z wx))) rfl rfl rfl rfl ?_) hr hE' hL hS (sHk_put hH hlt2 hcell)
    show (if u < h.2.1 ∧ vp_nar .boolean wx = wx then match h.1 u with
      | .inl (ty, n, f) => if ty = 1 ∧ ¬ (Int32.ofNat z < 0 ∨ n ≤ (Int32.ofNat z).toNatClampNeg) then some (vs1, jv_put h u (.inl (ty, n, upd f (Int32.ofNat z).toNatClampNeg wx))) else none
      | _ => none else none) = _
    rw [if_pos ⟨hlt, hnar⟩, hx]
    show (if (1 : Nat) = 1 ∧ ¬ (Int32.ofNat z < 0 ∨ n ≤ (Int32.ofNat z).toNatClampNeg) then some (vs1, jv_put h u (.inl (1, n, upd f (Int32.ofNat z).toNatClampNeg wx))) else none) = _
    rw [z1, if_pos ⟨rfl, fun e => e.elim z0 (fun e => by omega)⟩]
  · cases hr
theorem k_aast (hrun : ∀ env f rest H, run env f rest H = true → sSnd env f rest H) (X : sX ρ L xs env rest H gs y pc i len t SL st Lv vs h) (hk : i = .aastore) (hr : so_aast run env y (pc + len) t SL st rest H = true) : sG gs y pc Lv vs h := by
  subst hk
  obtain ⟨hρ, hE, -, -, -, hL, hS, -, hH⟩ := id X
  unfold so_aast at hr
  split at hr
  · rename_i x j p r
    obtain ⟨v9, vs9, rfl, hsx, v0, vs0, rfl, hsj, v1, vs1, rfl, hsp, hS⟩ := hS
    obtain ⟨q, hr⟩ := s_c1 hr
    obtain ⟨q0, q⟩ := s_and q
    obtain ⟨q9, q⟩ := s_and q
    obtain ⟨q1, q⟩ := s_and q
    obtain ⟨q2, q3⟩ := s_and q
    obtain ⟨b, hb, rfl, hblt, hblt2, hbc⟩ := s_cell hH q0 q9 hsx
    obtain ⟨u, hu, rfl, hlt, hlt2, hc⟩ := s_cell hH q1 q2 hsp
    rw [← hu] at q3 hr
    rw [← hb] at q3
    have key : ∃ (d d2 n : Nat) (f : Nat → Option Nat) (fs : List Value), ((d = 2 ∧ d2 = 6) ∨ (d = 3 ∧ d2 = 5)) ∧ h.1 u = .inr (.inl (d, n, f)) ∧ (H.1 u).1 = d ∧ (H.1 u).2.1 = n ∧ (∀ i, i < n → sRo ((H.1 u).2.2 i) (f i)) ∧ h.1 b = .inr (.inr (d2, fs)) := by
      rcases s_or q3 with q3 | q3
      · obtain ⟨q4, q5⟩ := s_and q3
        obtain ⟨n, f, e1, e2, e3⟩ := sCk_rarr hc q4 (Or.inl rfl)
        obtain ⟨fs, e4, -⟩ := sCk_obj (d := 6) hbc q5
        exact ⟨2, 6, n, f, fs, Or.inl ⟨rfl, rfl⟩, e1, b_eq q4, e2, e3, e4⟩
      · obtain ⟨q4, q5⟩ := s_and q3
        obtain ⟨n, f, e1, e2, e3⟩ := sCk_rarr hc q4 (Or.inr rfl)
        obtain ⟨fs, e4, -⟩ := sCk_obj (d := 5) hbc q5
        exact ⟨3, 5, n, f, fs, Or.inr ⟨rfl, rfl⟩, e1, b_eq q4, e2, e3, e4⟩
    obtain ⟨d, d2, n, f, fs, hd, hx, hk1, hlen, hf, hxb⟩ := key
    have hsj2 := sr_res hE hsj
    obtain ⟨w, rfl⟩ := s_conc_int hr hsj2
    obtain ⟨z, env', hE', hz, rfl, hr⟩ := s_conc_ok hr hE hsj2
    obtain ⟨q4, hr⟩ := s_c1 hr
    obtain ⟨q5, q6⟩ := s_and q4
    obtain ⟨z0, z1⟩ := s_nat q6
    have hzn : z < n := by rw [← hlen]; exact b_lt q5
    have hcell : sCk ρ ((H.1 u).1, (H.1 u).2.1, s_up (H.1 u).2.2 z x) (.inr (.inl (d, n, va_up f z (some b)))) := by
      refine ⟨hk1, by rcases hd with ⟨e, -⟩ | ⟨e, -⟩ <;> omega, hlen, fun k hk => ?_⟩
      show sRo (cond (Nat.beq k z) x ((H.1 u).2.2 k)) (if k = z then some b else f k)
      cases hq : Nat.beq k z with
      | true => rw [if_pos (b_eq hq)]; exact hsx
      | false => rw [if_neg (b_ne hq)]; exact hf k hk
    refine sX_go hrun X rfl rfl (st_heap (vs' := vs1) (h1 := jv_put h u (.inr (.inl (d, n, va_up f z (some b))))) rfl rfl rfl rfl ?_) hr hE' hL hS (sHk_put hH hlt2 hcell)
    show (if u < h.2.1 ∧ b < h.2.1 then match h.1 u, h.1 b with
      | .inr (.inl (ty, n, f)), .inr (.inr (d, _)) => if ((ty = 2 ∧ d = 6) ∨ (ty = 3 ∧ d = 5)) ∧ ¬ (Int32.ofNat z < 0 ∨ n ≤ (Int32.ofNat z).toNatClampNeg) then some (vs1, jv_put h u (.inr (.inl (ty, n, va_up f (Int32.ofNat z).toNatClampNeg (some b))))) else none
      | _, _ => none else none) = _
    rw [if_pos ⟨hlt, hblt⟩, hx, hxb]
    show (if ((d = 2 ∧ d2 = 6) ∨ (d = 3 ∧ d2 = 5)) ∧ ¬ (Int32.ofNat z < 0 ∨ n ≤ (Int32.ofNat z).toNatClampNeg) then some (vs1, jv_put h u (.inr (.inl (d, n, va_up f (Int32.ofNat z).toNatClampNeg (some b))))) else none) = _
    rw [z1, if_pos ⟨hd, fun e => e.elim z0 (fun e => by omega)⟩]
  · cases hr
theorem k_alen (hrun : ∀ env f rest H, run env f rest H = true → sSnd env f rest H) (X : sX ρ L xs env rest H gs y pc i len t SL st Lv vs h) (hk : i = .arraylength) (hr : so_alen run env y (pc + len) t SL st rest H = true) : sG gs y pc Lv vs h := by
  subst hk
  obtain ⟨hρ, hE, -, -, -, hL, hS, -, hH⟩ := id X
  unfold so_alen at hr
  split at hr
  · rename_i p r
    obtain ⟨v1, vs1, rfl, hsp, hS⟩ := hS
    rcases s_c2 hr with ⟨q, hr⟩ | ⟨-, hr⟩
    · obtain ⟨qa, qb⟩ := s_and q
      have hp := b_eq qa
      have how : sow y = 10 := by
        rw [b_eq qb]
        rfl
      have hR : s_isR p = true := by rw [hp]; rfl
      have hpr := (sr_ref hR hsp).1
      have hpr2 : p - sREF = 1000000 := by rw [hp]; rfl
      rw [hpr2] at hpr
      subst hpr
      refine sX_go hrun X rfl rfl (st_heap (vs' := .int (Int32.ofNat L) :: vs1) (h1 := h) rfl rfl rfl rfl ?_) hr hE hL ⟨_, vs1, rfl, Or.inr (Or.inl ⟨6, by decide, rfl, hρ.2.2.1.symm⟩), hS⟩ hH
      show (if (1000000 : Nat) < h.2.1 ∨ ((1000000 : Nat) = 1000000 ∧ sow y = 10) then match h.1 1000000 with
        | .inl (ty, n, _) => if ty < 2 ∧ (1000000 : Nat) < h.2.1 ∨ ty = 9 ∧ (1000000 : Nat) = 1000000 then some (.int (Int32.ofNat n) :: vs1, h) else none
        | .inr (.inl (ty, n, _)) => if (ty = 2 ∨ ty = 3) ∧ (1000000 : Nat) < h.2.1 then some (.int (Int32.ofNat n) :: vs1, h) else none
        | _ => none else none) = _
      rw [if_pos (Or.inr ⟨rfl, how⟩), hH.2.2.2.1]
      show (if (9 : Nat) < 2 ∧ (1000000 : Nat) < h.2.1 ∨ (9 : Nat) = 9 ∧ (1000000 : Nat) = 1000000 then some (.int (Int32.ofNat L) :: vs1, h) else none) = _
      rw [if_pos (Or.inr ⟨rfl, rfl⟩)]
    · obtain ⟨q, hr⟩ := s_c1 hr
      obtain ⟨q1, q⟩ := s_and q
      obtain ⟨q2, q⟩ := s_and q
      obtain ⟨q3, q4⟩ := s_and q
      obtain ⟨u, hu, rfl, hlt, hlt2, hc⟩ := s_cell hH q1 q2 hsp
      rw [← hu] at q3 q4 hr
      rw [s_frc_eq] at hr
      have q3 := b_lt q3
      have q4 := b_lt q4
      refine sX_go hrun X rfl rfl (st_heap (vs' := .int (Int32.ofNat (H.1 u).2.1) :: vs1) (h1 := h) rfl rfl rfl rfl ?_) hr hE hL ⟨_, vs1, rfl, Or.inl ⟨Nat.lt_trans q4 (by decide), rfl⟩, hS⟩ hH
      show (if u < h.2.1 ∨ (u = 1000000 ∧ sow y = 10) then match h.1 u with
        | .inl (ty, n, _) => if ty < 2 ∧ u < h.2.1 ∨ ty = 9 ∧ u = 1000000 then some (.int (Int32.ofNat n) :: vs1, h) else none
        | .inr (.inl (ty, n, _)) => if (ty = 2 ∨ ty = 3) ∧ u < h.2.1 then some (.int (Int32.ofNat n) :: vs1, h) else none
        | _ => none else none) = _
      rw [if_pos (Or.inl hlt)]
      generalize hx : h.1 u = cx at hc
      match cx, hc with
      | .inl (ty, n, f), hc =>
        obtain ⟨e1, e2, e3, -⟩ := hc
        show (if ty < 2 ∧ u < h.2.1 ∨ ty = 9 ∧ u = 1000000 then some (.int (Int32.ofNat n) :: vs1, h) else none) = _
        rw [if_pos (Or.inl ⟨e2, hlt⟩), e3]
      | .inr (.inl (ty, n, f)), hc =>
        obtain ⟨e1, e2, e3, -⟩ := hc
        show (if (ty = 2 ∨ ty = 3) ∧ u < h.2.1 then some (.int (Int32.ofNat n) :: vs1, h) else none) = _
        rw [if_pos ⟨e2, hlt⟩, e3]
      | .inr (.inr (d, fs)), hc =>
        obtain ⟨e1, -⟩ := hc
        omega
  · cases hr
theorem s_ref_new (hH : sHk ρ L xs H h) : sr ρ (H.2.1 + sREF) (.ref h.2.1) := by
  have h1 := hH.1
  have h3 := hH.2.2.1
  refine ⟨?_, ?_⟩
  · show H.2.1 + 4294967296 = 4294967296 + h.2.1
    omega
  · show @LT.lt Nat _ h.2.1 4294967296
    omega
theorem k_new (hrun : ∀ env f rest H, run env f rest H = true → sSnd env f rest H) (X : sX ρ L xs env rest H gs y pc i len t SL st Lv vs h) {a : Nat} (hk : sk_new y i a = true) (hr : so_new run env y (pc + len) t a SL st rest H = true) : sG gs y pc Lv vs h := by
  obtain ⟨hρ, hE, -, -, -, hL, hS, -, hH⟩ := id X
  unfold sk_new at hk
  split at hk
  · rename_i idx
    obtain ⟨hn, ha⟩ := of_decide_eq_true hk
    unfold so_new at hr
    obtain ⟨q, hr⟩ := s_c1 hr
    rw [s_frc_eq] at hr
    have hcell : sCk ρ (16 + a, jv_fn a, fun j => s_def (jv_fty a j)) (.inr (.inr (a, (List.range (jv_fn a)).map (fun k => defaultValue (jv_fty a k))))) := by
      refine ⟨rfl, by simp, fun j v hj => ?_⟩
      rw [List.getElem?_map] at hj
      have hj2 : j < jv_fn a := by
        rcases Nat.lt_or_ge j (jv_fn a) with q | q
        · exact q
        · rw [List.getElem?_eq_none (by simpa using q)] at hj; cases hj
      rw [List.getElem?_range hj2] at hj
      cases hj
      show sr ρ (s_def (jv_fty a j)) (defaultValue (jv_fty a j))
      have hcls : ∀ c, c < 9 → ∀ k, k < jv_fn c → (jv_fty c k = .int ∨ jv_fty c k = .boolean ∨ (defaultValue (jv_fty c k) = .null)) := by decide +kernel
      rcases hcls a ha j hj2 with e | e | e
      · rw [e]; exact Or.inl ⟨by decide, rfl⟩
      · rw [e]; exact Or.inl ⟨by decide, rfl⟩
      · unfold s_def
        rw [e]
        exact rfl
    refine sX_go hrun X rfl rfl (st_heap (vs' := .ref h.2.1 :: vs) (h1 := jv_add h (.inr (.inr (a, (List.range (jv_fn a)).map (fun k => defaultValue (jv_fty a k))))) (jv_fn a)) rfl rfl rfl rfl ?_) hr hE hL ⟨_, vs, rfl, s_ref_new hH, hS⟩ (sHk_add hH (b_lt q) hcell)
    show (match jv_new (sow y) idx with
      | some c => some (Value.ref h.2.1 :: vs, jv_add h (.inr (.inr (c, (List.range (jv_fn c)).map (fun k => defaultValue (jv_fty c k))))) (jv_fn c))
      | none => none) = _
    rw [hn]
  · cases hk
theorem s_nz {z : Nat} (hz : Nat.ble z 100000 = true) : ¬ Int32.ofNat z < 0 ∧ (Int32.ofNat z).toNatClampNeg = z ∧ z ≤ 100000 := by
  have h1 := b_le hz
  exact ⟨sI_pos (by omega), sI_clamp (by omega), h1⟩
theorem k_newa (hrun : ∀ env f rest H, run env f rest H = true → sSnd env f rest H) (X : sX ρ L xs env rest H gs y pc i len t SL st Lv vs h) {a : Nat} (hk : sk_newa i a = true) (hr : so_newa run env y (pc + len) t a SL st rest H 0 = true) : sG gs y pc Lv vs h := by
  obtain ⟨hρ, hE, -, -, -, hL, hS, -, hH⟩ := id X
  unfold so_newa at hr
  split at hr
  · rename_i n r
    obtain ⟨v1, vs1, rfl, hsn, hS⟩ := hS
    obtain ⟨q, hr⟩ := s_c1 hr
    have hsn2 := sr_res hE hsn
    obtain ⟨w, rfl⟩ := s_conc_int hr hsn2
    obtain ⟨z, env', hE', hz, rfl, hr⟩ := s_conc_ok hr hE hsn2
    obtain ⟨q2, hr⟩ := s_c1 hr
    rw [s_frc_eq] at hr
    obtain ⟨z0, z1, z2⟩ := s_nz q2
    have hcell : ∀ k : Nat, k < 2 → sCk ρ (k, z, fun _ => 0) (.inl (k, z, fun _ => 0)) := fun k hk => ⟨rfl, hk, rfl, fun j _ => Or.inl ⟨(by decide : (0 : Nat) < sM), rfl⟩⟩
    unfold sk_newa at hk
    split at hk
    · have ha := of_decide_eq_true hk
      subst ha
      refine sX_go hrun X rfl rfl (st_heap (vs' := .ref h.2.1 :: vs1) (h1 := jv_add h (.inl (0, z, fun _ => 0)) z) rfl rfl rfl rfl ?_) hr hE' hL ⟨_, vs1, rfl, s_ref_new hH, hS⟩ (sHk_add hH (b_lt q) (hcell 0 (by decide)))
      show (if ¬ Int32.ofNat z < 0 ∧ (Int32.ofNat z).toNatClampNeg ≤ 100000 then some (Value.ref h.2.1 :: vs1, jv_add h (.inl (0, (Int32.ofNat z).toNatClampNeg, fun _ => 0)) (Int32.ofNat z).toNatClampNeg) else none) = _
      rw [z1, if_pos ⟨z0, z2⟩]
    · have ha := of_decide_eq_true hk
      subst ha
      refine sX_go hrun X rfl rfl (st_heap (vs' := .ref h.2.1 :: vs1) (h1 := jv_add h (.inl (1, z, fun _ => 0)) z) rfl rfl rfl rfl ?_) hr hE' hL ⟨_, vs1, rfl, s_ref_new hH, hS⟩ (sHk_add hH (b_lt q) (hcell 1 (by decide)))
      show (if ¬ Int32.ofNat z < 0 ∧ (Int32.ofNat z).toNatClampNeg ≤ 100000 then some (Value.ref h.2.1 :: vs1, jv_add h (.inl (1, (Int32.ofNat z).toNatClampNeg, fun _ => 0)) (Int32.ofNat z).toNatClampNeg) else none) = _
      rw [z1, if_pos ⟨z0, z2⟩]
    · cases hk
  · cases hr
theorem k_anew (hrun : ∀ env f rest H, run env f rest H = true → sSnd env f rest H) (X : sX ρ L xs env rest H gs y pc i len t SL st Lv vs h) {a : Nat} (hk : sk_anew y i a = true) (hr : so_newa run env y (pc + len) t a SL st rest H sNUL = true) : sG gs y pc Lv vs h := by
  obtain ⟨hρ, hE, -, -, -, hL, hS, -, hH⟩ := id X
  unfold so_newa at hr
  split at hr
  · rename_i n r
    obtain ⟨v1, vs1, rfl, hsn, hS⟩ := hS
    obtain ⟨q, hr⟩ := s_c1 hr
    have hsn2 := sr_res hE hsn
    obtain ⟨w, rfl⟩ := s_conc_int hr hsn2
    obtain ⟨z, env', hE', hz, rfl, hr⟩ := s_conc_ok hr hE hsn2
    obtain ⟨q2, hr⟩ := s_c1 hr
    rw [s_frc_eq] at hr
    obtain ⟨z0, z1, z2⟩ := s_nz q2
    have hcell : ∀ k : Nat, k = 2 ∨ k = 3 → sCk ρ (k, z, fun _ => sNUL) (.inr (.inl (k, z, fun _ => none))) := fun k hk => ⟨rfl, hk, rfl, fun j _ => rfl⟩
    unfold sk_anew at hk
    split at hk
    · rename_i idx
      rcases of_decide_eq_true hk with ⟨hn, rfl⟩ | ⟨hn, rfl⟩
      · refine sX_go hrun X rfl rfl (st_heap (vs' := .ref h.2.1 :: vs1) (h1 := jv_add h (.inr (.inl (2, z, fun _ => none))) z) rfl rfl rfl rfl ?_) hr hE' hL ⟨_, vs1, rfl, s_ref_new hH, hS⟩ (sHk_add hH (b_lt q) (hcell 2 (Or.inl rfl)))
        show (if ¬ Int32.ofNat z < 0 ∧ (Int32.ofNat z).toNatClampNeg ≤ 100000 then (match jv_new (sow y) idx with
          | some c => if c = 6 then some (Value.ref h.2.1 :: vs1, jv_add h (.inr (.inl (2, (Int32.ofNat z).toNatClampNeg, fun _ => none))) (Int32.ofNat z).toNatClampNeg)
            else if c = 5 then some (Value.ref h.2.1 :: vs1, jv_add h (.inr (.inl (3, (Int32.ofNat z).toNatClampNeg, fun _ => none))) (Int32.ofNat z).toNatClampNeg) else none
          | none => none) else none) = _
        rw [z1, if_pos ⟨z0, z2⟩, hn]
        rfl
      · refine sX_go hrun X rfl rfl (st_heap (vs' := .ref h.2.1 :: vs1) (h1 := jv_add h (.inr (.inl (3, z, fun _ => none))) z) rfl rfl rfl rfl ?_) hr hE' hL ⟨_, vs1, rfl, s_ref_new hH, hS⟩ (sHk_add hH (b_lt q) (hcell 3 (Or.inr rfl)))
        show (if ¬ Int32.ofNat z < 0 ∧ (Int32.ofNat z).toNatClampNeg ≤ 100000 then (match jv_new (sow y) idx with
          | some c => if c = 6 then some (Value.ref h.2.1 :: vs1, jv_add h (.inr (.inl (2, (Int32.ofNat z).toNatClampNeg, fun _ => none))) (Int32.ofNat z).toNatClampNeg)
            else if c = 5 then some (Value.ref h.2.1 :: vs1, jv_add h (.inr (.inl (3, (Int32.ofNat z).toNatClampNeg, fun _ => none))) (Int32.ofNat z).toNatClampNeg) else none
          | none => none) else none) = _
        rw [z1, if_pos ⟨z0, z2⟩, hn]
        rfl
    · cases hk
  · cases hr
end SOK2
