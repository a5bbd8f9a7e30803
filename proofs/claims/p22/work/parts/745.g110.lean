-- text 110
/-! QUERIES: full, meanJoy: no answer is a NaN -/
theorem fp_lo {s : Bool} {c : Nat} {q : Int} (hc : c < 2 ^ 53) (hq : q ≤ 971) : FP.Core.encode FP.Core.b64 (.fin s c q) % 9223372036854775808 ≤ 9218868437227405312 ∧ FP.Core.encode FP.Core.b64 (.fin s c q) < 18446744073709551616 := by
  have et : FP.Core.Fmt.tails FP.Core.b64 = 4503599627370496 := by decide +kernel
  have ee : FP.Core.Fmt.exps FP.Core.b64 = 2048 := by decide +kernel
  have em : FP.Core.Fmt.qmin FP.Core.b64 = -1074 := by decide +kernel
  have hc : c < 9007199254740992 := by
    have : (2 : Nat) ^ 53 = 9007199254740992 := by decide
    omega
  unfold FP.Core.encode FP.Core.assemble
  rw [et, ee, em]
  have key : ∀ e t : Nat, e ≤ 2046 → t < 4503599627370496 → ((s.toNat * 2048 + e) * 4503599627370496 + t) % 9223372036854775808 ≤ 9218868437227405312 ∧ (s.toNat * 2048 + e) * 4503599627370496 + t < 18446744073709551616 := by
    intro e t he ht
    cases s
    · show ((0 * 2048 + e) * 4503599627370496 + t) % 9223372036854775808 ≤ 9218868437227405312 ∧ (0 * 2048 + e) * 4503599627370496 + t < 18446744073709551616
      omega
    · show ((1 * 2048 + e) * 4503599627370496 + t) % 9223372036854775808 ≤ 9218868437227405312 ∧ (1 * 2048 + e) * 4503599627370496 + t < 18446744073709551616
      omega
  show (if c < 4503599627370496 then (s.toNat * 2048 + 0) * 4503599627370496 + c else (s.toNat * 2048 + ((q - -1074).toNat + 1)) * 4503599627370496 + (c - 4503599627370496)) % 9223372036854775808 ≤ 9218868437227405312 ∧ (if c < 4503599627370496 then (s.toNat * 2048 + 0) * 4503599627370496 + c else (s.toNat * 2048 + ((q - -1074).toNat + 1)) * 4503599627370496 + (c - 4503599627370496)) < 18446744073709551616
  split
  · exact key 0 c (by omega) (by omega)
  · exact key _ _ (by omega) (by omega)
theorem fp_inf {s : Bool} : FP.Core.encode FP.Core.b64 (.inf s) % 9223372036854775808 ≤ 9218868437227405312 ∧ FP.Core.encode FP.Core.b64 (.inf s) < 18446744073709551616 := by
  cases s <;> decide +kernel
theorem fp_bd {s : Bool} {c : Nat} {q : Int} (hc : c < 2 ^ 53) : FP.Core.encode FP.Core.b64 (FP.Core.bound FP.Core.b64 s c q) % 9223372036854775808 ≤ 9218868437227405312 ∧ FP.Core.encode FP.Core.b64 (FP.Core.bound FP.Core.b64 s c q) < 18446744073709551616 := by
  have ex : FP.Core.Fmt.qmax FP.Core.b64 = 971 := by decide +kernel
  unfold FP.Core.bound
  rw [ex]
  split
  · exact fp_lo hc (by omega)
  · exact fp_inf
theorem fp_rr {s : Bool} {n d : Nat} {e : Int} : FP.Core.encode FP.Core.b64 (FP.Core.roundRatio FP.Core.b64 s n d e) % 9223372036854775808 ≤ 9218868437227405312 ∧ FP.Core.encode FP.Core.b64 (FP.Core.roundRatio FP.Core.b64 s n d e) < 18446744073709551616 := by
  unfold FP.Core.roundRatio
  split
  · exact fp_lo (by decide) (by decide +kernel)
  · unfold FP.Core.roundAt FP.Core.settle
    split
    · rename_i h
      exact fp_bd h
    · exact fp_bd (by decide +kernel)
noncomputable def fpF (d : FP.Core.Datum) : Bool := match d with
  | .fin _ _ _ => true
  | _ => false
noncomputable def fpN (d : FP.Core.Datum) : Bool := match d with
  | .fin _ c _ => Nat.blt 0 c
  | _ => false
theorem fp_q {a b : UInt64} (ha : fpF (FP.Core.decode FP.Core.b64 a.toNat) = true) (hb : fpN (FP.Core.decode FP.Core.b64 b.toNat) = true) : (FP.ddiv a b) &&& 0x7fffffffffffffff ≤ 0x7ff0000000000000 := by
  have key : FP.Core.div FP.Core.b64 a.toNat b.toNat % 9223372036854775808 ≤ 9218868437227405312 ∧ FP.Core.div FP.Core.b64 a.toNat b.toNat < 18446744073709551616 := by
    unfold FP.Core.div
    generalize FP.Core.decode FP.Core.b64 a.toNat = x at ha ⊢
    generalize FP.Core.decode FP.Core.b64 b.toNat = y at hb ⊢
    match x, y, ha, hb with
    | .fin s c q, .fin t d r, _, hb =>
      have hd : ¬ d = 0 := by
        intro z
        rw [z] at hb
        cases hb
      show FP.Core.encode FP.Core.b64 (if d = 0 then (if c = 0 then .nan else .inf (s != t)) else FP.Core.roundRatio FP.Core.b64 (s != t) c d (q - r)) % _ ≤ _ ∧ FP.Core.encode FP.Core.b64 (if d = 0 then (if c = 0 then .nan else .inf (s != t)) else FP.Core.roundRatio FP.Core.b64 (s != t) c d (q - r)) < _
      rw [if_neg hd]
      exact fp_rr
  obtain ⟨k1, k2⟩ := key
  show (UInt64.ofNat (FP.Core.div FP.Core.b64 a.toNat b.toNat)) &&& 0x7fffffffffffffff ≤ 0x7ff0000000000000
  generalize FP.Core.div FP.Core.b64 a.toNat b.toNat = n at k1 k2
  rw [UInt64.le_iff_toNat_le, UInt64.toNat_and]
  have e1 : (UInt64.ofNat n).toNat = n := by
    rw [UInt64.toNat_ofNat']
    exact Nat.mod_eq_of_lt k2
  have e2 : (0x7fffffffffffffff : UInt64).toNat = 2 ^ 63 - 1 := by decide
  have e3 : (0x7ff0000000000000 : UInt64).toNat = 9218868437227405312 := by decide
  rw [e1, e2, e3, Nat.and_two_pow_sub_one_eq_mod]
  have e4 : (2 : Nat) ^ 63 = 9223372036854775808 := by decide
  rw [e4]
  exact k1
theorem fp_s : ∀ a, a < 64 → ∀ b, b < 64 → fpF (FP.Core.decode FP.Core.b64 (FP.i2d (iN (64 * a + b) - 2000)).toNat) = true := by decide +kernel
theorem fp_n : ∀ a, a < 21 → (Nat.beq a 0 || fpN (FP.Core.decode FP.Core.b64 (FP.i2d (iN a)).toNat)) = true := by decide +kernel
theorem fp_sum {x : Int32} (h : -2000 ≤ x ∧ x ≤ 2000) : fpF (FP.Core.decode FP.Core.b64 (FP.i2d x).toNat) = true := by
  obtain ⟨e, l⟩ := iN_of (x := x + 2000) (by have := h.1; have := h.2; grind)
  obtain ⟨m, hm⟩ : ∃ m, (x + 2000).toNatClampNeg = m := ⟨_, rfl⟩
  rw [hm] at e l
  have lm : m ≤ 4000 := by
    have : x + 2000 ≤ 4000 := by have := h.1; have := h.2; grind
    rw [e] at this
    exact (iN_le (m := 4000) l (by decide)).mp this
  have ex : x = iN (64 * (m / 64) + m % 64) - 2000 := by
    rw [Nat.div_add_mod, ← e]
    grind
  rw [ex]
  exact fp_s _ (by omega) _ (Nat.mod_lt _ (by decide))
/-- the mean joy -/
noncomputable def vMj (R : gW) : UInt64 := if R 3 = 0 then FP.dconst0 else FP.ddiv (FP.i2d (fJa R)) (FP.i2d (R 3))
noncomputable def vFl (R : gW) : UInt32 := FP.fdiv (FP.i2f (R 3)) (FP.i2f (4 * R 0))
theorem vMj_ok {R : gW} (h3 : 0 ≤ R 3 ∧ R 3 ≤ 20) (hT : bT R) (hF : bF R) (hz : ¬ R 3 = 0) : (FP.ddiv (FP.i2d (fJa R)) (FP.i2d (R 3))) &&& 0x7fffffffffffffff ≤ 0x7ff0000000000000 := by
  obtain ⟨e, l⟩ := nM_of h3
  refine fp_q (fp_sum (fJa_b h3 hT hF)) ?_
  have := fp_n (nM R) (by omega)
  rw [Bool.or_eq_true] at this
  rw [e]
  refine this.resolve_left (fun z => hz ?_)
  rw [e, Nat.eq_of_beq_eq_true z]
  rfl
noncomputable def flK (v : UInt32) : Bool := decide (v &&& 0x7fffffff ≤ 0x7f800000) && decide ((FP.f2d v) &&& 0x7fffffffffffffff ≤ 0x7ff0000000000000)
theorem fl_all : ∀ n, n < 21 → ∀ m, m < 11 → (Nat.blt m 2 || flK (FP.fdiv (FP.i2f (iN n)) (FP.i2f (iN (4 * m))))) = true := by decide +kernel
theorem vFl_ok {R : gW} (h3 : 0 ≤ R 3 ∧ R 3 ≤ 20) (h0 : 2 ≤ R 0 ∧ R 0 ≤ 10) : (vFl R) &&& 0x7fffffff ≤ 0x7f800000 ∧ (FP.f2d (vFl R)) &&& 0x7fffffffffffffff ≤ 0x7ff0000000000000 := by
  obtain ⟨e, l⟩ := nM_of h3
  obtain ⟨m, m1, m2, em, et⟩ := rw_n h0
  have := fl_all (nM R) (by omega) m (by omega)
  rw [Bool.or_eq_true] at this
  have k := this.resolve_left (fun z => by
    have := Nat.blt_eq.mp z
    omega)
  unfold flK at k
  rw [Bool.and_eq_true] at k
  unfold vFl
  rw [e, em, show (4 : Int32) = iN 4 from rfl, iN_mul]
  exact ⟨of_decide_eq_true k.1, of_decide_eq_true k.2⟩
/-! steps that the trees do not know -/
theorem gq_pure {y pc len : Nat} {i : Instr} {Lv : gL} {st st' : List Value} {σ : gS} {K : gK} (hc : jv_code y pc = some (i, len)) (hy : y < 272) (hR : jv_isR i = false) (hC : jv_isC i = none) (hs : jv_pure i st = some st') (h : gE y (pc + len) Lv st' σ K) : gE y pc Lv st σ K :=
  gA_pure (k := fun Lv st σ => gE y (pc + len) Lv st σ K) ⟨hy, hc, fun _ _ _ h => h⟩ hR hC hs h
theorem gq_ld {y pc len : Nat} {i : Instr} {Lv : gL} {st st' : List Value} {σ : gS} {K : gK} (hc : jv_code y pc = some (i, len)) (hy : y < 272) (hR : jv_isR i = false) (hC : jv_isC i = none) (hp : jv_pure i st = none) (hs : jv_ld i Lv st = some st') (h : gE y (pc + len) Lv st' σ K) : gE y pc Lv st σ K :=
  gE_step hy hc hR hC (fun _ _ h hh => ⟨h, st_ld hp hs, hh⟩) h
theorem gq_br {y pc pc' len : Nat} {i : Instr} {Lv : gL} {st st' : List Value} {σ : gS} {K : gK} (hc : jv_code y pc = some (i, len)) (hy : y < 272) (hR : jv_isR i = false) (hC : jv_isC i = none) (hp : jv_pure i st = none) (hl : jv_ld i Lv st = none) (hs : jv_br i pc st = some (pc', st')) (h : gE y pc' Lv st' σ K) : gE y pc Lv st σ K :=
  gE_step hy hc hR hC (fun _ _ h hh => ⟨h, st_br hp hl hs, hh⟩) h
theorem gq_sto {y pc len : Nat} {i : Instr} {Lv Lv' : gL} {st st' : List Value} {σ : gS} {K : gK} (hc : jv_code y pc = some (i, len)) (hy : y < 272) (hR : jv_isR i = false) (hC : jv_isC i = none) (hp : jv_pure i st = none) (hl : jv_ld i Lv st = none) (hb : jv_br i pc st = none) (hs : jv_sto i Lv st = some (Lv', st')) (h : gE y (pc + len) Lv' st' σ K) : gE y pc Lv st σ K :=
  gE_step hy hc hR hC (fun _ _ h hh => ⟨h, st_sto hp hl hb hs, hh⟩) h
set_option maxRecDepth 20000 in
theorem w141 {σ : gS} {K : gK} (h : ((¬ 0 < (σ 6 4 * 4) → gE 141 26 [some (.ref 0), some (.int (σ 6 4 * 4))] [] σ K) ∧ (0 < (σ 6 4 * 4) → gE 141 19 [some (.ref 0), some (.int (σ 6 4 * 4))] [.int (σ 6 7)] σ K))) : gE 141 0 [some (.ref 0), none] [] σ K :=
  gw_run (cy := 141) (cuts := [19, 26]) (inl := []) (pf := gpen) gpen_ok 400 (by decide) h
set_option maxRecDepth 20000 in
theorem w142 {σ : gS} {K : gK} (h : ((¬ 0 < (σ 6 7) → gE 142 30 [some (.ref 0)] [] σ K) ∧ (0 < (σ 6 7) → (TC σ 6) ∧ gE 142 17 [some (.ref 0)] [.int (fJa (cR σ 6))] σ K))) : gE 142 0 [some (.ref 0)] [] σ K :=
  gw_run (cy := 142) (cuts := [17, 30]) (inl := []) (pf := gpen) gpen_ok 400 (by decide) h
set_option maxRecDepth 20000 in
theorem w251 {σ : gS} {K : gK} (h : (0 ≤ (3 : Int32) ∧ (3 : Int32) < 330) ∧ gE 251 6 [some (.ref 323)] [.int (σ 324 3)] σ K) : gE 251 0 [some (.ref 323)] [] σ K :=
  gw_run (cy := 251) (cuts := [6]) (inl := []) (pf := gpen) gpen_ok 400 (by decide) h
set_option maxRecDepth 20000 in
theorem w252 {σ : gS} {K : gK} (h : (0 ≤ (3 : Int32) ∧ (3 : Int32) < 330) ∧ ((¬ (σ 324 3) = 0 → (0 ≤ σ 324 3 ∧ σ 324 3 ≤ 20) ∧ gE 252 20 [some (.ref 323)] [.int (fJa (σ 324))] σ K) ∧ ((σ 324 3) = 0 → gE 252 9 [some (.ref 323)] [] σ K))) : gE 252 0 [some (.ref 323)] [] σ K :=
  gw_run (cy := 252) (cuts := [9, 20]) (inl := []) (pf := gpen) gpen_ok 400 (by decide) h
set_option maxRecDepth 20000 in
theorem v141 {σ : gS} {K : gK} {s : Int32} {f : UInt32} (h : gE 141 21 [some (.ref 0), some (.int s)] [.int s, .float f] σ K) : gE 141 20 [some (.ref 0), some (.int s)] [.float f] σ K :=
  gw_run (cy := 141) (cuts := [21]) (inl := []) (pf := gpen) gpen_ok 400 (by decide) h
set_option maxRecDepth 20000 in
theorem v142 {σ : gS} {K : gK} {d : UInt64} (h : gE 142 25 [some (.ref 0)] [.int (σ 6 7), .double d] σ K) : gE 142 18 [some (.ref 0)] [.double d] σ K :=
  gw_run (cy := 142) (cuts := [25]) (inl := []) (pf := gpen) gpen_ok 400 (by decide) h
set_option maxRecDepth 20000 in
theorem v251 {σ : gS} {K : gK} {f : UInt32} (h : (0 ≤ (0 : Int32) ∧ (0 : Int32) < 330) ∧ gE 251 15 [some (.ref 323)] [.int (4 * (σ 324 0)), .float f] σ K) : gE 251 7 [some (.ref 323)] [.float f] σ K :=
  gw_run (cy := 251) (cuts := [15]) (inl := []) (pf := gpen) gpen_ok 400 (by decide) h
set_option maxRecDepth 20000 in
theorem v252 {σ : gS} {K : gK} {d : UInt64} (h : (0 ≤ (3 : Int32) ∧ (3 : Int32) < 330) ∧ gE 252 27 [some (.ref 323)] [.int (σ 324 3), .double d] σ K) : gE 252 21 [some (.ref 323)] [.double d] σ K :=
  gw_run (cy := 252) (cuts := [27]) (inl := []) (pf := gpen) gpen_ok 400 (by decide) h
theorem fdiv_p {x v : UInt32} {r : List Value} (h : (FP.fdiv x v) &&& 0x7fffffff ≤ 0x7f800000) : jv_pure .fdiv (.float v :: .float x :: r) = some (.float (FP.fdiv x v) :: r) := if_pos h
theorem ddiv_p {x v : UInt64} {r : List Value} (h : (FP.ddiv x v) &&& 0x7fffffffffffffff ≤ 0x7ff0000000000000) : jv_pure .ddiv (.double v :: .double x :: r) = some (.double (FP.ddiv x v) :: r) := if_pos h
theorem f2d_p {x : UInt32} {r : List Value} (h : (FP.f2d x) &&& 0x7fffffffffffffff ≤ 0x7ff0000000000000) : jv_pure .f2d (.float x :: r) = some (.double (FP.f2d x) :: r) := if_pos h
theorem x141 {σ : gS} {K : gK} (hc : SC σ) (hK : K (some (.float (vFl (cR σ 6)))) σ) : gE 141 0 [some (.ref 0), none] [] σ K := by
  have h3 := hc.1.1
  have h0 := hc.2.2.2
  have ok := (vFl_ok h3 h0).1
  unfold vFl at hK ok
  rw [cR_3, cR_0, Int32.mul_comm] at hK ok
  rw [cR_0] at h0
  refine w141 ⟨fun h => absurd ?_ h, fun _ => gq_pure (show jv_code 141 19 = some (.i2f, 1) from by decide +kernel) (by decide) rfl rfl rfl (v141 (gq_pure (show jv_code 141 21 = some (.i2f, 1) from by decide +kernel) (by decide) rfl rfl rfl (gq_pure (show jv_code 141 22 = some (.fdiv, 1) from by decide +kernel) (by decide) rfl rfl (fdiv_p ok) (gq_br (show jv_code 141 23 = some ((.goto 4), 3) from by decide +kernel) (by decide) rfl rfl rfl rfl rfl (gk_ret (by decide) (show jv_code 141 27 = some (.freturn, 1) from by decide +kernel) rfl hK)))))⟩
  have := h0.1
  have := h0.2
  grind
theorem x251 {σ : gS} {K : gK} (h3 : 0 ≤ σ 324 3 ∧ σ 324 3 ≤ 20) (h0 : 2 ≤ σ 324 0 ∧ σ 324 0 ≤ 10) (hK : K (some (.float (vFl (σ 324)))) σ) : gE 251 0 [some (.ref 323)] [] σ K := by
  have ok := (vFl_ok h3 h0).1
  unfold vFl at hK ok
  exact w251 ⟨by decide, gq_pure (show jv_code 251 6 = some (.i2f, 1) from by decide +kernel) (by decide) rfl rfl rfl (v251 ⟨by decide, gq_pure (show jv_code 251 15 = some (.i2f, 1) from by decide +kernel) (by decide) rfl rfl rfl (gq_pure (show jv_code 251 16 = some (.fdiv, 1) from by decide +kernel) (by decide) rfl rfl (fdiv_p ok) (gk_ret (by decide) (show jv_code 251 17 = some (.freturn, 1) from by decide +kernel) rfl hK))⟩)⟩
theorem x142 {σ : gS} {K : gK} (hc : SC σ) (hF : bF (cR σ 6)) (hK : K (some (.double (vMj (cR σ 6)))) σ) : gE 142 0 [some (.ref 0)] [] σ K := by
  have h3 := hc.1.1
  unfold vMj at hK
  refine w142 ⟨fun h => ?_, fun h => ⟨hc.1, ?_⟩⟩
  · rw [← cR_3 σ 6] at h
    have z : cR σ 6 3 = 0 := by
      have := h3.1
      grind
    rw [if_pos z] at hK
    exact gq_pure (show jv_code 142 30 = some ((.dconst 0), 1) from by decide +kernel) (by decide) rfl rfl rfl (gk_ret (by decide) (show jv_code 142 31 = some (.dreturn, 1) from by decide +kernel) rfl hK)
  · rw [← cR_3 σ 6] at h
    have z : ¬ cR σ 6 3 = 0 := fun e => by rw [e] at h; exact absurd h (by decide)
    have ok := vMj_ok h3 hc.1.2.1 hF z
    rw [if_neg z] at hK
    rw [cR_3] at ok hK
    exact gq_pure (show jv_code 142 17 = some (.i2d, 1) from by decide +kernel) (by decide) rfl rfl rfl (v142 (gq_pure (show jv_code 142 25 = some (.i2d, 1) from by decide +kernel) (by decide) rfl rfl rfl (gq_pure (show jv_code 142 26 = some (.ddiv, 1) from by decide +kernel) (by decide) rfl rfl (ddiv_p ok) (gq_br (show jv_code 142 27 = some ((.goto 4), 3) from by decide +kernel) (by decide) rfl rfl rfl rfl rfl (gk_ret (by decide) (show jv_code 142 31 = some (.dreturn, 1) from by decide +kernel) rfl hK)))))
theorem x252 {σ : gS} {K : gK} (h3 : 0 ≤ σ 324 3 ∧ σ 324 3 ≤ 20) (hT : bT (σ 324)) (hF : bF (σ 324)) (hK : K (some (.double (vMj (σ 324)))) σ) : gE 252 0 [some (.ref 323)] [] σ K := by
  unfold vMj at hK
  refine w252 ⟨by decide, fun z => ⟨h3, ?_⟩, fun z => ?_⟩
  · have ok := vMj_ok h3 hT hF z
    rw [if_neg z] at hK
    exact gq_pure (show jv_code 252 20 = some (.i2d, 1) from by decide +kernel) (by decide) rfl rfl rfl (v252 ⟨by decide, gq_pure (show jv_code 252 27 = some (.i2d, 1) from by decide +kernel) (by decide) rfl rfl rfl (gq_pure (show jv_code 252 28 = some (.ddiv, 1) from by decide +kernel) (by decide) rfl rfl (ddiv_p ok) (gk_ret (by decide) (show jv_code 252 29 = some (.dreturn, 1) from by decide +kernel) rfl hK))⟩)
  · rw [if_pos z] at hK
    exact gq_pure (show jv_code 252 9 = some ((.dconst 0), 1) from by decide +kernel) (by decide) rfl rfl rfl (gq_br (show jv_code 252 10 = some ((.goto 19), 3) from by decide +kernel) (by decide) rfl rfl rfl rfl rfl (gk_ret (by decide) (show jv_code 252 29 = some (.dreturn, 1) from by decide +kernel) rfl hK))
