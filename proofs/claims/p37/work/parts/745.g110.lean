section
-- text 110
/-! QUERIES: full, meanJoy: no answer is a NaN -/
theorem fp_lo {s : Bool} {c : Nat} {q : Int} (hc : c < 2 ^ 53) (hq : q ≤ 971) : FP.Core.encode FP.Core.b64 (.fin s c q) % 9223372036854775808 ≤ 9218868437227405312 ∧ FP.Core.encode FP.Core.b64 (.fin s c q) < 18446744073709551616 := by
  have et : FP.Core.Fmt.tails FP.Core.b64 = 4503599627370496 := by decide +kernel
  have ee : FP.Core.Fmt.exps FP.Core.b64 = 2048 := by decide +kernel
  have em : FP.Core.Fmt.qmin FP.Core.b64 = -1074 := by decide +kernel
  have hc : c < 9007199254740992 := by
    have : (2 : Nat) ^ 53 = 9007199254740992 := by decide
    omega
  unfold FP.Core.encode FP.Core.assemble
  rw [et, ee, em]
  have key : ∀ e t : Nat, e ≤ 2046 → t < 4503599627370496 → ((s.toNat * 2048 + e) * 4503599627370496 + t) % 9223372036854775808 ≤ 9218868437227405312 ∧ (s.toNat * 2048 + e) * 4503599627370496 + t < 18446744073709551616 := by
    intro e t he ht
    cases s
    · show ((0 * 2048 + e) * 4503599627370496 + t) % 9223372036854775808 ≤ 9218868437227405312 ∧ (0 * 2048 + e) * 4503599627370496 + t < 18446744073709551616
      omega
    · show ((1 * 2048 + e) * 4503599627370496 + t) % 9223372036854775808 ≤ 9218868437227405312 ∧ (1 * 2048 + e) * 4503599627370496 + t < 18446744073709551616
      omega
  show (if c < 4503599627370496 then (s.toNat * 2048 + 0) * 4503599627370496 + c else (s.toNat * 2048 + ((q - -1074).toNat + 1)) * 4503599627370496 + (c - 4503599627370496)) % 9223372036854775808 ≤ 9218868437227405312 ∧ (if c < 4503599627370496 then (s.toNat * 2048 + 0) * 4503599627370496 + c else (s.toNat * 2048 + ((q - -1074).toNat + 1)) * 4503599627370496 + (c - 4503599627370496)) < 18446744073709551616
  split
  · exact key 0 c (by omega) (by omega)
  · exact key _ _ (by omega) (by omega)
theorem fp_inf {s : Bool} : FP.Core.encode FP.Core.b64 (.inf s) % 9223372036854775808 ≤ 9218868437227405312 ∧ FP.Core.encode FP.Core.b64 (.inf s) < 18446744073709551616 := by
  cases s <;> decide +kernel
theorem fp_bd {s : Bool} {c : Nat} {q : Int} (hc : c < 2 ^ 53) : FP.Core.encode FP.Core.b64 (FP.Core.bound FP.Core.b64 s c q) % 9223372036854775808 ≤ 9218868437227405312 ∧ FP.Core.encode FP.Core.b64 (FP.Core.bound FP.Core.b64 s c q) < 18446744073709551616 := by
  have ex : FP.Core.Fmt.qmax FP.Core.b64 = 971 := by decide +kernel
  unfold FP.Core.bound
  rw [ex]
  split
  · exact fp_lo hc (by omega)
  · exact fp_inf
theorem fp_rr {s : Bool} {n d : Nat} {e : Int} : FP.Core.encode FP.Core.b64 (FP.Core.roundRatio FP.Core.b64 s n d e) % 9223372036854775808 ≤ 9218868437227405312 ∧ FP.Core.encode FP.Core.b64 (FP.Core.roundRatio FP.Core.b64 s n d e) < 18446744073709551616 := by
  unfold FP.Core.roundRatio
  split
  · exact fp_lo (by decide) (by decide +kernel)
  · unfold FP.Core.roundAt FP.Core.settle
    split
    · rename_i h
      exact fp_bd h
    · exact fp_bd (by decide +kernel)
noncomputable def fpF (d : FP.Core.Datum) : Bool := match d with
  | .fin _ _ _ => true
  | _ => false
noncomputable def fpN (d : FP.Core.Datum) : Bool := match d with
  | .fin _ c _ => Nat.blt 0 c
  | _ => false
theorem fp_q {a b : UInt64} (ha : fpF (FP.Core.decode FP.Core.b64 a.toNat) = true) (hb : fpN (FP.Core.decode FP.Core.b64 b.toNat) = true) : (FP.ddiv a b) &&& 0x7fffffffffffffff ≤ 0x7ff0000000000000 := by
  have key : FP.Core.div FP.Core.b64 a.toNat b.toNat % 9223372036854775808 ≤ 9218868437227405312 ∧ FP.Core.div FP.Core.b64 a.toNat b.toNat < 18446744073709551616 := by
    unfold FP.Core.div
    generalize FP.Core.decode FP.Core.b64 a.toNat = x at ha ⊢
    generalize FP.Core.decode FP.Core.b64 b.toNat = y at hb ⊢
    match x, y, ha, hb with
    | .fin s c q, .fin t d r, _, hb =>
      have hd : ¬ d = 0 := by
        intro z
        rw [z] at hb
        cases hb
      show FP.Core.encode FP.Core.b64 (if d = 0 then (if c = 0 then .nan else .inf (s != t)) else FP.Core.roundRatio FP.Core.b64 (s != t) c d (q - r)) % _ ≤ _ ∧ FP.Core.encode FP.Core.b64 (if d = 0 then (if c = 0 then .nan else .inf (s != t)) else FP.Core.roundRatio FP.Core.b64 (s != t) c d (q - r)) < _
      rw [if_neg hd]
      exact fp_rr
  obtain ⟨k1, k2⟩ := key
  show (UInt64.ofNat (FP.Core.div FP.Core.b64 a.toNat b.toNat)) &&& 0x7fffffffffffffff ≤ 0x7ff0000000000000
  generalize FP.Core.div FP.Core.b64 a.toNat b.toNat = n at k1 k2
  rw [UInt64.le_iff_toNat_le, UInt64.toNat_and]
  have e1 : (UInt64.ofNat n).toNat = n := by
    rw [UInt64.toNat_ofNat']
    exact Nat.mod_eq_of_lt k2
  have e2 : (0x7fffffffffffffff : UInt64).toNat = 2 ^ 63 - 1 := by decide
  have e3 : (0x7ff0000000000000 : UInt64).toNat = 9218868437227405312 := by decide
  rw [e1, e2, e3, Nat.and_two_pow_sub_one_eq_mod]
  have e4 : (2 : Nat) ^ 63 = 9223372036854775808 := by decide
  rw [e4]
  exact k1
theorem fp_s : ∀ a, a < 64 → ∀ b, b < 64 → fpF (FP.Core.decode FP.Core.b64 (FP.i2d (iN (64 * a + b) - 2000)).toNat) = true := by decide +kernel
theorem fp_n : ∀ a, a < 21 → (Nat.beq a 0 || fpN (FP.Core.decode FP.Core.b64 (FP.i2d (iN a)).toNat)) = true := by decide +kernel
theorem fp_sum {x : Int32} (h : -2000 ≤ x ∧ x ≤ 2000) : fpF (FP.Core.decode FP.Core.b64 (FP.i2d x).toNat) = true := by
  obtain ⟨e, l⟩ := iN_of (x := x + 2000) (by have := h.1; have := h.2; grind)
  obtain ⟨m, hm⟩ : ∃ m, (x + 2000).toNatClampNeg = m := ⟨_, rfl⟩
  rw [hm] at e l
  have lm : m ≤ 4000 := by
    have : x + 2000 ≤ 4000 := by have := h.1; have := h.2; grind
    rw [e] at this
    exact (iN_le (m := 4000) l (by decide)).mp this
  have ex : x = iN (64 * (m / 64) + m % 64) - 2000 := by
    rw [Nat.div_add_mod, ← e]
    grind
  rw [ex]
  exact fp_s _ (by omega) _ (Nat.mod_lt _ (by decide))
/-- the mean joy -/
noncomputable def vMj (R : gW) : UInt64 := if R 3 = 0 then FP.dconst0 else FP.ddiv (FP.i2d (fJa R)) (FP.i2d (R 3))
noncomputable def vFl (R : gW) : UInt32 := FP.fdiv (FP.i2f (R 3)) (FP.i2f (4 * R 0))
theorem vMj_ok {R : gW} (h3 : 0 ≤ R 3 ∧ R 3 ≤ 20) (hT : bT R) (hF : bF R) (hz : ¬ R 3 = 0) : (FP.ddiv (FP.i2d (fJa R)) (FP.i2d (R 3))) &&& 0x7fffffffffffffff ≤ 0x7ff0000000000000 := by
  obtain ⟨e, l⟩ := nM_of h3
  refine fp_q (fp_sum (fJa_b h3 hT hF)) ?_
  have := fp_n (nM R) (by omega)
  rw [Bool.or_eq_true] at this
  rw [e]
  refine this.resolve_left (fun z => hz ?_)
  rw [e, Nat.eq_of_beq_eq_true z]
  rfl
noncomputable def flK (v : UInt32) : Bool := decide (v &&& 0x7fffffff ≤ 0x7f800000) && decide ((FP.f2d v) &&& 0x7fffffffffffffff ≤ 0x7ff0000000000000)
theorem fl_all : ∀ n, n < 21 → ∀ m, m < 11 → (Nat.blt m 2 || flK (FP.fdiv (FP.i2f (iN n)) (FP.i2f (iN (4 * m))))) = true := by decide +kernel
theorem vFl_ok {R : gW} (h3 : 0 ≤ R 3 ∧ R 3 ≤ 20) (h0 : 2 ≤ R 0 ∧ R 0 ≤ 10) : (vFl R) &&& 0x7fffffff ≤ 0x7f800000 ∧ (FP.f2d (vFl R)) &&& 0x7fffffffffffffff ≤ 0x7ff0000000000000 := by
  obtain ⟨e, l⟩ := nM_of h3
  obtain ⟨m, m1, m2, em, et⟩ := rw_n h0
  have := fl_all (nM R) (by omega) m (by omega)
  rw [Bool.or_eq_true] at this
  have k := this.resolve_left (fun z => by
    have := Nat.blt_eq.mp z
    omega)
  unfold flK at k
  rw [Bool.and_eq_true] at k
  unfold vFl
  rw [e, em, show (4 : Int32) = iN 4 from rfl, iN_mul]
  exact ⟨of_decide_eq_true k.1, of_decide_eq_true k.2⟩
/-! steps that the trees do not know -/
theorem gq_pure {y pc len : Nat} {i : Instr} {Lv : gL} {st st' : List Value} {σ : gS} {K : gK} (hc : jv_code y pc = some (i, len)) (hy : y < 272) (hR : jv_isR i = false) (hC : jv_isC i = none) (hs : jv_pure i st = some st') (h : gE y (pc + len) Lv st' σ K) : gE y pc Lv st σ K :=
  gA_pure (k := fun Lv st σ => gE y (pc + len) Lv st σ K) ⟨hy, hc, fun _ _ _ h => h⟩ hR hC hs h
theorem gq_ld {y pc len : Nat} {i : Instr} {Lv : gL} {st st' : List Value} {σ : gS} {K : gK} (hc : jv_code y pc = some (i, len)) (hy : y < 272) (hR : jv_isR i = false) (hC : jv_isC i = none) (hp : jv_pure i st = none) (hs : jv_ld i Lv st = some st') (h : gE y (pc + len) Lv st' σ K) : gE y pc Lv st σ K :=
  gE_step hy hc hR hC (fun _ _ h hh => ⟨h, st_ld hp hs, hh⟩) h
theorem gq_br {y pc pc' len : Nat} {i : Instr} {Lv : gL} {st st' : List Value} {σ : gS} {K : gK} (hc : jv_code y pc = some (i, len)) (hy : y < 272) (hR : jv_isR i = false) (hC : jv_isC i = none) (hp : jv_pure i st = none) (hl : jv_ld i Lv st = none) (hs : jv_br i pc st = some (pc', st')) (h : gE y pc' Lv st' σ K) : gE y pc Lv st σ K :=
  gE_step hy hc hR hC (fun _ _ h hh => ⟨h, st_br hp hl hs, hh⟩) h
theorem gq_sto {y pc len : Nat} {i : Instr} {Lv Lv' : gL} {st st' : List Value} {σ : gS} {K : gK} (hc : jv_code y pc = some (i, len)) (hy : y < 272) (hR : jv_isR i = false) (hC : jv_isC i = none) (hp : jv_pure i st = none) (hl : jv_ld i Lv st = none) (hb : jv_br i pc st = none) (hs : jv_sto i Lv st = some (Lv', st')) (h : gE y (pc + len) Lv' st' σ K) : gE y pc Lv st σ K :=
  gE_step hy hc hR hC (fun _ _ h hh => ⟨h, st_sto hp hl hb hs, hh⟩) h
set_option maxRecDepth 20000 in
theorem w141 {σ : gS} {K : gK} (h : ((¬ 0 < (σ 6 4 * 4) → gE 141 26 [some (.ref 0), some (.int (σ 6 4 * 4))] [] σ K) ∧ (0 < (σ 6 4 * 4) → gE 141 19 [some (.ref 0), some (.int (σ 6 4 * 4))] [.int (σ 6 7)] σ K))) : gE 141 0 [some (.ref 0), none] [] σ K :=
  gw_run (cy := 141) (cuts := [19, 26]) (inl := []) (pf := gpen) gpen_ok 400 (by decide) h
set_option maxRecDepth 20000 in
theorem w142 {σ : gS} {K : gK} (h : ((¬ 0 < (σ 6 7) → gE 142 30 [some (.ref 0)] [] σ K) ∧ (0 < (σ 6 7) → (TC σ 6) ∧ gE 142 17 [some (.ref 0)] [.int (fJa (cR σ 6))] σ K))) : gE 142 0 [some (.ref 0)] [] σ K :=
  gw_run (cy := 142) (cuts := [17, 30]) (inl := []) (pf := gpen) gpen_ok 400 (by decide) h
set_option maxRecDepth 20000 in
theorem w251 {σ : gS} {K : gK} (h : (0 ≤ (3 : Int32) ∧ (3 : Int32) < 330) ∧ gE 251 6 [some (.ref 323)] [.int (σ 324 3)] σ K) : gE 251 0 [some (.ref 323)] [] σ K :=
  gw_run (cy := 251) (cuts := [6]) (inl := []) (pf := gpen) gpen_ok 400 (by decide) h
set_option maxRecDepth 20000 in
theorem w252 {σ : gS} {K : gK} (h : (0 ≤ (3 : Int32) ∧ (3 : Int32) < 330) ∧ ((¬ (σ 324 3) = 0 → (0 ≤ σ 324 3 ∧ σ 324 3 ≤ 20) ∧ gE 252 20 [some (.ref 323)] [.int (fJa (σ 324))] σ K) ∧ ((σ 324 3) = 0 → gE 252 9 [some (.ref 323)] [] σ K))) : gE 252 0 [some (.ref 323)] [] σ K :=
  gw_run (cy := 252) (cuts := [9, 20]) (inl := []) (pf := gpen) gpen_ok 400 (by decide) h
set_option maxRecDepth 20000 in
theorem v141 {σ : gS} {K : gK} {s : Int32} {f : UInt32} (h : gE 141 21 [some (.ref 0), some (.int s)] [.int s, .float f] σ K) : gE 141 20 [some (.ref 0), some (.int s)] [.float f] σ K :=
  gw_run (cy := 141) (cuts := [21]) (inl := []) (pf := gpen) gpen_ok 400 (by decide) h
set_option maxRecDepth 20000 in
theorem v142 {σ : gS} {K : gK} {d : UInt64} (h : gE 142 25 [some (.ref 0)] [.int (σ 6 7), .double d] σ K) : gE 142 18 [some (.ref 0)] [.double d] σ K :=
  gw_run (cy := 142) (cuts := [25]) (inl := []) (pf := gpen) gpen_ok 400 (by decide) h
set_option maxRecDepth 20000 in
theorem v251 {σ : gS} {K : gK} {f : UInt32} (h : (0 ≤ (0 : Int32) ∧ (0 : Int32) < 330) ∧ gE 251 15 [some (.ref 323)] [.int (4 * (σ 324 0)), .float f] σ K) : gE 251 7 [some (.ref 323)] [.float f] σ K :=
  gw_run (cy := 251) (cuts := [15]) (inl := []) (pf := gpen) gpen_ok 400 (by decide) h
set_option maxRecDepth 20000 in
theorem v252 {σ : gS} {K : gK} {d : UInt64} (h : (0 ≤ (3 : Int32) ∧ (3 : Int32) < 330) ∧ gE 252 27 [some (.ref 323)] [.int (σ 324 3), .double d] σ K) : gE 252 21 [some (.ref 323)] [.double d] σ K :=
  gw_run (cy := 252) (cuts := [27]) (inl := []) (pf := gpen) gpen_ok 400 (by decide) h
theorem fdiv_p {x v : UInt32} {r : List Value} (h : (FP.fdiv x v) &&& 0x7fffffff ≤ 0x7f800000) : jv_pure .fdiv (.float v :: .float x :: r) = some (.float (FP.fdiv x v) :: r) := if_pos h
theorem ddiv_p {x v : UInt64} {r : List Value} (h : (FP.ddiv x v) &&& 0x7fffffffffffffff ≤ 0x7ff0000000000000) : jv_pure .ddiv (.double v :: .double x :: r) = some (.double (FP.ddiv x v) :: r) := if_pos h
theorem f2d_p {x : UInt32} {r : List Value} (h : (FP.f2d x) &&& 0x7fffffffffffffff ≤ 0x7ff0000000000000) : jv_pure .f2d (.float x :: r) = some (.double (FP.f2d x) :: r) := if_pos h
theorem x141 {σ : gS} {K : gK} (hc : SC σ) (hK : K (some (.float (vFl (cR σ 6)))) σ) : gE 141 0 [some (.ref 0), none] [] σ K := by
  have h3 := hc.1.1
  have h0 := hc.2.2.2
  have ok := (vFl_ok h3 h0).1
  unfold vFl at hK ok
  rw [cR_3, cR_0, Int32.mul_comm] at hK ok
  rw [cR_0] at h0
  refine w141 ⟨fun h => absurd ?_ h, fun _ => gq_pure (show jv_code 141 19 = some (.i2f, 1) from by decide +kernel) (by decide) rfl rfl rfl (v141 (gq_pure (show jv_code 141 21 = some (.i2f, 1) from by decide +kernel) (by decide) rfl rfl rfl (gq_pure (show jv_code 141 22 = some (.fdiv, 1) from by decide +kernel) (by decide) rfl rfl (fdiv_p ok) (gq_br (show jv_code 141 23 = some ((.goto 4), 3) from by decide +kernel) (by decide) rfl rfl rfl rfl rfl (gk_ret (by decide) (show jv_code 141 27 = some (.freturn, 1) from by decide +kernel) rfl hK)))))⟩
  have := h0.1
  have := h0.2
  grind
theorem x251 {σ : gS} {K : gK} (h3 : 0 ≤ σ 324 3 ∧ σ 324 3 ≤ 20) (h0 : 2 ≤ σ 324 0 ∧ σ 324 0 ≤ 10) (hK : K (some (.float (vFl (σ 324)))) σ) : gE 251 0 [some (.ref 323)] [] σ K := by
  have ok := (vFl_ok h3 h0).1
  unfold vFl at hK ok
  exact w251 ⟨by decide, gq_pure (show jv_code 251 6 = some (.i2f, 1) from by decide +kernel) (by decide) rfl rfl rfl (v251 ⟨by decide, gq_pure (show jv_code 251 15 = some (.i2f, 1) from by decide +kernel) (by decide) rfl rfl rfl (gq_pure (show jv_code 251 16 = some (.fdiv, 1) from by decide +kernel) (by decide) rfl rfl (fdiv_p ok) (gk_ret (by decide) (show jv_code 251 17 = some (.freturn, 1) from by decide +kernel) rfl hK))⟩)⟩
theorem x142 {σ : gS} {K : gK} (hc : SC σ) (hF : bF (cR σ 6)) (hK : K (some (.double (vMj (cR σ 6)))) σ) : gE 142 0 [some (.ref 0)] [] σ K := by
  have h3 := hc.1.1
  unfold vMj at hK
  refine w142 ⟨fun h => ?_, fun h => ⟨hc.1, ?_⟩⟩
  · rw [← cR_3 σ 6] at h
    have z : cR σ 6 3 = 0 := by
      have := h3.1
      grind
    rw [if_pos z] at hK
    exact gq_pure (show jv_code 142 30 = some ((.dconst 0), 1) from by decide +kernel) (by decide) rfl rfl rfl (gk_ret (by decide) (show jv_code 142 31 = some (.dreturn, 1) from by decide +kernel) rfl hK)
  · rw [← cR_3 σ 6] at h
    have z : ¬ cR σ 6 3 = 0 := fun e => by rw [e] at h; exact absurd h (by decide)
    have ok := vMj_ok h3 hc.1.2.1 hF z
    rw [if_neg z] at hK
    rw [cR_3] at ok hK
    exact gq_pure (show jv_code 142 17 = some (.i2d, 1) from by decide +kernel) (by decide) rfl rfl rfl (v142 (gq_pure (show jv_code 142 25 = some (.i2d, 1) from by decide +kernel) (by decide) rfl rfl rfl (gq_pure (show jv_code 142 26 = some (.ddiv, 1) from by decide +kernel) (by decide) rfl rfl (ddiv_p ok) (gq_br (show jv_code 142 27 = some ((.goto 4), 3) from by decide +kernel) (by decide) rfl rfl rfl rfl rfl (gk_ret (by decide) (show jv_code 142 31 = some (.dreturn, 1) from by decide +kernel) rfl hK)))))
theorem x252 {σ : gS} {K : gK} (h3 : 0 ≤ σ 324 3 ∧ σ 324 3 ≤ 20) (hT : bT (σ 324)) (hF : bF (σ 324)) (hK : K (some (.double (vMj (σ 324)))) σ) : gE 252 0 [some (.ref 323)] [] σ K := by
  unfold vMj at hK
  refine w252 ⟨by decide, fun z => ⟨h3, ?_⟩, fun z => ?_⟩
  · have ok := vMj_ok h3 hT hF z
    rw [if_neg z] at hK
    exact gq_pure (show jv_code 252 20 = some (.i2d, 1) from by decide +kernel) (by decide) rfl rfl rfl (v252 ⟨by decide, gq_pure (show jv_code 252 27 = some (.i2d, 1) from by decide +kernel) (by decide) rfl rfl rfl (gq_pure (show jv_code 252 28 = some (.ddiv, 1) from by decide +kernel) (by decide) rfl rfl (ddiv_p ok) (gk_ret (by decide) (show jv_code 252 29 = some (.dreturn, 1) from by decide +kernel) rfl hK))⟩)
  · rw [if_pos z] at hK
    exact gq_pure (show jv_code 252 9 = some ((.dconst 0), 1) from by decide +kernel) (by decide) rfl rfl rfl (gq_br (show jv_code 252 10 = some ((.goto 19), 3) from by decide +kernel) (by decide) rfl rfl rfl rfl rfl (gk_ret (by decide) (show jv_code 252 29 = some (.dreturn, 1) from by decide +kernel) rfl hK))
end
section
-- text 111
/-! THE LAW: what holds between two calls, and pairs of calls that change the train -/
noncomputable def GI (n : Nat) (σ : gS) : Prop := ∃ B, 1980 ≤ B ∧ B ≤ 1980 + 99 * n ∧ GR B σ ∧ TB σ
noncomputable def Sc (σ τ : gS) : Prop := τ 1000000 = σ 1000000 ∧ τ 1000001 = σ 1000001
theorem Sc_r (σ : gS) : Sc σ σ := ⟨rfl, rfl⟩
theorem Sc_t {σ τ ρ : gS} (h : Sc σ τ) (h2 : Sc τ ρ) : Sc σ ρ := ⟨h2.1.trans h.1, h2.2.trans h.2⟩
theorem Sc_hi {σ τ : gS} (h : ∀ q, 323 ≤ q → τ q = σ q) : Sc σ τ := ⟨h _ (by decide), h _ (by decide)⟩
theorem GI_up {n : Nat} {σ : gS} (h : GI n σ) : GI (n + 1) σ := by
  obtain ⟨B, h1, h2, h3, h4⟩ := h
  exact ⟨B, h1, by omega, h3, h4⟩
theorem TB_of {σ τ : gS} (h : TB σ) (h8 : τ 323 8 = σ 323 8) (h30 : τ 330 = σ 330) : TB τ := by
  unfold TB at *
  rw [h8, h30]
  exact h
theorem TB_0 {τ : gS} (h8 : τ 323 8 = 0) : TB τ := by
  intro i hi
  rw [h8] at hi
  exact absurd hi (Nat.not_lt_zero _)
theorem hOp_far {σ : gS} {g : Prop} [Decidable g] {N : gW} {q : Nat} (h1 : ¬ q = 323) (h2 : ¬ q = 324) (h3 : ¬ q = 327) : hOp σ g N q = σ q := by
  unfold hOp
  split
  · rw [grow_ne h2, hKe_ne h1 h3]
  · rfl
theorem hOp_8 {σ : gS} {g : Prop} [Decidable g] {N : gW} : hOp σ g N 323 8 = σ 323 8 := by
  unfold hOp
  split
  · rw [grow_ne (by decide)]
    unfold hKe
    rw [grow_at, rup_ne (by decide)]
  · rfl
theorem TB_op {σ ρ : gS} {g : Prop} [Decidable g] {N : gW} (h : TB σ) (hi : ∀ q, 323 ≤ q → ρ q = σ q) : TB (hOp ρ g N) := TB_of h (by rw [hOp_8, hi 323 (by decide)]) (by rw [hOp_far (by decide) (by decide) (by decide), hi 330 (by decide)])
theorem Sc_op {σ ρ : gS} {g : Prop} [Decidable g] {N : gW} (hi : ∀ q, 323 ≤ q → ρ q = σ q) : Sc σ (hOp ρ g N) := ⟨by rw [hOp_far (by decide) (by decide) (by decide), hi _ (by decide)], by rw [hOp_far (by decide) (by decide) (by decide), hi _ (by decide)]⟩
theorem hOp_iff {σ : gS} {g1 g2 : Prop} [Decidable g1] [Decidable g2] {N : gW} (h : g1 ↔ g2) : hOp σ g1 N = hOp σ g2 N := by
  unfold hOp
  by_cases q : g2
  · rw [if_pos q, if_pos (h.mpr q)]
  · rw [if_neg q, if_neg (fun z => q (h.mp z))]
theorem GR_7 {B : Nat} {σ : gS} (h : GR B σ) : 0 ≤ σ 6 7 ∧ σ 6 7 ≤ 20 := SC_7 (GR_SC h).1
theorem clS_hi {σ : gS} {a b x : Int32} {q : Nat} (hc : SC σ) (hq : 323 ≤ q) : clS σ a b x q = σ q := by
  unfold clS
  split
  · rename_i g
    have na := isN_of hc.1.1 g.1.1.1.1
    have nb := isN_of hc.1.1 g.1.1.1.2
    rw [cDsw_far (by omega) (n20 na.1) (n20 nb.1), cRem_far (Or.inr hq) (SC_7 hc)]
  · rfl
theorem clM_hi {σ : gS} {a x : Int32} {q : Nat} (hc : SC σ) (hq : 323 ≤ q) : clM σ a x q = σ q := by
  unfold clM
  split
  · rename_i g
    have na := isN_of hc.1.1 g.1.1
    rw [cDmo_far (by omega) (n20 na.1), cRem_far (Or.inr hq) (SC_7 hc)]
  · rfl
theorem clR_hi {σ : gS} {a b c : Int32} {q : Nat} (hc : SC σ) (hq : 323 ≤ q) : clR σ a b c q = σ q := by
  unfold clR
  split
  · rename_i g
    have na := isN_of hc.1.1 g.1.1.1.1.1
    have nb := isN_of hc.1.1 g.1.1.1.1.2
    have nc := isN_of hc.1.1 g.1.1.2.1.2
    rw [cDri_far (by omega) (n20 na.1) (n20 nb.1) (n20 nc.1), cRem_far (Or.inr hq) (SC_7 hc)]
  · rfl
theorem clF_hi {σ : gS} {f : Int32} {q : Nat} (hc : SC σ) (hq : 323 ≤ q) : clF σ f q = σ q := by
  unfold clF
  split
  · rw [cAdd_far (by omega) (by omega)]
    funext j
    rw [gup_ne (by omega), cRem_far (Or.inr hq) (SC_7 hc)]
  · rfl
theorem clE_hi {σ : gS} {t w v : Int32} {q : Nat} (hc : SC σ) (hq : 323 ≤ q) : clE σ t w v q = σ q := by
  unfold clE
  split
  · rename_i g
    have na := n20 (isN_of hc.1.1 g.1.1.1).1
    rw [cAdd_far (by omega) (by omega)]
    funext j
    rw [gup_ne (by omega), cRem_far (Or.inr hq) (SC_7 hc)]
  · rfl
theorem clT_hi {σ : gS} {q : Nat} (hc : SC σ) (ht : TC (cCo σ 32 6) 32) (hq : 323 ≤ q) : clT σ q = σ q := by
  have h7 := SC_7 hc
  have n7 := (c20 h7).2
  obtain ⟨t1, l1, f1⟩ := cSt_tc (d := 99) ht
  unfold clT
  obtain ⟨x, hx⟩ : ∃ x, cSt 99 (cCo σ 32 6) = x := ⟨_, rfl⟩
  rw [hx] at t1 f1 ⊢
  have fs : ∀ q, q < 32 ∨ 58 ≤ q → x.2 q = σ q := fun q hq => by
    rw [f1 q (by omega)]
    funext j
    exact cCo_far (by omega) n7
  split
  · exact fs q (by omega)
  · have x7 : 0 ≤ x.2 6 7 ∧ x.2 6 7 ≤ 20 := by rw [fs 6 (by decide)]; exact h7
    have x32 : 0 ≤ x.2 32 7 ∧ x.2 32 7 ≤ 20 := by have := t1.1; rw [cR_3] at this; exact this
    have n32 : (cRem x.2 32 7).toNatClampNeg ≤ 20 := by rw [cRem_far (Or.inl (by decide)) x7]; exact (c20 x32).2
    unfold cStl
    rw [cAdd_far (by omega) (by omega)]
    funext j
    rw [gup_ne (by omega), cCo_far (by omega) n32, cRem_far (Or.inr hq) x7, fs q (by omega)]
/-- a pair of calls: the class's row, which hands on a row for the reference's call -/
noncomputable def Pr (n : Nat) (σ : gS) (z2 : Nat) (L2 : gL) (Q : Int32 → gS → Prop) : Prop := ∀ x1 s1, Sc σ s1 → (∀ Q2 : Int32 → gS → Prop, (∀ τ, GI (n + 1) τ → Sc σ τ → Q2 x1 τ) → gXi z2 L2 s1 Q2) → Q x1 s1
theorem pr_swap {n : Nat} {σ : gS} {Q : Int32 → gS → Prop} {a b x : Int32} (hn : n ≤ 600) (h : GI n σ) (k : Pr n σ 214 [some (.ref 323), some (.int a), some (.int b), some (.int x), none, none] Q) : gXi 115 [some (.ref 0), some (.int a), some (.int b), some (.int x), none, none] σ Q := by
  obtain ⟨B, b1, b2, g, tb⟩ := h
  obtain ⟨hc, hF⟩ := GR_SC g
  obtain ⟨e24, rs, ea, gr⟩ := GR_swap (a := a) (b := b) (x := x) g (by omega)
  have hi : ∀ q, 323 ≤ q → clS σ a b x q = σ q := fun q hq => clS_hi hc hq
  refine s115 hc ⟨_, rfl, k _ (clS σ a b x) (Sc_hi hi) (fun Q2 h2 => s214 rs ⟨_, rfl, ?_⟩)⟩
  rw [e24, ← ea]
  exact h2 _ ⟨B, b1, by omega, gr, TB_op tb hi⟩ (Sc_op hi)
theorem pr_move {n : Nat} {σ : gS} {Q : Int32 → gS → Prop} {a x : Int32} (hn : n ≤ 600) (h : GI n σ) (k : Pr n σ 215 [some (.ref 323), some (.int a), some (.int x), none, none, none] Q) : gXi 116 [some (.ref 0), some (.int a), some (.int x), none, none] σ Q := by
  obtain ⟨B, b1, b2, g, tb⟩ := h
  obtain ⟨hc, hF⟩ := GR_SC g
  obtain ⟨e24, rs, ea, gr⟩ := GR_move (a := a) (x := x) g
  have hi : ∀ q, 323 ≤ q → clM σ a x q = σ q := fun q hq => clM_hi hc hq
  refine s116 hc ⟨_, rfl, k _ (clM σ a x) (Sc_hi hi) (fun Q2 h2 => s215 rs ⟨_, rfl, ?_⟩)⟩
  rw [e24, ← ea]
  exact h2 _ ⟨B, b1, by omega, gr, TB_op tb hi⟩ (Sc_op hi)
theorem pr_ring {n : Nat} {σ : gS} {Q : Int32 → gS → Prop} {a b c : Int32} (hn : n ≤ 600) (h : GI n σ) (k : Pr n σ 216 [some (.ref 323), some (.int a), some (.int b), some (.int c), none, none] Q) : gXi 117 [some (.ref 0), some (.int a), some (.int b), some (.int c), none, none] σ Q := by
  obtain ⟨B, b1, b2, g, tb⟩ := h
  obtain ⟨hc, hF⟩ := GR_SC g
  obtain ⟨e24, rs, ea, gr⟩ := GR_ring (a := a) (b := b) (c := c) g
  have hi : ∀ q, 323 ≤ q → clR σ a b c q = σ q := fun q hq => clR_hi hc hq
  refine s117 ⟨hc, hF⟩ ⟨_, rfl, k _ (clR σ a b c) (Sc_hi hi) (fun Q2 h2 => s216 rs ⟨_, rfl, ?_⟩)⟩
  rw [e24, ← ea]
  exact h2 _ ⟨B, b1, by omega, gr, TB_op tb hi⟩ (Sc_op hi)
theorem pr_first {n : Nat} {σ : gS} {Q : Int32 → gS → Prop} {f : Int32} (hn : n ≤ 600) (h : GI n σ) (k : Pr n σ 213 [some (.ref 323), some (.int f), none] Q) : gXi 114 [some (.ref 0), some (.int f), none] σ Q := by
  obtain ⟨B, b1, b2, g, tb⟩ := h
  obtain ⟨hc, hF⟩ := GR_SC g
  obtain ⟨e24, rs, ea, gr⟩ := GR_first (f := f) g
  have hi : ∀ q, 323 ≤ q → clF σ f q = σ q := fun q hq => clF_hi hc hq
  refine s114 hc ⟨_, rfl, k _ (clF σ f) (Sc_hi hi) (fun Q2 h2 => s213 rs ⟨_, rfl, ?_⟩)⟩
  rw [e24, ← ea]
  exact h2 _ ⟨B, b1, by omega, gr, TB_op tb hi⟩ (Sc_op hi)
theorem pr_set {n : Nat} {σ : gS} {Q : Int32 → gS → Prop} {t w v : Int32} (hn : n ≤ 600) (h : GI n σ) (k : Pr n σ 211 [some (.ref 323), some (.int t), some (.int w), some (.int v), none] Q) : gXi 113 [some (.ref 0), some (.int t), some (.int w), some (.int v), none, none, none] σ Q := by
  obtain ⟨B, b1, b2, g, tb⟩ := h
  obtain ⟨hc, hF⟩ := GR_SC g
  obtain ⟨e24, rs, ea, gr⟩ := GR_set (t := t) (w := w) (v := v) g
  have hi : ∀ q, 323 ≤ q → clE σ t w v q = σ q := fun q hq => clE_hi hc hq
  refine s113 hc ⟨_, rfl, k _ (clE σ t w v) (Sc_hi hi) (fun Q2 h2 => s211 rs ⟨_, rfl, ?_⟩)⟩
  rw [e24, ← ea]
  exact h2 _ ⟨B, b1, by omega, gr, TB_op tb hi⟩ (Sc_op hi)
theorem pr_settle {n : Nat} {σ : gS} {Q : Int32 → gS → Prop} (hn : n ≤ 600) (h : GI n σ) (k : Pr n σ 217 [some (.ref 323), none, none] Q) : gXi 118 [some (.ref 0), none, none] σ Q := by
  obtain ⟨B, b1, b2, g, tb⟩ := h
  obtain ⟨hc, hF⟩ := GR_SC g
  obtain ⟨e24, rs, rz, ea, gr⟩ := GR_settle g
  obtain ⟨t1, t2⟩ := GR_dr g.1
  have hi : ∀ q, 323 ≤ q → clT σ q = σ q := fun q hq => clT_hi hc t1 hq
  refine s118 ⟨hc, t1, t2⟩ ⟨_, rfl, k _ (clT σ) (Sc_hi hi) (fun Q2 h2 => s217 ⟨rs, rz⟩ ⟨_, rfl, ?_⟩)⟩
  rw [e24, ← ea]
  have hj : TB (grow (clT σ) 326 (fSt 99 (σ 324)).2) := TB_of tb (by rw [grow_ne (by decide), hi 323 (by decide)]) (by rw [grow_ne (by decide), hi 330 (by decide)])
  refine h2 _ ⟨B, b1, by omega, gr, TB_op hj (fun q _ => rfl)⟩ ⟨?_, ?_⟩
  · rw [hOp_far (by decide) (by decide) (by decide), grow_ne (by decide), hi _ (by decide)]
  · rw [hOp_far (by decide) (by decide) (by decide), grow_ne (by decide), hi _ (by decide)]
theorem pr_station {n : Nat} {σ : gS} {Q : Int32 → gS → Prop} {m : Int32} (hn : n ≤ 600) (h : GI n σ) (k : Pr n σ 220 [some (.ref 323), some (.int m), none, none] Q) : gXi 119 [some (.ref 0), some (.int m), none, none] σ Q := by
  obtain ⟨B, b1, b2, g, tb⟩ := h
  obtain ⟨hc, hF⟩ := GR_SC g
  obtain ⟨hi, ea, gr⟩ := GR_station (m := m) g
  have rs : RS (clN σ m) := by
    unfold RS
    rw [hi 324 (by decide), hi 323 (by decide)]
    exact g.2.2.2.2.2.2.1
  refine s119 ⟨hc.2.1, ⟨_, g.1⟩⟩ ⟨_, rfl, k _ (clN σ m) (Sc_hi hi) (fun Q2 h2 => s220 rs ⟨_, rfl, ?_⟩)⟩
  rw [hi 324 (by decide), ← ea]
  exact h2 _ ⟨B, b1, by omega, gr, TB_op tb hi⟩ (Sc_op hi)
theorem pr_restore {n : Nat} {σ : gS} {Q : Int32 → gS → Prop} {f : Int32} (hn : n ≤ 600) (h : GI n σ) (k : Pr n σ 222 [some (.ref 323), some (.int f)] Q) : gXi 121 [some (.ref 0), some (.int f)] σ Q := by
  obtain ⟨B, b1, b2, g, tb⟩ := h
  obtain ⟨hc, hF⟩ := GR_SC g
  obtain ⟨hi, ea, gr⟩ := GR_restore (f := f) g
  have rs : RS (clV σ f) := by
    unfold RS
    rw [hi 324 (by decide), hi 323 (by decide)]
    exact g.2.2.2.2.2.2.1
  have rz : RZ (clV σ f) := by
    unfold RZ
    rw [hi 324 (by decide), hi 325 (by decide), hi 326 (by decide)]
    exact g.2.2.2.2.2.2.2.1
  have er : aRes (clV σ f) f = aRes σ f := by
    unfold aRes
    rw [hi 328 (by decide), hi 329 (by decide)]
  have eg : gRes (clV σ f) f = gRes σ f := by
    unfold gRes
    rw [hi 329 (by decide)]
  refine s121 ⟨hc, fun s hs => (g.2.2.2.1 s hs).2.1⟩ ⟨_, rfl, k _ (clV σ f) (Sc_hi hi) (fun Q2 h2 => s222 ⟨rs, rz⟩ ⟨_, rfl, ?_⟩)⟩
  rw [er, ← ea]
  have gr' : GR B (hOp (clV σ f) (gRes (clV σ f) f) (rowAt (clV σ f 328) f.toNatClampNeg)) := by
    rw [hi 328 (by decide)]
    rw [hOp_iff (iff_of_eq eg)]
    exact gr
  exact h2 _ ⟨B, b1, by omega, gr', TB_op tb hi⟩ (Sc_op hi)
end
section
-- text 112
/-! THE LAW: pairs of calls: texts, slots, queries -/
theorem nmR_b {c r : Int32} (h : nmR c r) : 0 ≤ r ∧ (1 ≤ nsz r ∧ nsz r ≤ 5) := by
  obtain ⟨l, ⟨h1, h5⟩, hx, -, er⟩ := h
  have e : (List.range l.length).map (fun i => l.getD i 0) = l := by
    apply List.ext_getElem
    · simp
    · intro i h1 h2
      simp [List.getElem?_eq_getElem h2]
  have hf := (nm_fold (fun i => l.getD i 0) l.length).1
  rw [e] at hf
  rw [hf] at er
  have hd : ∀ i, i < l.length → 1 ≤ l.getD i 0 ∧ l.getD i 0 ≤ 26 := fun i hi => by
    rw [List.getD_eq_getElem?_getD, List.getElem?_eq_getElem hi]
    exact hx _ (List.getElem_mem hi)
  obtain ⟨k, hk⟩ : ∃ k, l.length = k + 1 := ⟨l.length - 1, by omega⟩
  have lo := nRd_ge (d := fun i => l.getD i 0) (k := k) (fun i hi => (hd i (by omega)).1)
  have hi : nRd (fun i => l.getD i 0) l.length < 27 ^ 5 := Nat.lt_of_lt_of_le (nRd_lt (fun i hi => (hd i hi).2)) (Nat.pow_le_pow_right (by decide) h5)
  have l5 : (27 : Nat) ^ 5 = 14348907 := by decide
  rw [← hk] at lo
  have big : nRd (fun i => l.getD i 0) l.length < 2147483648 := by omega
  have pk : 0 < 27 ^ k := Nat.pow_pos (by decide)
  rw [er]
  refine ⟨(iN_le (k := 0) (by decide) big).mpr (Nat.zero_le _), ?_, ?_⟩
  · unfold nsz
    rw [iN_nat big]
    have := nsN_ge 8 0 (nRd (fun i => l.getD i 0) l.length) (by rw [Nat.pow_zero]; omega) (by decide)
    omega
  · unfold nsz
    rw [iN_nat big]
    exact nsN_lt 8 5 _ hi
theorem GR_rf {B : Nat} {σ : gS} (g : GR B σ) : RS σ ∧ RT σ ∧ RZ σ ∧ (2 ≤ σ 324 0 ∧ σ 324 0 ≤ 10) ∧ bF (σ 324) ∧ bT (σ 324) ∧ nmG (σ 324) := by
  obtain ⟨g1, g2, g3, g4, g5, g6, g7, g8, g9⟩ := g
  refine ⟨g7, g9, g8, g2.2.2.2, g2.1, fun t ht => ?_, fun t ht => nmR_b (g1.2.2.2 t ht)⟩
  have ht' : t < nM (cR σ 6) := by rw [agr_n g1.1]; exact ht
  have := g1.2.1.2.1 t ht'
  rw [g1.1.2 t ht' 0 (by decide), g1.1.2 t ht' 1 (by decide), g1.1.2 t ht' 2 (by decide)] at this
  exact this
theorem and255 (x : Int32) : ¬ x &&& 255 = -1 := by
  intro h
  have h2 := congrArg (fun y : Int32 => y.toBitVec.getLsbD 8) h
  have e1 : (x &&& 255).toBitVec.getLsbD 8 = false := by
    rw [Int32.toBitVec_and, BitVec.getLsbD_and, show (255 : Int32).toBitVec.getLsbD 8 = false from by decide, Bool.and_false]
  have e2 : (-1 : Int32).toBitVec.getLsbD 8 = true := by decide
  have h2 : (x &&& 255).toBitVec.getLsbD 8 = (-1 : Int32).toBitVec.getLsbD 8 := h2
  rw [e1, e2] at h2
  cases h2
/-- as Pr, the reference's answer not told -/
noncomputable def Pa (n : Nat) (σ : gS) (z2 : Nat) (L2 : gL) (Q : Int32 → gS → Prop) : Prop := ∀ x1 s1, Sc σ s1 → (∀ Q2 : Int32 → gS → Prop, (∀ x2 τ, GI (n + 1) τ → Sc σ τ → Q2 x2 τ) → gXi z2 L2 s1 Q2) → Q x1 s1
theorem Pa_r {n : Nat} {σ : gS} {z2 : Nat} {L2 : gL} {Q : Int32 → gS → Prop} (k : Pa n σ z2 L2 Q) : Pr n σ z2 L2 Q := fun x1 s1 hs h => k x1 s1 hs (fun Q2 h2 => h Q2 (fun τ a b => h2 x1 τ a b))
theorem pr_append {n : Nat} {σ : gS} {Q : Int32 → gS → Prop} {a b c d e : Int32} (hn : n ≤ 600) (h : GI n σ) (k : Pr n σ 184 [some (.ref 323), some (.int a), some (.int b), some (.int c), some (.int d), some (.int e), none, none] Q) : gXi 108 [some (.ref 0), some (.int a), some (.int b), some (.int c), some (.int d), some (.int e)] σ Q := by
  obtain ⟨B, b1, b2, g, tb⟩ := h
  obtain ⟨hc, hF⟩ := GR_SC g
  obtain ⟨hi, ea, gr⟩ := GR_append (Bt := byt a b c d e) g
  have hL := g.2.2.2.2.1.1
  have rt : RT (clA σ (byt a b c d e)) := by
    show 0 ≤ clA σ (byt a b c d e) 323 8 ∧ clA σ (byt a b c d e) 323 8 ≤ 1000
    rw [hi 323 (by decide)]
    exact g.2.2.2.2.2.2.2.2
  refine s108 hL ⟨_, rfl, k _ (clA σ (byt a b c d e)) (Sc_hi hi) (fun Q2 h2 => s184 rt ⟨_, rfl, ?_⟩)⟩
  rw [hi 323 (by decide), ← ea]
  have tb2 : TB (clA σ (byt a b c d e)) := TB_of tb (by rw [hi 323 (by decide)]) (by rw [hi 330 (by decide)])
  refine h2 _ ⟨B, b1, by omega, gr, ?_⟩ ⟨?_, ?_⟩
  · generalize clA σ (byt a b c d e) = ρ at tb2 rt ⊢
    unfold hAp
    split
    · exact tb2
    · intro i hi2
      obtain ⟨eL, lL⟩ := l1000 rt
      rw [grow_at, rup_at] at hi2
      rw [grow_ne (by decide), grow_at]
      unfold fAp
      split
      · exact and255 _
      · refine tb2 i ?_
        rw [eL, show (20 : Int32) = iN 20 from rfl, iN_add, iN_nat (by omega)] at hi2
        omega
  · have e : ∀ ρ : gS, hAp ρ (byt a b c d e) 1000000 = ρ 1000000 := fun ρ => by
      unfold hAp
      split
      · rfl
      · rw [grow_ne (by decide), grow_ne (by decide)]
    rw [e, hi _ (by decide)]
  · have e : ∀ ρ : gS, hAp ρ (byt a b c d e) 1000001 = ρ 1000001 := fun ρ => by
      unfold hAp
      split
      · rfl
      · rw [grow_ne (by decide), grow_ne (by decide)]
    rw [e, hi _ (by decide)]
theorem pr_truncate {n : Nat} {σ : gS} {Q : Int32 → gS → Prop} {m : Int32} (hn : n ≤ 600) (h : GI n σ) (k : Pr n σ 185 [some (.ref 323), some (.int m)] Q) : gXi 109 [some (.ref 0), some (.int m)] σ Q := by
  obtain ⟨B, b1, b2, g, tb⟩ := h
  obtain ⟨hc, hF⟩ := GR_SC g
  obtain ⟨hi, ea, gr⟩ := GR_trunc (n := m) g
  have rt := g.2.2.2.2.2.2.2.2
  refine s109 ⟨_, rfl, k _ (clU σ m) (Sc_hi hi) (fun Q2 h2 => s185 ⟨_, rfl, ?_⟩)⟩
  have tb2 : TB (clU σ m) := TB_of tb (by rw [hi 323 (by decide)]) (by rw [hi 330 (by decide)])
  have e : (if gTru (clU σ m 323 8) m then clU σ m 323 8 - m else -1) = (if 0 ≤ m ∧ m ≤ σ 2 1 then σ 2 1 - m else -1) := by
    rw [hi 323 (by decide), ← ea]
  rw [e]
  refine h2 _ ⟨B, b1, by omega, gr, ?_⟩ ⟨?_, ?_⟩
  · split
    · rename_i q
      intro i hi2
      rw [grow_at, rup_at, hi 323 (by decide)] at hi2
      rw [grow_ne (by decide), hi 330 (by decide)]
      refine tb i ?_
      rw [hi 323 (by decide)] at q
      obtain ⟨eL, lL⟩ := l1000 rt
      obtain ⟨em, lm⟩ := iN_of (Int32.not_lt.mp q.1)
      have q2 := Int32.not_lt.mp q.2
      rw [eL, em] at q2
      have q2 := (iN_le lm (by omega)).mp q2
      rw [eL, em, iN_sub (by omega) q2, iN_nat (by omega)] at hi2
      omega
    · exact tb2
  · split
    · rw [grow_ne (by decide), hi _ (by decide)]
    · exact hi _ (by decide)
  · split
    · rw [grow_ne (by decide), hi _ (by decide)]
    · exact hi _ (by decide)
theorem pr_load {n : Nat} {σ : gS} {Q : Int32 → gS → Prop} (hn : n ≤ 600) (h : GI n σ) (k : Pr n σ 203 [some (.ref 323), none] Q) : gXi 110 [some (.ref 0), none, none] σ Q := by
  obtain ⟨B, b1, b2, g, tb⟩ := h
  obtain ⟨hc, hF⟩ := GR_SC g
  obtain ⟨hi, ea, gr⟩ := GR_load g b1 tb
  have hL := g.2.2.2.2.1.1
  have rt : RT (clL σ) := by
    show 0 ≤ clL σ 323 8 ∧ clL σ 323 8 ≤ 1000
    rw [hi 323 (by decide)]
    exact g.2.2.2.2.2.2.2.2
  refine s110 hL ⟨_, rfl, k _ (clL σ) (Sc_hi hi) (fun Q2 h2 => s203 rt ⟨_, rfl, ?_⟩)⟩
  rw [← ea]
  have J := dSet_J rt
  have z : ∀ q, q = 1000000 ∨ q = 1000001 → hLoad (clL σ) q = σ q := fun q hq => by
    rw [hLoad_e]
    unfold hLo
    split
    · unfold hLo1
      funext j
      rw [gup_ne (by omega), gup_ne (by omega), gup_ne (by omega), grow_ne (by omega), gup_ne (by omega), J.2.2 q (by omega) (by omega), hi q (by omega)]
    · funext j
      rw [gup_ne (by omega), J.2.2 q (by omega) (by omega), hi q (by omega)]
  refine h2 _ ⟨B, b1, by omega, gr, TB_0 ?_⟩ ⟨z _ (Or.inl rfl), z _ (Or.inr rfl)⟩
  rw [hLoad_e]
  unfold hLo
  split
  · unfold hLo1
    rw [gup_ne (by omega), gup_ne (by omega), gup_ne (by omega), grow_ne (by decide), gup_at]
  · rw [gup_at]
theorem pr_come {n : Nat} {σ : gS} {Q : Int32 → gS → Prop} {x v f w s : Int32} (hn : n ≤ 600) (h : GI n σ) (k : Pr n σ 208 [some (.ref 323), some (.int x), some (.int v), some (.int f), some (.int w), some (.int s), none, none] Q) : gXi 112 [some (.ref 0), some (.int x), some (.int v), some (.int f), some (.int w), some (.int s), none] σ Q := by
  obtain ⟨B, b1, b2, g, tb⟩ := h
  obtain ⟨hc, hF⟩ := GR_SC g
  obtain ⟨hi, ea, gr⟩ := GR_come (x := x) (k := v) (f := f) (w := w) (s := s) g
  have hL := g.2.2.2.2.1.1
  obtain ⟨rs, rt, -⟩ := GR_rf g
  have rs2 : RS (clC σ x v f w s) ∧ RT (clC σ x v f w s) := by
    refine ⟨?_, ?_⟩
    · unfold RS
      rw [hi 324 (by decide), hi 323 (by decide)]
      exact rs
    · show 0 ≤ clC σ x v f w s 323 8 ∧ clC σ x v f w s 323 8 ≤ 1000
      rw [hi 323 (by decide)]
      exact rt
  refine s112 ⟨hc, hL⟩ ⟨_, rfl, k _ (clC σ x v f w s) (Sc_hi hi) (fun Q2 h2 => s208 rs2 ⟨_, rfl, ?_⟩)⟩
  have eq : aCom (clC σ x v f w s) x v f w s = aCom σ x v f w s := by
    unfold aCom okC
    rw [hi 323 (by decide), hi 324 (by decide), hi 330 (by decide)]
  rw [eq, ← ea]
  have tb2 : TB (clC σ x v f w s) := TB_of tb (by rw [hi 323 (by decide)]) (by rw [hi 330 (by decide)])
  refine h2 _ ⟨B + 99, by omega, by omega, gr, ?_⟩ ⟨?_, ?_⟩
  · unfold hCom
    split
    · refine TB_0 ?_
      rw [grow_ne (by decide), grow_at, rup_at]
    · exact tb2
  · unfold hCom
    split
    · rw [grow_ne (by decide), grow_ne (by decide), hKe_ne (by decide) (by decide), hi _ (by decide)]
    · exact hi _ (by decide)
  · unfold hCom
    split
    · rw [grow_ne (by decide), grow_ne (by decide), hKe_ne (by decide) (by decide), hi _ (by decide)]
    · exact hi _ (by decide)
theorem pr_keep {n : Nat} {σ : gS} {Q : Int32 → gS → Prop} {f : Int32} (hn : n ≤ 600) (h : GI n σ) (k : Pr n σ 221 [some (.ref 323), some (.int f)] Q) : gXi 120 [some (.ref 0), some (.int f)] σ Q := by
  obtain ⟨B, b1, b2, g, tb⟩ := h
  obtain ⟨hc, hF⟩ := GR_SC g
  obtain ⟨hi, ea, gr⟩ := GR_keep (f := f) g
  refine s120 hc ⟨_, rfl, k _ (clK σ f) (Sc_hi hi) (fun Q2 h2 => s221 ⟨_, rfl, ?_⟩)⟩
  rw [hi 324 (by decide), ← ea]
  refine h2 _ ⟨B, b1, by omega, gr, TB_of tb ?_ ?_⟩ ⟨?_, ?_⟩
  · split
    · unfold hKp
      rw [grow_ne (by decide), grow_ne (by decide), hi _ (by decide)]
    · rw [hi _ (by decide)]
  · split
    · unfold hKp
      rw [grow_ne (by decide), grow_ne (by decide), hi _ (by decide)]
    · rw [hi _ (by decide)]
  · split
    · unfold hKp
      rw [grow_ne (by decide), grow_ne (by decide), hi _ (by decide)]
    · rw [hi _ (by decide)]
  · split
    · unfold hKp
      rw [grow_ne (by decide), grow_ne (by decide), hi _ (by decide)]
    · rw [hi _ (by decide)]
theorem pr_undo {n : Nat} {σ : gS} {Q : Int32 → gS → Prop} (hn : n ≤ 600) (h : GI n σ) (k : Pr n σ 223 [some (.ref 323)] Q) : gXi 122 [some (.ref 0)] σ Q := by
  obtain ⟨B, b1, b2, g, tb⟩ := h
  obtain ⟨hc, hF⟩ := GR_SC g
  obtain ⟨hi, ea, gr⟩ := GR_undo g
  obtain ⟨rs, rt, rz, -⟩ := GR_rf g
  have rs2 : RS (clW σ) ∧ RZ (clW σ) := by
    refine ⟨?_, ?_⟩
    · unfold RS
      rw [hi 324 (by decide), hi 323 (by decide)]
      exact rs
    · unfold RZ
      rw [hi 324 (by decide), hi 325 (by decide), hi 326 (by decide)]
      exact rz
  refine s122 ⟨hc.2.1, g.2.2.1.2.2⟩ ⟨_, rfl, k _ (clW σ) (Sc_hi hi) (fun Q2 h2 => s223 rs2 ⟨_, rfl, ?_⟩)⟩
  rw [hi 323 (by decide), ← ea]
  refine h2 _ ⟨B, b1, by omega, gr, TB_of tb ?_ ?_⟩ ⟨?_, ?_⟩
  · unfold hUn
    split
    · rw [hi 323 (by decide)]
    · rw [grow_ne (by decide), grow_at, rup_ne (by decide), hi 323 (by decide)]
  · unfold hUn
    split
    · exact hi _ (by decide)
    · rw [grow_ne (by decide), grow_ne (by decide), hi _ (by decide)]
  · unfold hUn
    split
    · exact hi _ (by decide)
    · rw [grow_ne (by decide), grow_ne (by decide), hi _ (by decide)]
  · unfold hUn
    split
    · exact hi _ (by decide)
    · rw [grow_ne (by decide), grow_ne (by decide), hi _ (by decide)]
theorem pr_errorPosition {n : Nat} {σ : gS} {Q : Int32 → gS → Prop} (hn : n ≤ 600) (h : GI n σ) (k : Pr n σ 186 [some (.ref 323)] Q) : gXi 111 [some (.ref 0)] σ Q := by
  obtain ⟨B, b1, b2, g, tb⟩ := h
  obtain ⟨hc, hF⟩ := GR_SC g
  refine s111 ⟨_, rfl, k _ σ (Sc_r σ) (fun Q2 h2 => s186 ⟨_, rfl, ?_⟩)⟩
  rw [← g.2.2.2.2.2.1]
  exact h2 σ ⟨B, b1, by omega, g, tb⟩ (Sc_r σ)
theorem pq_value {n : Nat} {σ : gS} {Q : Int32 → gS → Prop} {w : Int32} (h : GI n σ) (k : Pa n σ 227 [some (.ref 323), some (.int w)] Q) : gXi 123 [some (.ref 0), some (.int w)] σ Q := by
  have h' := h
  obtain ⟨B, b1, b2, g, tb⟩ := h'
  obtain ⟨hc, hF⟩ := GR_SC g
  obtain ⟨rs, rt, rz, h0, rF, rT, nG⟩ := GR_rf g
  exact s123 hc ⟨_, rfl, k _ σ (Sc_r σ) (fun Q2 h2 => s227 rs ⟨_, rfl, h2 _ σ (GI_up h) (Sc_r σ)⟩)⟩
theorem pq_of {n : Nat} {σ : gS} {Q : Int32 → gS → Prop} {t w : Int32} (h : GI n σ) (k : Pa n σ 229 [some (.ref 323), some (.int t), some (.int w), none] Q) : gXi 124 [some (.ref 0), some (.int t), some (.int w), none] σ Q := by
  have h' := h
  obtain ⟨B, b1, b2, g, tb⟩ := h'
  obtain ⟨hc, hF⟩ := GR_SC g
  obtain ⟨rs, rt, rz, h0, rF, rT, nG⟩ := GR_rf g
  exact s124 hc ⟨_, rfl, k _ σ (Sc_r σ) (fun Q2 h2 => s229 rs ⟨_, rfl, h2 _ σ (GI_up h) (Sc_r σ)⟩)⟩
theorem pq_letter {n : Nat} {σ : gS} {Q : Int32 → gS → Prop} {t i : Int32} (h : GI n σ) (k : Pa n σ 230 [some (.ref 323), some (.int t), some (.int i), none] Q) : gXi 125 [some (.ref 0), some (.int t), some (.int i), none] σ Q := by
  have h' := h
  obtain ⟨B, b1, b2, g, tb⟩ := h'
  obtain ⟨hc, hF⟩ := GR_SC g
  obtain ⟨rs, rt, rz, h0, rF, rT, nG⟩ := GR_rf g
  exact s125 hc ⟨_, rfl, k _ σ (Sc_r σ) (fun Q2 h2 => s230 ⟨rs, nG⟩ ⟨_, rfl, h2 _ σ (GI_up h) (Sc_r σ)⟩)⟩
theorem pq_at {n : Nat} {σ : gS} {Q : Int32 → gS → Prop} {x : Int32} (h : GI n σ) (k : Pa n σ 231 [some (.ref 323), some (.int x)] Q) : gXi 126 [some (.ref 0), some (.int x)] σ Q := by
  have h' := h
  obtain ⟨B, b1, b2, g, tb⟩ := h'
  obtain ⟨hc, hF⟩ := GR_SC g
  obtain ⟨rs, rt, rz, h0, rF, rT, nG⟩ := GR_rf g
  exact s126 hc ⟨_, rfl, k _ σ (Sc_r σ) (fun Q2 h2 => s231 rs ⟨_, rfl, h2 _ σ (GI_up h) (Sc_r σ)⟩)⟩
theorem pq_table {n : Nat} {σ : gS} {Q : Int32 → gS → Prop} {b w : Int32} (h : GI n σ) (k : Pa n σ 235 [some (.ref 323), some (.int b), some (.int w), none, none, none, none, none] Q) : gXi 127 [some (.ref 0), some (.int b), some (.int w)] σ Q := by
  have h' := h
  obtain ⟨B, b1, b2, g, tb⟩ := h'
  obtain ⟨hc, hF⟩ := GR_SC g
  obtain ⟨rs, rt, rz, h0, rF, rT, nG⟩ := GR_rf g
  exact s127 hc ⟨_, rfl, k _ σ (Sc_r σ) (fun Q2 h2 => s235 rs ⟨_, rfl, h2 _ σ (GI_up h) (Sc_r σ)⟩)⟩
theorem pq_family {n : Nat} {σ : gS} {Q : Int32 → gS → Prop} {f w : Int32} (h : GI n σ) (k : Pa n σ 238 [some (.ref 323), some (.int f), some (.int w)] Q) : gXi 128 [some (.ref 0), some (.int f), some (.int w)] σ Q := by
  have h' := h
  obtain ⟨B, b1, b2, g, tb⟩ := h'
  obtain ⟨hc, hF⟩ := GR_SC g
  obtain ⟨rs, rt, rz, h0, rF, rT, nG⟩ := GR_rf g
  exact s128 hc ⟨_, rfl, k _ σ (Sc_r σ) (fun Q2 h2 => s238 ⟨rs, h0⟩ ⟨_, rfl, h2 _ σ (GI_up h) (Sc_r σ)⟩)⟩
theorem pq_ranked {n : Nat} {σ : gS} {Q : Int32 → gS → Prop} {x : Int32} (h : GI n σ) (k : Pa n σ 239 [some (.ref 323), some (.int x), none] Q) : gXi 129 [some (.ref 0), some (.int x)] σ Q := by
  have h' := h
  obtain ⟨B, b1, b2, g, tb⟩ := h'
  obtain ⟨hc, hF⟩ := GR_SC g
  obtain ⟨rs, rt, rz, h0, rF, rT, nG⟩ := GR_rf g
  exact s129 hc ⟨_, rfl, k _ σ (Sc_r σ) (fun Q2 h2 => s239 rs ⟨_, rfl, h2 _ σ (GI_up h) (Sc_r σ)⟩)⟩
theorem pq_why {n : Nat} {σ : gS} {Q : Int32 → gS → Prop} {a b x : Int32} (h : GI n σ) (k : Pa n σ 240 [some (.ref 323), some (.int a), some (.int b), some (.int x)] Q) : gXi 130 [some (.ref 0), some (.int a), some (.int b), some (.int x)] σ Q := by
  have h' := h
  obtain ⟨B, b1, b2, g, tb⟩ := h'
  obtain ⟨hc, hF⟩ := GR_SC g
  obtain ⟨rs, rt, rz, h0, rF, rT, nG⟩ := GR_rf g
  exact s130 hc ⟨_, rfl, k _ σ (Sc_r σ) (fun Q2 h2 => s240 rs ⟨_, rfl, h2 _ σ (GI_up h) (Sc_r σ)⟩)⟩
theorem pq_whyMove {n : Nat} {σ : gS} {Q : Int32 → gS → Prop} {t x : Int32} (h : GI n σ) (k : Pa n σ 241 [some (.ref 323), some (.int t), some (.int x)] Q) : gXi 131 [some (.ref 0), some (.int t), some (.int x)] σ Q := by
  have h' := h
  obtain ⟨B, b1, b2, g, tb⟩ := h'
  obtain ⟨hc, hF⟩ := GR_SC g
  obtain ⟨rs, rt, rz, h0, rF, rT, nG⟩ := GR_rf g
  exact s131 hc ⟨_, rfl, k _ σ (Sc_r σ) (fun Q2 h2 => s241 rs ⟨_, rfl, h2 _ σ (GI_up h) (Sc_r σ)⟩)⟩
theorem pq_joyAt {n : Nat} {σ : gS} {Q : Int32 → gS → Prop} {t x : Int32} (h : GI n σ) (k : Pa n σ 242 [some (.ref 323), some (.int t), some (.int x)] Q) : gXi 132 [some (.ref 0), some (.int t), some (.int x)] σ Q := by
  have h' := h
  obtain ⟨B, b1, b2, g, tb⟩ := h'
  obtain ⟨hc, hF⟩ := GR_SC g
  obtain ⟨rs, rt, rz, h0, rF, rT, nG⟩ := GR_rf g
  exact s132 hc ⟨_, rfl, k _ σ (Sc_r σ) (fun Q2 h2 => s242 rs ⟨_, rfl, h2 _ σ (GI_up h) (Sc_r σ)⟩)⟩
theorem pq_ifSwapped {n : Nat} {σ : gS} {Q : Int32 → gS → Prop} {a b w : Int32} (h : GI n σ) (k : Pa n σ 243 [some (.ref 323), some (.int a), some (.int b), some (.int w)] Q) : gXi 133 [some (.ref 0), some (.int a), some (.int b), some (.int w)] σ Q := by
  have h' := h
  obtain ⟨B, b1, b2, g, tb⟩ := h'
  obtain ⟨hc, hF⟩ := GR_SC g
  obtain ⟨rs, rt, rz, h0, rF, rT, nG⟩ := GR_rf g
  exact s133 hc ⟨_, rfl, k _ σ (Sc_r σ) (fun Q2 h2 => s243 rs ⟨_, rfl, h2 _ σ (GI_up h) (Sc_r σ)⟩)⟩
theorem pq_leastPrice {n : Nat} {σ : gS} {Q : Int32 → gS → Prop} {a b : Int32} (h : GI n σ) (k : Pa n σ 244 [some (.ref 323), some (.int a), some (.int b), none] Q) : gXi 134 [some (.ref 0), some (.int a), some (.int b), none] σ Q := by
  have h' := h
  obtain ⟨B, b1, b2, g, tb⟩ := h'
  obtain ⟨hc, hF⟩ := GR_SC g
  obtain ⟨rs, rt, rz, h0, rF, rT, nG⟩ := GR_rf g
  exact s134 hc ⟨_, rfl, k _ σ (Sc_r σ) (fun Q2 h2 => s244 rs ⟨_, rfl, h2 _ σ (GI_up h) (Sc_r σ)⟩)⟩
theorem pq_bestSeat {n : Nat} {σ : gS} {Q : Int32 → gS → Prop} {t : Int32} (h : GI n σ) (k : Pa n σ 245 [some (.ref 323), some (.int t), none, none] Q) : gXi 135 [some (.ref 0), some (.int t)] σ Q := by
  have h' := h
  obtain ⟨B, b1, b2, g, tb⟩ := h'
  obtain ⟨hc, hF⟩ := GR_SC g
  obtain ⟨rs, rt, rz, h0, rF, rT, nG⟩ := GR_rf g
  exact s135 hc ⟨_, rfl, k _ σ (Sc_r σ) (fun Q2 h2 => s245 ⟨rs, h0⟩ ⟨_, rfl, h2 _ σ (GI_up h) (Sc_r σ)⟩)⟩
theorem pq_partner {n : Nat} {σ : gS} {Q : Int32 → gS → Prop} {t : Int32} (h : GI n σ) (k : Pa n σ 246 [some (.ref 323), some (.int t), none, none, none, none] Q) : gXi 136 [some (.ref 0), some (.int t)] σ Q := by
  have h' := h
  obtain ⟨B, b1, b2, g, tb⟩ := h'
  obtain ⟨hc, hF⟩ := GR_SC g
  obtain ⟨rs, rt, rz, h0, rF, rT, nG⟩ := GR_rf g
  exact s136 hc ⟨_, rfl, k _ σ (Sc_r σ) (fun Q2 h2 => s246 rs ⟨_, rfl, h2 _ σ (GI_up h) (Sc_r σ)⟩)⟩
theorem pq_rings {n : Nat} {σ : gS} {Q : Int32 → gS → Prop} (h : GI n σ) (k : Pa n σ 247 [some (.ref 323), none, none, none, none] Q) : gXi 137 [some (.ref 0)] σ Q := by
  have h' := h
  obtain ⟨B, b1, b2, g, tb⟩ := h'
  obtain ⟨hc, hF⟩ := GR_SC g
  obtain ⟨rs, rt, rz, h0, rF, rT, nG⟩ := GR_rf g
  exact s137 ⟨hc, hF⟩ ⟨_, rfl, k _ σ (Sc_r σ) (fun Q2 h2 => s247 rs ⟨_, rfl, h2 _ σ (GI_up h) (Sc_r σ)⟩)⟩
theorem pq_ifFirst {n : Nat} {σ : gS} {Q : Int32 → gS → Prop} {x : Int32} (h : GI n σ) (k : Pa n σ 249 [some (.ref 323), some (.int x)] Q) : gXi 139 [some (.ref 0), some (.int x)] σ Q := by
  have h' := h
  obtain ⟨B, b1, b2, g, tb⟩ := h'
  obtain ⟨hc, hF⟩ := GR_SC g
  obtain ⟨rs, rt, rz, h0, rF, rT, nG⟩ := GR_rf g
  exact s139 hc ⟨_, rfl, k _ σ (Sc_r σ) (fun Q2 h2 => s249 rs ⟨_, rfl, h2 _ σ (GI_up h) (Sc_r σ)⟩)⟩
theorem pq_log {n : Nat} {σ : gS} {Q : Int32 → gS → Prop} {i c : Int32} (h : GI n σ) (k : Pa n σ 250 [some (.ref 323), some (.int i), some (.int c)] Q) : gXi 140 [some (.ref 0), some (.int i), some (.int c)] σ Q := by
  have h' := h
  obtain ⟨B, b1, b2, g, tb⟩ := h'
  obtain ⟨hc, hF⟩ := GR_SC g
  obtain ⟨rs, rt, rz, h0, rF, rT, nG⟩ := GR_rf g
  exact s140 hc ⟨_, rfl, k _ σ (Sc_r σ) (fun Q2 h2 => s250 rs ⟨_, rfl, h2 _ σ (GI_up h) (Sc_r σ)⟩)⟩
end
section
-- text 113
/-! THE LAW: pairs of calls: settling tried, plan and setup text -/
theorem GR_wf {B : Nat} {σ τ : gS} (h : GR B σ) (hw : Wf σ τ) : GR B τ := by
  obtain ⟨g1, g2, g3, g4, g5, g6, g7, g8, g9⟩ := h
  obtain ⟨hq, hj⟩ := hw
  have e := fun q (h1 : ¬ q = 323) (h2 : ¬ q = 331) => hq q h1 h2
  have e324 := e 324 (by decide) (by decide)
  have j6 := hj 6 (by decide)
  have j8 := hj 8 (by decide)
  have j9 := hj 9 (by decide)
  refine ⟨?_, by rw [e324]; exact g2, ?_, SL_same (Nat.le_refl _) g4 (fun q q1 q2 => e q (by omega) (by omega)) (e 328 (by decide) (by decide)) (e 329 (by decide) (by decide)), ?_, ?_, ?_, ?_, ?_⟩
  · rw [e324]
    exact SV_blk g1 (fun q q1 q2 => e q (by omega) (by omega))
  · obtain ⟨⟨p1, p2, p3⟩, p4, p5⟩ := g3
    have e113 := e 113 (by decide) (by decide)
    have e327 := e 327 (by decide) (by decide)
    have eP : ∀ u, cPl τ u = cPl σ u := fun u => by unfold cPl; rw [e113]
    have hm : ∀ u, ((σ 113 1).toNatClampNeg + u) % 8 < 8 := fun u => Nat.mod_lt _ (by decide)
    refine ⟨⟨by unfold bPa; rw [e113]; exact p1, by rw [e113, j6]; exact p2, fun u hu => ?_⟩, fun u hu => ?_, fun j hj => ?_⟩
    · rw [e113] at hu
      rw [eP, e327]
      refine SV_blk (p3 u hu) (fun q q1 q2 => ?_)
      have := hm u
      unfold cPl at q1 q2
      exact e q (by omega) (by omega)
    · rw [e113] at hu
      rw [e327]
      exact p4 u hu
    · rw [e _ (by omega) (by omega)]
      exact p5 j hj
  · unfold TP
    rw [e 2 (by decide) (by decide), e 3 (by decide) (by decide), j8, e 330 (by decide) (by decide)]
    exact g5
  · rw [e 0 (by decide) (by decide), j9]
    exact g6
  · unfold RS
    rw [e324, j6]
    exact g7
  · unfold RZ
    rw [e324, e 325 (by decide) (by decide), e 326 (by decide) (by decide)]
    exact g8
  · show 0 ≤ τ 323 8 ∧ τ 323 8 ≤ 1000
    rw [j8]
    exact g9
theorem GI_wf {n : Nat} {σ τ : gS} (h : GI n σ) (hw : Wf σ τ) : GI n τ ∧ Sc σ τ := by
  obtain ⟨B, b1, b2, g, tb⟩ := h
  exact ⟨⟨B, b1, b2, GR_wf g hw, TB_of tb (hw.2 8 (by decide)) (hw.1 330 (by decide) (by decide))⟩, hw.1 _ (by decide) (by decide), hw.1 _ (by decide) (by decide)⟩
theorem GI_uw {n : Nat} {σ τ : gS} (h : GI n σ) (hw : Uw σ τ) : GI n τ ∧ Sc σ τ := by
  obtain ⟨B, b1, b2, g, tb⟩ := h
  refine ⟨⟨B, b1, b2, GR_fre g (fun q q1 _ => hw q (by omega)) (by rw [hw 326 (by decide)]; exact g.2.2.2.2.2.2.2.1.2.2), TB_of tb (by rw [hw 323 (by decide)]) (hw 330 (by decide))⟩, hw _ (by decide), hw _ (by decide)⟩
theorem clX_hi {σ : gS} {w : Int32} {q : Nat} (hc : SC σ) (ht : TC (cCo σ 32 6) 32) (hq : q < 32 ∨ 58 ≤ q) : clX σ w q = σ q := by
  have n7 := (c20 (SC_7 hc)).2
  obtain ⟨t1, l1, f1⟩ := cSt_tc (d := 99) ht
  rw [clX_e]
  split
  · rw [f1 q (by omega)]
    funext j
    exact cCo_far (by omega) n7
  · rfl
theorem hSx_ne {σ : gS} {w : Int32} {q : Nat} (hq : ¬ q = 326) : hSx σ w q = σ q := by
  rw [hSx_e]
  split
  · exact grow_ne hq
  · rfl
theorem pq_ifSettled {n : Nat} {σ : gS} {Q : Int32 → gS → Prop} {w : Int32} (h : GI n σ) (k : Pa n σ 248 [some (.ref 323), some (.int w), none] Q) : gXi 138 [some (.ref 0), some (.int w), none] σ Q := by
  have h' := h
  obtain ⟨B, b1, b2, g, tb⟩ := h'
  obtain ⟨hc, hF⟩ := GR_SC g
  obtain ⟨rs, rt, rz, h0, rF, rT, nG⟩ := GR_rf g
  have ht := (GR_dr g.1).1
  have hi : ∀ q, q < 32 ∨ 58 ≤ q → clX σ w q = σ q := fun q hq => clX_hi hc ht hq
  have g1 : GR B (clX σ w) := GR_scr g (fun q q1 _ => hi q q1) (by rw [hi 326 (by decide)]; exact rz.2.2)
  obtain ⟨rs1, rt1, rz1, -⟩ := GR_rf g1
  have b3 := g1.2.2.2.2.2.2.1.1.1
  refine s138 ⟨hc, ht⟩ ⟨_, rfl, k _ (clX σ w) ⟨hi _ (by decide), hi _ (by decide)⟩ (fun Q2 h2 => s248 ⟨rs1, rz1⟩ ⟨_, rfl, h2 _ _ ⟨B, b1, by omega, ?_, ?_⟩ ⟨?_, ?_⟩⟩)⟩
  · refine GR_scr g1 (fun q q1 q2 => hSx_ne q2) ?_
    rw [hSx_e]
    split
    · rw [grow_at]
      exact fSt_z b3 rz1.1
    · exact rz1.2.2
  · exact TB_of tb (by rw [hSx_ne (by decide), hi 323 (by decide)]) (by rw [hSx_ne (by decide), hi 330 (by decide)])
  · rw [hSx_ne (by decide), hi _ (by decide)]
  · rw [hSx_ne (by decide), hi _ (by decide)]
theorem pq_planLength {n : Nat} {σ : gS} {Q : Int32 → gS → Prop} (h : GI n σ) (k : Pa n σ 257 [some (.ref 323)] Q) : gXi 143 [some (.ref 0)] σ Q := by
  have h' := h
  obtain ⟨B, b1, b2, g, tb⟩ := h'
  obtain ⟨hc, hF⟩ := GR_SC g
  obtain ⟨rs, rt, rz, h0, rF, rT, nG⟩ := GR_rf g
  refine s143 ⟨_, rfl, k _ σ (Sc_r σ) (fun Q2 h2 => x257 rs.1.1 h0 nG (fun τ hw => ?_))⟩
  obtain ⟨i1, i2⟩ := GI_wf h hw
  exact h2 _ τ (GI_up i1) i2
theorem pq_planByte {n : Nat} {σ : gS} {Q : Int32 → gS → Prop} {i : Int32} (h : GI n σ) (k : Pa n σ 258 [some (.ref 323), some (.int i)] Q) : gXi 144 [some (.ref 0), some (.int i)] σ Q := by
  have h' := h
  obtain ⟨B, b1, b2, g, tb⟩ := h'
  obtain ⟨hc, hF⟩ := GR_SC g
  obtain ⟨rs, rt, rz, h0, rF, rT, nG⟩ := GR_rf g
  refine s144 hc ⟨_, rfl, k _ σ (Sc_r σ) (fun Q2 h2 => x258 rs.1.1 h0 nG (fun τ hw => ?_))⟩
  obtain ⟨i1, i2⟩ := GI_wf h hw
  exact h2 _ τ (GI_up i1) i2
theorem pq_setupLength {n : Nat} {σ : gS} {Q : Int32 → gS → Prop} (h : GI n σ) (k : Pa n σ 267 [some (.ref 323)] Q) : gXi 145 [some (.ref 0)] σ Q := by
  have h' := h
  obtain ⟨B, b1, b2, g, tb⟩ := h'
  obtain ⟨hc, hF⟩ := GR_SC g
  obtain ⟨rs, rt, rz, h0, rF, rT, nG⟩ := GR_rf g
  refine x145 hc.1.1 (fun x1 s1 hu => ?_)
  obtain ⟨j1, j2⟩ := GI_uw h hu
  have j1' := j1
  obtain ⟨B', b1', b2', g', tb'⟩ := j1'
  obtain ⟨rs', rt', rz', h0', rF', rT', nG'⟩ := GR_rf g'
  refine k x1 s1 j2 (fun Q2 h2 => x267 rs'.1.1 nG' (fun x2 τ hw => ?_))
  obtain ⟨i1, i2⟩ := GI_wf j1 hw
  exact h2 _ τ (GI_up i1) (Sc_t j2 i2)
theorem pq_setupByte {n : Nat} {σ : gS} {Q : Int32 → gS → Prop} {i : Int32} (h : GI n σ) (k : Pa n σ 268 [some (.ref 323), some (.int i)] Q) : gXi 146 [some (.ref 0), some (.int i)] σ Q := by
  have h' := h
  obtain ⟨B, b1, b2, g, tb⟩ := h'
  obtain ⟨hc, hF⟩ := GR_SC g
  obtain ⟨rs, rt, rz, h0, rF, rT, nG⟩ := GR_rf g
  refine x146 hc.1.1 (fun x1 s1 hu => ?_)
  obtain ⟨j1, j2⟩ := GI_uw h hu
  have j1' := j1
  obtain ⟨B', b1', b2', g', tb'⟩ := j1'
  obtain ⟨rs', rt', rz', h0', rF', rT', nG'⟩ := GR_rf g'
  refine k x1 s1 j2 (fun Q2 h2 => x268 rs'.1.1 nG' (fun x2 τ hw => ?_))
  obtain ⟨i1, i2⟩ := GI_wf j1 hw
  exact h2 _ τ (GI_up i1) (Sc_t j2 i2)
end
section
-- text 116
/-! THE LAW: pairs of queries, equal answers -/
theorem pr_planLength {n : Nat} {σ : gS} {Q : Int32 → gS → Prop} (h : GI n σ) (k : Pr n σ 257 [some (.ref 323)] Q) : gXi 143 [some (.ref 0)] σ Q := by
  have h' := h
  obtain ⟨B, b1, b2, g, tb⟩ := h'
  obtain ⟨hc, hF⟩ := GR_SC g
  obtain ⟨rs, rt, rz, h0, rF, rT, nG⟩ := GR_rf g
  refine s143 ⟨_, rfl, k _ σ (Sc_r σ) (fun Q2 h2 => x257 rs.1.1 h0 nG (fun τ hw => ?_))⟩
  obtain ⟨i1, i2⟩ := GI_wf h hw
  rw [← g.1.1.1 0 (by decide)]
  exact h2 τ (GI_up i1) i2
end
section
-- text 117
/-! THE LAW: pairs of queries, equal answers: letters, the plan -/
end
