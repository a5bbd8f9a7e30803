/-! RUNS OF THE J MACHINE over any heap: an instruction, a row -/
abbrev jK : Type := Option Value → jv_H → Prop
/-- from here the method comes to its end, with an answer and a heap of which K holds -/
def jE (y pc : Nat) (Lv : List (Option Value)) (st : List Value) (h : jv_H) (K : jK) : Prop := ∃ (r : Option Value) (h' : jv_H), jv_ev y pc Lv st h (r, h') ∧ K r h'
section JX
variable {y pc : Nat} {i : Instr} {len : Nat} {Lv : List (Option Value)} {st r : List Value} {h : jv_H} {K : jK}
theorem jE.mono {K' : jK} (hg : jE y pc Lv st h K) (hk : ∀ r h', K r h' → K' r h') : jE y pc Lv st h K' := by
  obtain ⟨r, h', e, k⟩ := hg
  exact ⟨r, h', e, hk r h' k⟩
theorem jx_step (hy : y < 272) (hcode : jv_code y pc = some (i, len)) (hR : jv_isR i = false) (hC : jv_isC i = none) {pc' : Nat} {Lv' : List (Option Value)} {st' : List Value} {h1 : jv_H} (hs : jv_step (sow y) (sini y) i len pc Lv st h = some (pc', Lv', st', h1)) (hg : jE y pc' Lv' st' h1 K) : jE y pc Lv st h K := by
  obtain ⟨r, h', e, k⟩ := hg
  obtain ⟨ow, kd, na, mL, fr, lo, hinf, e1, e2⟩ := s_inf hy
  rw [e1, e2] at hs
  exact ⟨r, h', jv_ev_step (fun n => jv_run_step hinf hcode hR hC hs) e, k⟩
theorem jx_pure {st' : List Value} (hy : y < 272) (hcode : jv_code y pc = some (i, len)) (hR : jv_isR i = false) (hC : jv_isC i = none) (hs : jv_pure i st = some st') (hg : jE y (pc + len) Lv st' h K) : jE y pc Lv st h K := jx_step hy hcode hR hC (st_pure hs) hg
theorem jx_ld {st' : List Value} (hy : y < 272) (hcode : jv_code y pc = some (i, len)) (hR : jv_isR i = false) (hC : jv_isC i = none) (hp : jv_pure i st = none) (hs : jv_ld i Lv st = some st') (hg : jE y (pc + len) Lv st' h K) : jE y pc Lv st h K := jx_step hy hcode hR hC (st_ld hp hs) hg
theorem jx_br {pc' : Nat} {st' : List Value} (hy : y < 272) (hcode : jv_code y pc = some (i, len)) (hR : jv_isR i = false) (hC : jv_isC i = none) (hp : jv_pure i st = none) (h2 : jv_ld i Lv st = none) (hs : jv_br i pc st = some (pc', st')) (hg : jE y pc' Lv st' h K) : jE y pc Lv st h K := jx_step hy hcode hR hC (st_br hp h2 hs) hg
theorem jx_sto {Lv' : List (Option Value)} {st' : List Value} (hy : y < 272) (hcode : jv_code y pc = some (i, len)) (hR : jv_isR i = false) (hC : jv_isC i = none) (hp : jv_pure i st = none) (h2 : jv_ld i Lv st = none) (h3 : jv_br i pc st = none) (hs : jv_sto i Lv st = some (Lv', st')) (hg : jE y (pc + len) Lv' st' h K) : jE y pc Lv st h K := jx_step hy hcode hR hC (st_sto hp h2 h3 hs) hg
theorem jx_heap {st' : List Value} {h1 : jv_H} (hy : y < 272) (hcode : jv_code y pc = some (i, len)) (hR : jv_isR i = false) (hC : jv_isC i = none) (hp : jv_pure i st = none) (h2 : jv_ld i Lv st = none) (h3 : jv_br i pc st = none) (h4 : jv_sto i Lv st = none) (hs : jv_heap (sow y) (sini y) i st h = some (st', h1)) (hg : jE y (pc + len) Lv st' h1 K) : jE y pc Lv st h K := jx_step hy hcode hR hC (st_heap hp h2 h3 h4 hs) hg
theorem jx_ret {a : Option Value} (hy : y < 272) (hcode : jv_code y pc = some (i, len)) (hret : jv_ret (jv_ym y).2.2 i st = some a) (hK : K a h) : jE y pc Lv st h K := by
  obtain ⟨ow, kd, na, mL, fr, lo, hinf, e1, e2⟩ := s_inf hy
  refine ⟨a, h, ⟨1, fun n hn => ?_⟩, hK⟩
  obtain ⟨m, rfl⟩ : ∃ m, n = m + 1 := ⟨n - 1, by omega⟩
  exact jv_run_ret hinf hcode hret
theorem jx_iret {v : Int32} (ty : FieldType) (hy : y < 272) (hcode : jv_code y pc = some (.ireturn, 1)) (hrt : (jv_ym y).2.2 = some ty) (hn : narrow ty (.int v) = .int v) (hK : K (some (.int v)) h) : jE y pc Lv [.int v] h K := by
  refine jx_ret hy hcode ?_ hK
  rw [hrt]
  exact if_pos hn
theorem jx_goto {off : Int} {b : Nat} (hy : y < 272) (hcode : jv_code y pc = some (.goto off, 3)) (hb : (pc : Int) + off = (b : Int)) (hg : jE y b Lv st h K) : jE y pc Lv st h K :=
  jx_br hy hcode rfl rfl rfl rfl (s_jmp hb) hg
/-- a branch on one number, on two -/
theorem jx_if {c : ClassFile.Cond} {off : Int} {b : Nat} {x : Int32} (hy : y < 272) (hcode : jv_code y pc = some (.ifCond c off, 3)) (hb : (pc : Int) + off = (b : Int)) (h1 : jv_cc c x 0 = true → jE y b Lv r h K) (h2 : jv_cc c x 0 = false → jE y (pc + 3) Lv r h K) : jE y pc Lv (.int x :: r) h K := by
  have hj : ∀ t : Nat × List Value, (if jv_cc c x 0 = true then some (b, r) else some (pc + 3, r)) = some t → jv_br (.ifCond c off) pc (.int x :: r) = some t := by
    intro t ht
    show (match jv_jmp pc off r with
      | some u => if jv_cc c x 0 = true then some u else some (pc + 3, r)
      | none => none) = some t
    rw [s_jmp hb]
    exact ht
  cases e : jv_cc c x 0 with
  | true => exact jx_br hy hcode rfl rfl rfl rfl (hj _ (if_pos e)) (h1 e)
  | false => exact jx_br hy hcode rfl rfl rfl rfl (hj _ (if_neg (by rw [e]; decide))) (h2 e)
theorem jx_icmp {c : ClassFile.Cond} {off : Int} {b : Nat} {x v : Int32} (hy : y < 272) (hcode : jv_code y pc = some (.if_icmp c off, 3)) (hb : (pc : Int) + off = (b : Int)) (h1 : jv_cc c x v = true → jE y b Lv r h K) (h2 : jv_cc c x v = false → jE y (pc + 3) Lv r h K) : jE y pc Lv (.int v :: .int x :: r) h K := by
  have hj : ∀ t : Nat × List Value, (if jv_cc c x v = true then some (b, r) else some (pc + 3, r)) = some t → jv_br (.if_icmp c off) pc (.int v :: .int x :: r) = some t := by
    intro t ht
    show (match jv_jmp pc off r with
      | some u => if jv_cc c x v = true then some u else some (pc + 3, r)
      | none => none) = some t
    rw [s_jmp hb]
    exact ht
  cases e : jv_cc c x v with
  | true => exact jx_br hy hcode rfl rfl rfl rfl (hj _ (if_pos e)) (h1 e)
  | false => exact jx_br hy hcode rfl rfl rfl rfl (hj _ (if_neg (by rw [e]; decide))) (h2 e)
theorem jx_getf {idx cx k a : Nat} {fs : List Value} {v : Value} (hy : y < 272) (hcode : jv_code y pc = some (.getfield idx, 3)) (hf : jv_fld (sow y) idx = some (cx, k)) (ha : a < h.2.1 ∨ jv_old a = true) (hc : h.1 a = .inr (.inr (cx, fs))) (hk : fs[k]? = some v) (hg : jE y (pc + 3) Lv (v :: r) h K) : jE y pc Lv (.ref a :: r) h K := by
  refine jx_heap hy hcode rfl rfl rfl rfl rfl rfl (st' := v :: r) (h1 := h) ?_ hg
  have e : jv_get (sow y) idx (.ref a :: r) h = some (v :: r) := by
    unfold jv_get
    simp only [hf, if_pos ha, hc, if_true, hk]
  unfold jv_heap
  simp only [e]
theorem jx_sta {idx : Nat} {v : Value} (hy : y < 272) (hcode : jv_code y pc = some (.getstatic idx, 3)) (hf : jv_sta (sow y) idx = some v) (hg : jE y (pc + 3) Lv (v :: st) h K) : jE y pc Lv st h K := by
  refine jx_heap hy hcode rfl rfl rfl rfl rfl rfl (st' := v :: st) (h1 := h) ?_ hg
  unfold jv_heap
  simp only [hf]
/-- bytes, new or old: their number, one of them -/
theorem jx_blen {a n : Nat} {f : Nat → Int32} (hy : y < 272) (hcode : jv_code y pc = some (.arraylength, 1)) (ha : a < h.2.1 ∨ jv_old a = true) (hc : h.1 a = .inl (4, n, f)) (hg : jE y (pc + 1) Lv (.int (Int32.ofNat n) :: r) h K) : jE y pc Lv (.ref a :: r) h K := by
  refine jx_heap hy hcode rfl rfl rfl rfl rfl rfl (st' := .int (Int32.ofNat n) :: r) (h1 := h) ?_ hg
  have h1 : a < h.2.1 ∨ (a = 1000000 ∧ sow y = 10) ∨ jv_old a = true := ha.imp id Or.inr
  have h2 : ((4 : Nat) < 2 ∨ (4 : Nat) = 4) ∧ a < h.2.1 ∨ (4 : Nat) = 9 ∧ a = 1000000 ∨ (4 : Nat) = 4 ∧ jv_old a = true := ha.imp (fun q => ⟨Or.inr rfl, q⟩) (fun q => Or.inr ⟨rfl, q⟩)
  show (if a < h.2.1 ∨ (a = 1000000 ∧ sow y = 10) ∨ jv_old a = true then match h.1 a with
      | .inl (ty, n, _) => if (ty < 2 ∨ ty = 4) ∧ a < h.2.1 ∨ ty = 9 ∧ a = 1000000 ∨ ty = 4 ∧ jv_old a = true then some (.int (Int32.ofNat n) :: r, h) else none
      | .inr (.inl (ty, n, _)) => if (2 ≤ ty ∧ ty ≤ 6 ∧ ty ≠ 4) ∧ a < h.2.1 then some (.int (Int32.ofNat n) :: r, h) else none
      | _ => none else none) = _
  rw [if_pos h1, hc]
  exact if_pos h2
theorem jx_bald {a n : Nat} {f : Nat → Int32} {x : Int32} (hy : y < 272) (hcode : jv_code y pc = some (.baload, 1)) (ha : a < h.2.1 ∨ jv_old a = true) (hc : h.1 a = .inl (4, n, f)) (hx : ¬ (x < 0 ∨ n ≤ x.toNatClampNeg)) (hg : jE y (pc + 1) Lv (.int (f x.toNatClampNeg) :: r) h K) : jE y pc Lv (.int x :: .ref a :: r) h K := by
  refine jx_heap hy hcode rfl rfl rfl rfl rfl rfl (st' := .int (f x.toNatClampNeg) :: r) (h1 := h) ?_ hg
  show (if a < h.2.1 ∨ jv_old a = true then match h.1 a with
      | .inl (ty, n, f) => if (ty = 1 ∧ a < h.2.1 ∨ ty = 4) ∧ ¬ (x < 0 ∨ n ≤ x.toNatClampNeg) then some (.int (f x.toNatClampNeg) :: r, h) else none
      | _ => none else none) = _
  rw [if_pos ha, hc]
  exact if_pos ⟨Or.inr rfl, hx⟩
/-- what the tables say of a call: at y's pc of method z, which takes na words and has mL places; ck tells how it is called, ow whose it is -/
def jx_chk (y pc z na mL ck ow : Nat) : Bool := match jv_code y pc, jv_inf y, jv_inf z with
  | some (i, 3), some (o1, _, _, _, fr, lo), some (o2, kd2, na2, mL2, fr2, lo2) => match jv_isC i with
    | some (ck', idx) => decide (ck' = ck ∧ (jv_cal o1 idx).map (fun q => (q.1, q.2.1)) = some (z, na) ∧ z < 900 ∧ o2 = ow ∧ na2 = na ∧ mL2 = mL ∧ na ≤ mL ∧ (kd2 = ck ∨ ck = 2 ∧ kd2 = 3 ∨ ck = 1 ∧ kd2 = 5) ∧ fr2 + 1 ≤ fr ∧ 19 + mL + lo2 ≤ lo)
    | none => false
  | _, _, _ => false
theorem jx_call {z na mL ck ow : Nat} (hD : jx_chk y pc z na mL ck ow = true) (hn : na ≤ st.length) (hw1 : jv_wd (st.drop na) ≤ 8) (hw2 : jv_wd (st.take na) = na) (hr : ck = 0 ∨ ∃ (a d : Nat) (fs : List Value), (st.take na).getLast? = some (.ref a) ∧ (a < h.2.1 ∨ (jv_old a = true ∧ ck = 1)) ∧ h.1 a = .inr (.inr (d, fs)) ∧ d = jv_rc ow)
    (hg : jE z 0 ((st.take na).reverse.map some ++ List.replicate (mL - na) none) [] h (fun r1 h1 => jE y (pc + 3) Lv (r1.toList ++ st.drop na) h1 K)) : jE y pc Lv st h K := by
  unfold jx_chk at hD
  split at hD
  · rename_i i o1 _ _ _ fr lo o2 kd2 na2 mL2 fr2 lo2 hcode hinf hinf2
    split at hD
    · rename_i ck' idx hC
      obtain ⟨rfl, hcal, hz, e1, e2, e3, hnm, hk, hfr, hlo⟩ := of_decide_eq_true hD
      rw [e1, e2, e3] at hinf2
      cases hcal2 : jv_cal o1 idx with
      | none => rw [hcal2] at hcal; cases hcal
      | some q =>
        obtain ⟨z', na', ne⟩ := q
        rw [hcal2] at hcal
        cases hcal
        obtain ⟨r, h', ⟨N1, hN1⟩, r2, h2', ⟨N2, hN2⟩, hK⟩ := hg
        have hmay : jv_may ck' fr lo (ow, kd2, na', mL, fr2, lo2) na' st h = true := by
          unfold jv_may
          rw [Bool.and_eq_true]
          refine ⟨decide_eq_true ⟨hk, rfl, hn, hnm, hfr, hlo, hw1, hw2⟩, ?_⟩
          rcases hr with rfl | ⟨a, d, fs, e1, e2, e3, e4⟩
          · rfl
          · match ck', e2 with
            | 0, _ => rfl
            | n + 1, e2 =>
              show (match (st.take na').getLast? with
                | some (.ref a) => (decide (a < h.2.1) || (jv_old a && decide (n + 1 = 1))) && (match h.1 a with
                  | .inr (.inr (d, _)) => decide (d = jv_rc ow)
                  | _ => false)
                | _ => false) = true
              rw [e1]
              show ((decide (a < h.2.1) || (jv_old a && decide (n + 1 = 1))) && (match h.1 a with
                  | .inr (.inr (d, _)) => decide (d = jv_rc ow)
                  | _ => false)) = true
              rw [e3, Bool.and_eq_true, Bool.or_eq_true, Bool.and_eq_true]
              exact ⟨e2.imp decide_eq_true (fun q => ⟨q.1, decide_eq_true q.2⟩), decide_eq_true e4⟩
        refine ⟨r2, h2', ⟨N1 + N2 + 1, fun n hn2 => ?_⟩, hK⟩
        obtain ⟨m, rfl⟩ : ∃ m, n = m + 1 := ⟨n - 1, by omega⟩
        rw [jv_run_call hinf hcode hC hcal2 (by omega) (by omega) (by omega) (by omega) hinf2 hmay (hN1 m (by omega))]
        exact hN2 m (by omega)
    · cases hD
  · cases hD
/-- String.checkIndex, of a good index -/
def jx_chkI (y pc : Nat) : Bool := match jv_code y pc, jv_inf y with
  | some (i, 3), some (o1, _, _, _, fr, lo) => match jv_isC i with
    | some (ck, idx) => decide (ck = 0 ∧ (jv_cal o1 idx).map (fun q => q.1) = some 903 ∧ 3 ≤ fr ∧ 90 ≤ lo)
    | none => false
  | _, _ => false
theorem jx_cidx {n x : Int32} (hD : jx_chkI y pc = true) (hx : 0 ≤ x ∧ x < n) (hw : jv_wd r ≤ 8) (hg : jE y (pc + 3) Lv r h K) : jE y pc Lv (.int n :: .int x :: r) h K := by
  unfold jx_chkI at hD
  split at hD
  · rename_i i o1 _ _ _ fr lo hcode hinf
    split at hD
    · rename_i ck idx hC
      obtain ⟨rfl, hcal, hfr, hlo⟩ := of_decide_eq_true hD
      cases hcal2 : jv_cal o1 idx with
      | none => rw [hcal2] at hcal; cases hcal
      | some q =>
        obtain ⟨z', na', ne⟩ := q
        rw [hcal2] at hcal
        cases hcal
        obtain ⟨r2, h', e, k⟩ := hg
        refine ⟨r2, h', jv_ev_step (fun m => ?_) e, k⟩
        have e2 : jv_cidx (.int n :: .int x :: r) = some r := if_pos hx
        rw [jv_run]
        simp only [hinf, hcode, jv_ret_no (jv_isC_noR hC), hC, hcal2, e2]
        rw [if_neg (by decide), if_pos trivial, if_pos ⟨trivial, hfr, hlo, hw⟩]
    · cases hD
  · cases hD
end JX
theorem j255u (w : Int32) : (w &&& 255).toUInt32 % 65536 = (w &&& 255).toUInt32 := by
  apply UInt32.toNat_inj.mp
  rw [UInt32.toNat_mod]
  have h : (w &&& 255).toUInt32.toNat ≤ 255 := by
    show (w.toUInt32 &&& 255).toNat ≤ 255
    rw [UInt32.toNat_and]
    exact Nat.and_le_right
  exact Nat.mod_eq_of_lt (Nat.lt_of_le_of_lt h (by decide))
theorem j255 (w : Int32) : ((w &&& 255).toUInt32 % 65536).toInt32 = w &&& 255 := by
  rw [j255u]
  rfl
theorem j255n (w : Int32) : narrow .char (.int (w &&& 255)) = .int (w &&& 255) := by
  exact congrArg Value.int (j255 w)
/-! TEXTS: length and letters of any String -/
section JST2
variable {h : jv_H} {a v n : Nat} {f : Nat → Int32}
/-- at a stands a text of the n bytes f -/
def jTx (h : jv_H) (a n : Nat) (f : Nat → Int32) : Prop := (a < h.2.1 ∨ jv_old a = true) ∧ ∃ v tl, h.1 a = .inr (.inr (8, .ref v :: .int 0 :: tl)) ∧ (v < h.2.1 ∨ jv_old v = true) ∧ ∃ m g, h.1 v = .inl (4, m, g) ∧ m = n ∧ ∀ j, j < n → g j = f j
theorem js_coder {K : jK} (ha : a < h.2.1 ∨ jv_old a = true) {tl : List Value} (hc : h.1 a = .inr (.inr (8, .ref v :: .int 0 :: tl))) (hK : K (some (.int 0)) h) : jE 156 0 [some (.ref a)] [] h K := by
  refine jx_sta (idx := 38) (v := .int 1) (by decide) (by decide +kernel) (by decide +kernel) ?_
  refine jx_if (c := .eq) (off := 10) (b := 13) (by decide) (by decide +kernel) (by decide) (fun e => absurd e (by decide)) (fun _ => ?_)
  refine jx_ld (i := .aload_n 0) (len := 1) (st' := [.ref a]) (by decide) (by decide +kernel) rfl rfl rfl rfl ?_
  refine jx_getf (idx := 15) (cx := 8) (k := 1) (by decide) (by decide +kernel) (by decide +kernel) ha hc rfl ?_
  refine jx_goto (off := 4) (b := 14) (by decide) (by decide +kernel) (by decide) ?_
  exact jx_iret .byte (by decide) (by decide +kernel) (by decide +kernel) rfl hK
theorem js_latin {K : jK} (ha : a < h.2.1 ∨ jv_old a = true) {tl : List Value} (hc : h.1 a = .inr (.inr (8, .ref v :: .int 0 :: tl))) (hK : K (some (.int 1)) h) : jE 157 0 [some (.ref a)] [] h K := by
  refine jx_sta (idx := 38) (v := .int 1) (by decide) (by decide +kernel) (by decide +kernel) ?_
  refine jx_if (c := .eq) (off := 14) (b := 17) (by decide) (by decide +kernel) (by decide) (fun e => absurd e (by decide)) (fun _ => ?_)
  refine jx_ld (i := .aload_n 0) (len := 1) (st' := [.ref a]) (by decide) (by decide +kernel) rfl rfl rfl rfl ?_
  refine jx_getf (idx := 15) (cx := 8) (k := 1) (by decide) (by decide +kernel) (by decide +kernel) ha hc rfl ?_
  refine jx_if (c := .ne) (off := 7) (b := 17) (by decide) (by decide +kernel) (by decide) (fun e => absurd e (by decide)) (fun _ => ?_)
  refine jx_pure (i := .iconst 1) (len := 1) (st' := [.int 1]) (by decide) (by decide +kernel) rfl rfl rfl ?_
  refine jx_goto (off := 4) (b := 18) (by decide) (by decide +kernel) (by decide) ?_
  exact jx_iret .boolean (by decide) (by decide +kernel) (by decide +kernel) rfl hK
theorem js_len {K : jK} (ht : jTx h a n f) (hK : K (some (.int (Int32.ofNat n))) h) : jE 152 0 [some (.ref a)] [] h K := by
  obtain ⟨ha, v, tl, hc, hv, m, g, hb, rfl, hg⟩ := ht
  refine jx_ld (i := .aload_n 0) (len := 1) (st' := [.ref a]) (by decide) (by decide +kernel) rfl rfl rfl rfl ?_
  refine jx_getf (idx := 9) (cx := 8) (k := 0) (by decide) (by decide +kernel) (by decide +kernel) ha hc rfl ?_
  refine jx_blen (by decide) (by decide +kernel) hv hb ?_
  refine jx_ld (i := .aload_n 0) (len := 1) (st' := [.ref a, .int (Int32.ofNat m)]) (by decide) (by decide +kernel) rfl rfl rfl rfl ?_
  refine jx_call (z := 156) (na := 1) (mL := 1) (ck := 1) (ow := 8) (by decide +kernel) (by show 1 ≤ 2; decide) (Nat.le_of_ble_eq_true rfl) rfl (Or.inr ⟨a, 8, _, rfl, ha.imp id (fun q => ⟨q, rfl⟩), hc, rfl⟩) ?_
  refine js_coder ha hc ?_
  refine jx_pure (i := .ishr) (len := 1) (st' := [.int (Int32.ofNat m)]) (by decide) (by decide +kernel) rfl rfl ?_ ?_
  · show some [Value.int (Int32.ofNat m >>> ((0 : Int32) &&& 31))] = _
    rw [show (0 : Int32) &&& 31 = 0 by decide, Int32.shiftRight_zero]
  exact jx_iret .int (by decide) (by decide +kernel) (by decide +kernel) rfl hK
theorem js_chr {K : jK} {x : Int32} (hx : 0 ≤ x ∧ x < Int32.ofNat n) (hn : n < 2147483648) (hv : v < h.2.1 ∨ jv_old v = true) (hb : h.1 v = .inl (4, n, f)) (hK : K (some (.int (f x.toNatClampNeg &&& 255))) h) : jE 182 0 [some (.ref v), some (.int x)] [] h K := by
  refine jx_ld (i := .iload_n 1) (len := 1) (st' := [.int x]) (by decide) (by decide +kernel) rfl rfl rfl rfl ?_
  refine jx_ld (i := .aload_n 0) (len := 1) (st' := [.ref v, .int x]) (by decide) (by decide +kernel) rfl rfl rfl rfl ?_
  refine jx_blen (by decide) (by decide +kernel) hv hb ?_
  refine jx_cidx (by decide +kernel) hx (Nat.le_of_ble_eq_true rfl) ?_
  refine jx_ld (i := .aload_n 0) (len := 1) (st' := [.ref v]) (by decide) (by decide +kernel) rfl rfl rfl rfl ?_
  refine jx_ld (i := .iload_n 1) (len := 1) (st' := [.int x, .ref v]) (by decide) (by decide +kernel) rfl rfl rfl rfl ?_
  refine jx_bald (by decide) (by decide +kernel) hv hb ?_ ?_
  · have e : (Int32.ofNat n).toInt = n := Int32.toInt_ofNat_of_lt (by omega)
    obtain ⟨i1, i2⟩ := hx
    rw [Int32.lt_iff_toInt_lt, e] at i2
    rw [Int32.le_iff_toInt_le] at i1
    have i1 : 0 ≤ x.toInt := i1
    have en : x.toNatClampNeg = x.toInt.toNat := rfl
    intro q
    rcases q with q | q
    · rw [Int32.lt_iff_toInt_lt] at q
      have q : x.toInt < 0 := q
      omega
    · omega
  refine jx_pure (i := .sipush 255) (len := 3) (st' := [.int 255, .int (f x.toNatClampNeg)]) (by decide) (by decide +kernel) rfl rfl rfl ?_
  refine jx_pure (i := .iand) (len := 1) (st' := [.int (f x.toNatClampNeg &&& 255)]) (by decide) (by decide +kernel) rfl rfl rfl ?_
  refine jx_pure (i := .i2c) (len := 1) (st' := [.int (f x.toNatClampNeg &&& 255)]) (by decide) (by decide +kernel) rfl rfl ?_ ?_
  · exact congrArg (fun w => some [Value.int w]) (j255 _)
  exact jx_iret .char (by decide) (by decide +kernel) (by decide +kernel) (j255n _) hK
theorem js_at {K : jK} {x : Int32} (ht : jTx h a n f) (hn : n < 2147483648) (hx : 0 ≤ x ∧ x < Int32.ofNat n) (hK : K (some (.int (f x.toNatClampNeg &&& 255))) h) : jE 153 0 [some (.ref a), some (.int x)] [] h K := by
  obtain ⟨ha, v, tl, hc, hv, m, g, hb, rfl, hg⟩ := ht
  have hlt : x.toNatClampNeg < m := by
    have e : (Int32.ofNat m).toInt = m := Int32.toInt_ofNat_of_lt (by omega)
    obtain ⟨i1, i2⟩ := hx
    rw [Int32.lt_iff_toInt_lt, e] at i2
    rw [Int32.le_iff_toInt_le] at i1
    have i1 : 0 ≤ x.toInt := i1
    have en : x.toNatClampNeg = x.toInt.toNat := rfl
    omega
  refine jx_ld (i := .aload_n 0) (len := 1) (st' := [.ref a]) (by decide) (by decide +kernel) rfl rfl rfl rfl ?_
  refine jx_call (z := 157) (na := 1) (mL := 1) (ck := 1) (ow := 8) (by decide +kernel) (by show 1 ≤ 1; decide) (Nat.le_of_ble_eq_true rfl) rfl (Or.inr ⟨a, 8, _, rfl, ha.imp id (fun q => ⟨q, rfl⟩), hc, rfl⟩) ?_
  refine js_latin ha hc ?_
  refine jx_if (c := .eq) (off := 12) (b := 16) (by decide) (by decide +kernel) (by decide) (fun e => absurd e (by decide)) (fun _ => ?_)
  refine jx_ld (i := .aload_n 0) (len := 1) (st' := [.ref a]) (by decide) (by decide +kernel) rfl rfl rfl rfl ?_
  refine jx_getf (idx := 9) (cx := 8) (k := 0) (by decide) (by decide +kernel) (by decide +kernel) ha hc rfl ?_
  refine jx_ld (i := .iload_n 1) (len := 1) (st' := [.int x, .ref v]) (by decide) (by decide +kernel) rfl rfl rfl rfl ?_
  refine jx_call (z := 182) (na := 2) (mL := 2) (ck := 0) (ow := 14) (by decide +kernel) (by show 2 ≤ 2; decide) (Nat.le_of_ble_eq_true rfl) rfl (Or.inl rfl) ?_
  refine js_chr hx hn hv hb ?_
  rw [hg _ hlt]
  exact jx_iret .char (by decide) (by decide +kernel) (by decide +kernel) (j255n _) hK
end JST2
