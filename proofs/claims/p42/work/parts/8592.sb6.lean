/-! A BUILDER'S TEXT -/
section SB6
variable {h : jv_H} {K : jK} {q v m : Nat} {w : List Int32}
def jx_chkC (y pc : Nat) : Bool := match jv_code y pc, jv_inf y with
  | some (i, 3), some (o1, _, _, _, fr, lo) => match jv_isC i with
    | some (ck, idx) => decide (ck = 1 ∧ (jv_cal o1 idx).map (fun q => q.1) = some 905 ∧ 1 ≤ fr ∧ 40 ≤ lo)
    | none => false
  | _, _ => false
theorem jx_cln {y pc : Nat} {Lv : List (Option Value)} {r : List Value} {s k : Nat} {f : Nat → Int32} (hD : jx_chkC y pc = true) (hs : s < h.2.1) (es : h.1 s = .inl (4, k, f)) (hf : ∀ i, i < k → fits .byte (.int (f i)) = true) (hw : jv_wd r ≤ 8) (hg : jE y (pc + 3) Lv (.ref h.2.1 :: r) (jv_add h (.inl (4, k, f)) k) K) : jE y pc Lv (.ref s :: r) h K := by
  unfold jx_chkC at hD
  split at hD
  · rename_i i o1 _ _ _ fr lo hcode hinf
    split at hD
    · rename_i ck idx hC
      obtain ⟨rfl, hcal, hfr, hlo⟩ := of_decide_eq_true hD
      cases hcal2 : jv_cal o1 idx with
      | none => rw [hcal2] at hcal; cases hcal
      | some q =>
        obtain ⟨z', na', ne⟩ := q
        rw [hcal2] at hcal
        cases hcal
        obtain ⟨r2, h', e, k9⟩ := hg
        refine ⟨r2, h', jv_ev_step (fun m => ?_) e, k9⟩
        have e2 : jv_cln (.ref s :: r) h = some (.ref h.2.1 :: r, jv_add h (.inl (4, k, f)) k) := by
          unfold jv_cln
          simp only []
          rw [if_pos hs, es]
          exact if_pos (List.all_eq_true.mpr (fun i hi => hf i (List.mem_range.mp hi)))
        rw [jv_run]
        simp only [hinf, hcode, jv_ret_no (jv_isC_noR hC), hC, hcal2, e2]
        rw [if_neg (by decide), if_neg (by decide), if_neg (by decide), if_pos trivial, if_pos ⟨trivial, hfr, hlo, hw⟩]
    · cases hD
  · cases hD
theorem jx_chk311 {pc s k : Nat} {f : Nat → Int32} {Lv : List (Option Value)} {r : List Value} (hcode : jv_code 185 pc = some (.checkcast 311, 3)) (hs : s < h.2.1) (es : h.1 s = .inl (4, k, f)) (hg : jE 185 (pc + 3) Lv (.ref s :: r) h K) : jE 185 pc Lv (.ref s :: r) h K := by
  refine jx_heap (by decide) hcode rfl rfl rfl rfl rfl rfl (st' := .ref s :: r) (h1 := h) ?_ hg
  show (if s < h.2.1 ∧ sow 185 = 15 ∧ 311 = 311 then match h.1 s with
      | .inl (ty, _, _) => if ty = 4 then some (.ref s :: r, h) else none
      | _ => none else none) = _
  rw [if_pos ⟨hs, by decide +kernel, rfl⟩, es]
  exact if_pos rfl
theorem sb_chl {n : Nat} (hn : n < 2147483648) (hK : K none h) : jE 187 0 [some (.int 0), some (.int (Int32.ofNat n))] [] h K := by
  refine jx_blk (by decide) [(.iload_n 1, 1), (.iload_n 0, 1)] (pc' := 2) (Lv' := [some (.int 0), some (.int (Int32.ofNat n))]) (st' := [.int 0, .int (Int32.ofNat n)]) (by decide +kernel) rfl ?_
  refine jx_ic_ge (off := 35) (b := 37) (by decide) (by decide +kernel) (by decide) (fun _ => ?_) (fun e => absurd e (i_nn hn))
  exact jx_vret (by decide) (by decide +kernel) (by decide +kernel) hK
theorem sb_cor0 {n : Nat} {g : Nat → Int32} (hv : v < h.2.1) (e2 : h.1 v = .inl (4, m, g)) (hfit : ∀ j, j < m → fits .byte (.int (g j)) = true) (hnm : n ≤ m) (hm : m ≤ 8002) (hK : ∀ h' g', h'.2.1 = h.2.1 + 1 → h'.2.2 = h.2.2 + n → (∀ b, b ≠ h.2.1 → h'.1 b = h.1 b) → h'.1 h.2.1 = .inl (4, n, g') → (∀ j, j < n → g' j = g j) → K (some (.ref h.2.1)) h') : jE 186 0 [some (.ref v), some (.int 0), some (.int (Int32.ofNat n)), none, none] [] h K := by
  refine jx_blk (by decide) [(.iload_n 1, 1), (.iload_n 2, 1)] (pc' := 2) (Lv' := [some (.ref v), some (.int 0), some (.int (Int32.ofNat n)), none, none]) (st' := [.int (Int32.ofNat n), .int 0]) (by decide +kernel) rfl ?_
  refine jx_call (z := 187) (na := 2) (mL := 2) (ck := 0) (ow := 15) (by decide +kernel) (by show 2 ≤ 2; decide) (Nat.le_of_ble_eq_true rfl) rfl (Or.inl rfl) ?_
  refine sb_chl (by omega) ?_
  show jE 186 5 [some (.ref v), some (.int 0), some (.int (Int32.ofNat n)), none, none] [] h K
  refine jx_blk (by decide) [(.iload_n 2, 1), (.iload_n 1, 1), (.isub, 1)] (pc' := 8) (Lv' := [some (.ref v), some (.int 0), some (.int (Int32.ofNat n)), none, none]) (st' := [.int ((Int32.ofNat n) - 0)]) (by decide +kernel) rfl ?_
  rw [show Int32.ofNat n - 0 = Int32.ofNat n from Int32.sub_zero _]
  refine jx_blk (by decide) [(.istore_n 3, 1), (.iload_n 3, 1)] (pc' := 10) (Lv' := [some (.ref v), some (.int 0), some (.int (Int32.ofNat n)), some (.int (Int32.ofNat n)), none]) (st' := [.int (Int32.ofNat n)]) (by decide +kernel) rfl ?_
  refine jx_newb (k := n) (by decide) (by decide +kernel) ⟨i_nat (by omega), i_nn (by omega), by omega⟩ ?_
  refine jx_blk (by decide) [(.astore 4, 2), (.aload_n 0, 1), (.iload_n 1, 1), (.aload 4, 2), (.iconst 0, 1), (.aload_n 0, 1)] (pc' := 20) (Lv' := [some (.ref v), some (.int 0), some (.int (Int32.ofNat n)), some (.int (Int32.ofNat n)), some (.ref h.2.1)]) (st' := [.ref v, .int 0, .ref h.2.1, .int 0, .ref v]) (by decide +kernel) rfl ?_
  generalize hh1 : jv_add h (.inl (4, n, fun _ => 0)) n = h1 at *
  have t1 : h1.2.1 = h.2.1 + 1 := by rw [← hh1]; rfl
  have t2 : h1.2.2 = h.2.2 + n := by rw [← hh1]; rfl
  have c1 : h1.1 v = .inl (4, m, g) := by rw [← hh1, jv_at_add hv]; exact e2
  have c2 : h1.1 h.2.1 = .inl (4, n, fun _ => 0) := by rw [← hh1]; exact jv_at_new
  have c3 : ∀ b, b ≠ h.2.1 → h1.1 b = h.1 b := by
    intro b hb
    rw [← hh1]
    show jv_up h.1 h.2.1 _ b = _
    unfold jv_up
    rw [if_neg hb]
  have emin : (if Int32.ofNat m > Int32.ofNat n then Int32.ofNat n else Int32.ofNat m) = Int32.ofNat n := by
    by_cases z : n < m
    · exact if_pos ((i_lt (by omega) (by omega)).mpr z)
    · have : m = n := by omega
      subst this
      exact if_neg (fun y => z ((i_lt (by omega) (by omega)).mp y))
  refine jx_blen (by decide) (by decide +kernel) (Or.inl (by omega)) c1 ?_
  refine jx_blk (by decide) [(.iload_n 1, 1), (.isub, 1)] (pc' := 23) (Lv' := [some (.ref v), some (.int 0), some (.int (Int32.ofNat n)), some (.int (Int32.ofNat n)), some (.ref h.2.1)]) (st' := [.int ((Int32.ofNat m) - 0), .int 0, .ref h.2.1, .int 0, .ref v]) (by decide +kernel) rfl ?_
  rw [show Int32.ofNat m - 0 = Int32.ofNat m from Int32.sub_zero _]
  refine jx_blk (by decide) [(.iload_n 3, 1)] (pc' := 24) (Lv' := [some (.ref v), some (.int 0), some (.int (Int32.ofNat n)), some (.int (Int32.ofNat n)), some (.ref h.2.1)]) (st' := [.int (Int32.ofNat n), .int (Int32.ofNat m), .int 0, .ref h.2.1, .int 0, .ref v]) (by decide +kernel) rfl ?_
  refine jx_call (z := 181) (na := 2) (mL := 2) (ck := 0) (ow := 13) (by decide +kernel) (by show 2 ≤ 6; decide) (Nat.le_of_ble_eq_true rfl) rfl (Or.inl rfl) ?_
  refine sb_min ?_
  rw [emin]
  show jE 186 27 [some (.ref v), some (.int 0), some (.int (Int32.ofNat n)), some (.int (Int32.ofNat n)), some (.ref h.2.1)] [.int (Int32.ofNat n), .int 0, .ref h.2.1, .int 0, .ref v] h1 K
  refine jx_acpy (n := Int32.ofNat n) (dp := 0) (sp := 0) (by decide +kernel) (Or.inl (by omega)) (by omega) (by omega) c1 c2 ⟨i_nn (by omega), by decide, by decide⟩ (by rw [i_nat (by omega)]; show 0 + n ≤ m; omega) (by rw [i_nat (by omega)]; show 0 + n ≤ n; omega) (fun j hj => ?_) (Nat.le_of_ble_eq_true rfl) ?_
  · rw [i_nat (by omega)] at hj
    show fits .byte (.int (g (0 + j))) = true
    exact hfit _ (by omega)
  rw [i_nat (by omega)]
  refine jx_blk (by decide) [(.aload 4, 2)] (pc' := 32) (Lv' := [some (.ref v), some (.int 0), some (.int (Int32.ofNat n)), some (.int (Int32.ofNat n)), some (.ref h.2.1)]) (st' := [.ref h.2.1]) (by decide +kernel) rfl ?_
  refine jx_aret (by decide) (by decide +kernel) (Or.inl ⟨.byte, by decide +kernel⟩) (hK _ _ t1 t2 (fun b hb => (jv_at_pne hb).trans (c3 b hb)) jv_at_put (fun j hj => ?_))
  show va_cpy g (fun _ => 0) 0 0 n j = _
  unfold va_cpy
  rw [if_pos (by omega), show 0 + (j - 0) = j by omega]
theorem sb_cor {n : Nat} {g : Nat → Int32} (hv : v < h.2.1) (e2 : h.1 v = .inl (4, m, g)) (hfit : ∀ j, j < m → fits .byte (.int (g j)) = true) (hnm : n ≤ m) (hm : m ≤ 8002) (hK : ∀ h' g', h'.2.1 = h.2.1 + 1 → h'.2.2 = h.2.2 + n → (∀ b, b ≠ h.2.1 → h'.1 b = h.1 b) → h'.1 h.2.1 = .inl (4, n, g') → (∀ j, j < n → g' j = g j) → K (some (.ref h.2.1)) h') : jE 185 0 [some (.ref v), some (.int 0), some (.int (Int32.ofNat n))] [] h K := by
  refine jx_blk (by decide) [(.iload_n 1, 1)] (pc' := 1) (Lv' := [some (.ref v), some (.int 0), some (.int (Int32.ofNat n))]) (st' := [.int 0]) (by decide +kernel) rfl ?_
  refine jx_if_ne (off := 9) (b := 10) (by decide) (by decide +kernel) (by decide) (fun e => absurd rfl e) (fun _ => ?_)
  refine jx_blk (by decide) [(.iload_n 2, 1), (.aload_n 0, 1)] (pc' := 6) (Lv' := [some (.ref v), some (.int 0), some (.int (Int32.ofNat n))]) (st' := [.ref v, .int (Int32.ofNat n)]) (by decide +kernel) rfl ?_
  refine jx_blen (by decide) (by decide +kernel) (Or.inl hv) e2 ?_
  refine jx_ic_eq (off := 10) (b := 17) (by decide) (by decide +kernel) (by decide) (fun e => ?_) (fun e => ?_)
  · have e : n = m := by
      have := congrArg Int32.toInt e
      rw [Int32.toInt_ofNat_of_lt (by omega), Int32.toInt_ofNat_of_lt (by omega)] at this
      omega
    subst e
    refine jx_blk (by decide) [(.aload_n 0, 1)] (pc' := 18) (Lv' := [some (.ref v), some (.int 0), some (.int (Int32.ofNat n))]) (st' := [.ref v]) (by decide +kernel) rfl ?_
    refine jx_cln (by decide +kernel) hv e2 hfit (Nat.le_of_ble_eq_true rfl) ?_
    refine jx_chk311 (k := n) (f := g) (by decide +kernel) (Nat.lt_succ_self _) jv_at_new ?_
    refine jx_aret (by decide) (by decide +kernel) (Or.inl ⟨.byte, by decide +kernel⟩) (hK _ g rfl rfl (fun b hb => ?_) jv_at_new (fun j hj => rfl))
    show jv_up h.1 h.2.1 _ b = _
    unfold jv_up
    rw [if_neg hb]
  · refine jx_blk (by decide) [(.aload_n 0, 1), (.iload_n 1, 1), (.iload_n 2, 1)] (pc' := 13) (Lv' := [some (.ref v), some (.int 0), some (.int (Int32.ofNat n))]) (st' := [.int (Int32.ofNat n), .int 0, .ref v]) (by decide +kernel) rfl ?_
    refine jx_call (z := 186) (na := 3) (mL := 5) (ck := 0) (ow := 15) (by decide +kernel) (by show 3 ≤ 3; decide) (Nat.le_of_ble_eq_true rfl) rfl (Or.inl rfl) ?_
    refine sb_cor0 hv e2 hfit hnm hm (fun h' g' z1 z2 z3 z4 z5 => ?_)
    exact jx_aret (by decide) (by decide +kernel) (Or.inl ⟨.byte, by decide +kernel⟩) (hK h' g' z1 z2 z3 z4 z5)
theorem f8_1 : jv_fty 8 1 = .byte := by decide +kernel
theorem f8_0 : jv_fty 8 0 = .array .byte := by decide +kernel
/-- a text just made, of the letters w -/
def jNT (h h' : jv_H) (a : Nat) (w : List Int32) : Prop := h'.2.1 = h.2.1 + 1 ∧ h'.2.2 = h.2.2 + w.length ∧ (∀ b, b ≠ a → b ≠ h.2.1 → h'.1 b = h.1 b) ∧ (∃ tl, h'.1 a = .inr (.inr (8, .ref h.2.1 :: .int 0 :: tl))) ∧ ∃ g, h'.1 h.2.1 = .inl (4, w.length, g) ∧ ∀ j, j < w.length → g j = w.getD j 0
theorem sb_ts0 {a : Nat} {x y za zb : Value} (hs : jSB h q v m w) (ha : a < h.2.1) (haq : a ≠ q) (hav : a ≠ v) (e0 : h.1 a = .inr (.inr (8, [x, y, za, zb]))) (hK : ∀ h', jNT h h' a w → K none h') : jE 155 0 [some (.ref a), some (.ref q), some .null, none, none] [] h K := by
  obtain ⟨ml, e1⟩ := hs.o
  refine jx_blk (by decide) [(.aload_n 0, 1)] (pc' := 1) (Lv' := [some (.ref a), some (.ref q), some .null, none, none]) (st' := [.ref a]) (by decide +kernel) rfl ?_
  refine jx_obj (by decide +kernel) (Nat.le_of_ble_eq_true rfl) ?_
  refine jx_blk (by decide) [(.aload_n 1, 1)] (pc' := 5) (Lv' := [some (.ref a), some (.ref q), some .null, none, none]) (st' := [.ref q]) (by decide +kernel) rfl ?_
  refine jx_call (z := 176) (na := 1) (mL := 1) (ck := 1) (ow := 11) (by decide +kernel) (by show 1 ≤ 1; decide) (Nat.le_of_ble_eq_true rfl) rfl (Or.inr ⟨q, 9, _, rfl, Or.inl hs.1.1, e1, rfl⟩) ?_
  refine sb_val hs ?_
  show jE 155 8 [some (.ref a), some (.ref q), some .null, none, none] [.ref v] h K
  refine jx_blk (by decide) [(.astore_n 3, 1), (.aload_n 1, 1)] (pc' := 10) (Lv' := [some (.ref a), some (.ref q), some .null, some (.ref v), none]) (st' := [.ref q]) (by decide +kernel) rfl ?_
  refine jx_call (z := 165) (na := 1) (mL := 1) (ck := 1) (ow := 9) (by decide +kernel) (by show 1 ≤ 1; decide) (Nat.le_of_ble_eq_true rfl) rfl (Or.inr ⟨q, 9, _, rfl, Or.inl hs.1.1, e1, rfl⟩) ?_
  refine sb_len hs ?_
  show jE 155 13 [some (.ref a), some (.ref q), some .null, some (.ref v), none] [.int (Int32.ofNat w.length)] h K
  refine jx_blk (by decide) [(.istore 4, 2), (.aload_n 1, 1)] (pc' := 16) (Lv' := [some (.ref a), some (.ref q), some .null, some (.ref v), some (.int (Int32.ofNat w.length))]) (st' := [.ref q]) (by decide +kernel) rfl ?_
  refine jx_call (z := 173) (na := 1) (mL := 1) (ck := 1) (ow := 11) (by decide +kernel) (by show 1 ≤ 1; decide) (Nat.le_of_ble_eq_true rfl) rfl (Or.inr ⟨q, 9, _, rfl, Or.inl hs.1.1, e1, rfl⟩) ?_
  refine sb_latin hs ?_
  show jE 155 19 [some (.ref a), some (.ref q), some .null, some (.ref v), some (.int (Int32.ofNat w.length))] [.int 1] h K
  refine jx_if_eq (off := 22) (b := 41) (by decide) (by decide +kernel) (by decide) (fun e => absurd e (by decide)) (fun _ => ?_)
  refine jx_blk (by decide) [(.aload_n 0, 1), (.iconst 0, 1)] (pc' := 24) (Lv' := [some (.ref a), some (.ref q), some .null, some (.ref v), some (.int (Int32.ofNat w.length))]) (st' := [.int 0, .ref a]) (by decide +kernel) rfl ?_
  refine jx_putf (idx := 15) (cx := 8) (k := 1) (by decide) (by decide +kernel) (by decide +kernel) ha e0 (by show 1 < 4; decide) (by rw [f8_1]; exact ⟨rfl, rfl⟩) (Or.inr (by decide +kernel)) ?_
  generalize hh1 : jv_put h a (.inr (.inr (8, [x, y, za, zb].set 1 (.int 0)))) = h1 at *
  have t1 : h1.2 = h.2 := by rw [← hh1]; rfl
  have e6 : h1.1 a = .inr (.inr (8, [x, .int 0, za, zb])) := by rw [← hh1]; exact jv_at_put
  have y0 : ∀ b, b ≠ a → h1.1 b = h.1 b := fun b hb => by rw [← hh1]; exact jv_at_pne hb
  obtain ⟨g, e3, e4, e5⟩ := hs.2.2.1
  rw [← y0 v (fun z => hav z.symm)] at e3
  have hv1 : v < h1.2.1 := by rw [t1]; exact hs.1.2.1
  have ha1 : a < h1.2.1 := by rw [t1]; exact ha
  have t3 : h1.2.1 = h.2.1 := by rw [t1]
  have t4 : h1.2.2 = h.2.2 := by rw [t1]
  refine jx_blk (by decide) [(.aload_n 0, 1), (.aload_n 3, 1), (.iconst 0, 1), (.iload 4, 2)] (pc' := 32) (Lv' := [some (.ref a), some (.ref q), some .null, some (.ref v), some (.int (Int32.ofNat w.length))]) (st' := [.int (Int32.ofNat w.length), .int 0, .ref v, .ref a]) (by decide +kernel) rfl ?_
  refine jx_call (z := 185) (na := 3) (mL := 3) (ck := 0) (ow := 15) (by decide +kernel) (by show 3 ≤ 4; decide) (Nat.le_of_ble_eq_true rfl) rfl (Or.inl rfl) ?_
  refine sb_cor hv1 e3 e5 hs.2.2.2.1.1 hs.2.2.2.1.2.2 (fun h2 g2 z1 z2 z3 z4 z5 => ?_)
  show jE 155 35 [some (.ref a), some (.ref q), some .null, some (.ref v), some (.int (Int32.ofNat w.length))] [.ref h1.2.1, .ref a] h2 K
  refine jx_putf (idx := 9) (cx := 8) (k := 0) (by decide) (by decide +kernel) (by decide +kernel) (by omega) ((z3 a (by omega)).trans e6) (by show 0 < 4; decide) (by rw [f8_0]; exact ⟨rfl, rfl⟩) (Or.inr (by decide +kernel)) ?_
  refine jx_goto (off := 59) (b := 97) (by decide) (by decide +kernel) (by decide) ?_
  refine jx_vret (by decide) (by decide +kernel) (by decide +kernel) (hK _ ⟨by show h2.2.1 = _; omega, by show h2.2.2 = _; omega, fun b n1 n2 => ?_, ⟨[za, zb], ?_⟩, ⟨g2, ?_, fun j hj => ?_⟩⟩)
  · exact (jv_at_pne n1).trans ((z3 b (by omega)).trans (y0 b n1))
  · rw [← t3]
    exact jv_at_put
  · rw [← t3]
    exact (jv_at_pne (by omega)).trans z4
  · rw [z5 j hj]
    exact e4 j hj
theorem sb_ts1 {a : Nat} {x y za zb : Value} (hs : jSB h q v m w) (ha : a < h.2.1) (haq : a ≠ q) (hav : a ≠ v) (e0 : h.1 a = .inr (.inr (8, [x, y, za, zb]))) (hK : ∀ h', jNT h h' a w → K none h') : jE 151 0 [some (.ref a), some (.ref q)] [] h K := by
  refine jx_blk (by decide) [(.aload_n 0, 1), (.aload_n 1, 1), (.aconst_null, 1)] (pc' := 3) (Lv' := [some (.ref a), some (.ref q)]) (st' := [.null, .ref q, .ref a]) (by decide +kernel) rfl ?_
  refine jx_call (z := 155) (na := 3) (mL := 5) (ck := 2) (ow := 8) (by decide +kernel) (by show 3 ≤ 3; decide) (Nat.le_of_ble_eq_true rfl) rfl (Or.inr ⟨a, 8, _, rfl, Or.inl ha, e0, rfl⟩) ?_
  refine sb_ts0 hs ha haq hav e0 (fun h' z => ?_)
  exact jx_vret (by decide) (by decide +kernel) (by decide +kernel) (hK h' z)
theorem jSB.add {x : jv_E} {k : Nat} (hs : jSB h q v m w) : jSB (jv_add h x k) q v m w := by
  obtain ⟨⟨q1, q2, q3⟩, ⟨ml, e1⟩, ⟨g, e2, e3⟩, l, hl⟩ := hs
  exact ⟨⟨Nat.lt_succ_of_lt q1, Nat.lt_succ_of_lt q2, q3⟩, ⟨ml, (jv_at_add q1).trans e1⟩, ⟨g, (jv_at_add q2).trans e2, e3⟩, l, hl⟩
/-- the text of a builder, at a new place -/
def jTS (h h' : jv_H) (a : Nat) (w : List Int32) : Prop := a = h.2.1 ∧ h'.2.1 = h.2.1 + 2 ∧ h'.2.2 = h.2.2 + 4 + w.length ∧ (∀ b, b < h.2.1 ∨ h'.2.1 ≤ b → h'.1 b = h.1 b) ∧ (∃ tl, h'.1 a = .inr (.inr (8, .ref (a + 1) :: .int 0 :: tl))) ∧ ∃ g, h'.1 (a + 1) = .inl (4, w.length, g) ∧ ∀ j, j < w.length → g j = w.getD j 0
theorem sb_ts (hs : jSB h q v m w) (hK : ∀ a h', jTS h h' a w → K (some (.ref a)) h') : jE 163 0 [some (.ref q)] [] h K := by
  refine jx_newo (idx := 18) (c := 8) (by decide) (by decide +kernel) (by decide +kernel) ?_
  have hs1 : jSB (jv_add h (.inr (.inr (8, (List.range (jv_fn 8)).map (fun k => defaultValue (jv_fty 8 k))))) (jv_fn 8)) q v m w := hs.add
  have y0 : ∀ b, b ≠ h.2.1 → (jv_add h (.inr (.inr (8, (List.range (jv_fn 8)).map (fun k => defaultValue (jv_fty 8 k))))) (jv_fn 8)).1 b = h.1 b := by
    intro b hb
    show jv_up h.1 h.2.1 _ b = _
    unfold jv_up
    rw [if_neg hb]
  have e0 : (jv_add h (.inr (.inr (8, (List.range (jv_fn 8)).map (fun k => defaultValue (jv_fty 8 k))))) (jv_fn 8)).1 h.2.1 = .inr (.inr (8, [defaultValue (jv_fty 8 0), defaultValue (jv_fty 8 1), defaultValue (jv_fty 8 2), defaultValue (jv_fty 8 3)])) := jv_at_new
  have t1 : (jv_add h (.inr (.inr (8, (List.range (jv_fn 8)).map (fun k => defaultValue (jv_fty 8 k))))) (jv_fn 8)).2.1 = h.2.1 + 1 := rfl
  have t2 : (jv_add h (.inr (.inr (8, (List.range (jv_fn 8)).map (fun k => defaultValue (jv_fty 8 k))))) (jv_fn 8)).2.2 = h.2.2 + 4 := rfl
  generalize jv_add h (.inr (.inr (8, (List.range (jv_fn 8)).map (fun k => defaultValue (jv_fty 8 k))))) (jv_fn 8) = h1 at *
  have hq := hs.1.1
  have hv := hs.1.2.1
  refine jx_blk (by decide) [(.dup, 1), (.aload_n 0, 1)] (pc' := 5) (Lv' := [some (.ref q)]) (st' := [.ref q, .ref h.2.1, .ref h.2.1]) (by decide +kernel) rfl ?_
  refine jx_call (z := 151) (na := 2) (mL := 2) (ck := 2) (ow := 8) (by decide +kernel) (by show 2 ≤ 3; decide) (Nat.le_of_ble_eq_true rfl) rfl (Or.inr ⟨h.2.1, 8, _, rfl, Or.inl (by omega), e0, rfl⟩) ?_
  refine sb_ts1 hs1 (by omega) (by omega) (by omega) e0 (fun h' z => ?_)
  obtain ⟨z1, z2, z3, ⟨tl, z4⟩, g, z5, z6⟩ := z
  rw [t1] at z3 z4 z5
  refine jx_aret (by decide) (by decide +kernel) (Or.inr ⟨"java/lang/String", by decide +kernel⟩) (hK h.2.1 h' ⟨rfl, by omega, by omega, fun b hb => ?_, ⟨tl, z4⟩, g, z5, z6⟩)
  rw [z3 b (by omega) (by omega)]
  exact y0 b (by omega)
end SB6
