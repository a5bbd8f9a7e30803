/-! THE J MACHINE IS RIGHT, one instruction at a time: what works on stack and locals -/
section JSND
variable {p : Program} {l : Launch} {e : Env} {R : Room} {s : State} {m : MethodId} {args : Array Value} {below : List Frame} {meth : Method} {c : Code} {H : Heap} {locs : List Loc} {cells slots : Nat} {Q : State → Prop}
variable {cc : ByteArray} {pc : Nat} {ls : Array Slot} {ad : Nat → Nat}
/-- a value, its place turned into an address -/
def jv_vl (ad : Nat → Nat) (v : Value) : Value := match v with
  | .ref a => .ref (ad a)
  | w => w
theorem jv_vl_cat (ad : Nat → Nat) (v : Value) : (jv_vl ad v).category = v.category := by cases v <;> rfl
theorem jv_len1 {i : Instr} {len : Nat} (hl : jv_sw i = true ∨ len = jv_len i) (h : jv_sw i = false) : len = jv_len i := by
  rcases hl with hl | hl
  · rw [h] at hl; cases hl
  · exact hl
theorem jv_two_eq {f : Int32 → Int32 → Int32} {st st' : List Value} (h : jv_two f st = some st') : ∃ (y x : Int32) (r : List Value), st = .int y :: .int x :: r ∧ st' = .int (f x y) :: r := by
  unfold jv_two at h
  split at h
  · cases h; exact ⟨_, _, _, rfl, rfl⟩
  · cases h
set_option maxHeartbeats 4000000 in
theorem jv_pure_ok (hx : p.tables.exec = Jvm.exec) (hb : c.code = cc) {i : Instr} {len : Nat} {st st' : List Value} (hdg : decode cc pc = .ok (i, len)) (hl : jv_sw i = true ∨ len = jv_len i) (h : jv_pure i st = some st')
    (k : W p l e R s m args below meth c H locs cells slots Q (F0 m (pc + len) ls (st'.map (jv_vl ad)))) : W p l e R s m args below meth c H locs cells slots Q (F0 m pc ls (st.map (jv_vl ad))) := by
  unfold jv_pure at h
  split at h
  · have e := jv_len1 hl rfl; subst e; cases h; exact lv_iconst hx hb hdg rfl k
  · have e := jv_len1 hl rfl; subst e; cases h; exact lv_bipush hx hb hdg rfl k
  · have e := jv_len1 hl rfl; subst e; cases h; exact lv_sipush hx hb hdg rfl k
  · have e := jv_len1 hl rfl; subst e; obtain ⟨y, x, r, rfl, rfl⟩ := jv_two_eq h; exact lv_iadd hx hb hdg k
  · have e := jv_len1 hl rfl; subst e; obtain ⟨y, x, r, rfl, rfl⟩ := jv_two_eq h; exact lv_isub hx hb hdg k
  · have e := jv_len1 hl rfl; subst e; obtain ⟨y, x, r, rfl, rfl⟩ := jv_two_eq h; exact lv_imul hx hb hdg k
  · have e := jv_len1 hl rfl; subst e; obtain ⟨y, x, r, rfl, rfl⟩ := jv_two_eq h; exact lv_iand hx hb hdg k
  · have e := jv_len1 hl rfl; subst e; obtain ⟨y, x, r, rfl, rfl⟩ := jv_two_eq h; exact lv_ior hx hb hdg k
  · have e := jv_len1 hl rfl; subst e; obtain ⟨y, x, r, rfl, rfl⟩ := jv_two_eq h; exact lv_ixor hx hb hdg k
  · have e := jv_len1 hl rfl; subst e; obtain ⟨y, x, r, rfl, rfl⟩ := jv_two_eq h; exact lv_ishl hx hb hdg k
  · have e := jv_len1 hl rfl; subst e; obtain ⟨y, x, r, rfl, rfl⟩ := jv_two_eq h; exact lv_ishr hx hb hdg k
  · have e := jv_len1 hl rfl; subst e
    split at h
    · split at h
      · cases h
      · rename_i hne; cases h; exact lv_idiv hx hb hdg hne k
    · cases h
  · have e := jv_len1 hl rfl; subst e
    split at h
    · split at h
      · cases h
      · rename_i hne; cases h; exact lv_irem hx hb hdg hne k
    · cases h
  · have e := jv_len1 hl rfl; subst e
    split at h
    · cases h; exact lv_ineg hx hb hdg k
    · cases h
  · have e := jv_len1 hl rfl; subst e
    split at h
    · rename_i x r; cases h; exact lv_dup (va := .int x) hx hb hdg rfl k
    · rename_i a r; cases h; exact lv_dup (va := .ref (ad a)) hx hb hdg rfl k
    · cases h
  · have e := jv_len1 hl rfl; subst e
    split at h
    · rename_i x a r; cases h; exact lv_dup2_11 (va := .int x) (vb := .ref (ad a)) hx hb hdg rfl rfl k
    · cases h
  · have e := jv_len1 hl rfl; subst e
    split at h
    · rename_i x r; cases h; exact lv_pop (va := .int x) hx hb hdg rfl k
    · rename_i a r; cases h; exact lv_pop (va := .ref (ad a)) hx hb hdg rfl k
    · rename_i x r; cases h; exact lv_pop (va := .float x) hx hb hdg rfl k
    · cases h
  · have e := jv_len1 hl rfl; subst e
    split at h
    · rename_i x r; cases h; exact lv_pop2_2 (va := .double x) hx hb hdg rfl k
    · cases h
  · have e := jv_len1 hl rfl; subst e
    split at h
    · cases h; exact lv_i2f hx hb hdg k
    · cases h
  · have e := jv_len1 hl rfl; subst e
    split at h
    · cases h; exact lv_i2d hx hb hdg k
    · cases h
  · have e := jv_len1 hl rfl; subst e
    split at h
    · split at h
      · rename_i hne; cases h; exact lv_f2d hx hb hdg hne k
      · cases h
    · cases h
  · have e := jv_len1 hl rfl; subst e
    split at h
    · split at h
      · rename_i hne; cases h; exact lv_fdiv hx hb hdg hne k
      · cases h
    · cases h
  · have e := jv_len1 hl rfl; subst e
    split at h
    · split at h
      · rename_i hne; cases h; exact lv_ddiv hx hb hdg hne k
      · cases h
    · cases h
  · have e := jv_len1 hl rfl; subst e
    split at h
    · cases h; exact lv_dcmp hx hb hdg k
    · cases h
  · have e := jv_len1 hl rfl; subst e
    split at h
    · rename_i hk; subst hk; cases h; exact lv_fconst0 hx hb hdg k
    · cases h
  · have e := jv_len1 hl rfl; subst e
    split at h
    · rename_i hk; subst hk; cases h; exact lv_dconst0 hx hb hdg k
    · cases h
  · cases h
/-- the locals hold what the J machine's hold -/
def jv_Lc (ad : Nat → Nat) (ls : Array Slot) (nL : Nat) (L : List (Option Value)) : Prop := ls.size = nL ∧ L.length = nL ∧ lv_wf ls ∧ ∀ (i : Nat) (v : Value), L[i]? = some (some v) → ls[i]? = some (.val (jv_vl ad v))
theorem jv_ldI_eq {L : List (Option Value)} {i : Nat} {st st' : List Value} (h : jv_ldI L i st = some st') : ∃ x, L[i]? = some (some (.int x)) ∧ st' = .int x :: st := by
  unfold jv_ldI at h
  split at h
  · rename_i x hL; cases h; exact ⟨x, hL, rfl⟩
  · cases h
theorem jv_ldA_eq {L : List (Option Value)} {i : Nat} {st st' : List Value} (h : jv_ldA L i st = some st') : ∃ x, L[i]? = some (some (.ref x)) ∧ st' = .ref x :: st := by
  unfold jv_ldA at h
  split at h
  · rename_i x hL; cases h; exact ⟨x, hL, rfl⟩
  · cases h
theorem jv_ldD_eq {L : List (Option Value)} {i : Nat} {st st' : List Value} (h : jv_ldD L i st = some st') : ∃ x, L[i]? = some (some (.double x)) ∧ st' = .double x :: st := by
  unfold jv_ldD at h
  split at h
  · rename_i x hL; cases h; exact ⟨x, hL, rfl⟩
  · cases h
theorem jv_ld_ok (hx : p.tables.exec = Jvm.exec) (hb : c.code = cc) {i : Instr} {len nL : Nat} {L : List (Option Value)} {st st' : List Value} (hdg : decode cc pc = .ok (i, len)) (hl : jv_sw i = true ∨ len = jv_len i) (hL : jv_Lc ad ls nL L) (h : jv_ld i L st = some st')
    (k : W p l e R s m args below meth c H locs cells slots Q (F0 m (pc + len) ls (st'.map (jv_vl ad)))) : W p l e R s m args below meth c H locs cells slots Q (F0 m pc ls (st.map (jv_vl ad))) := by
  unfold jv_ld at h
  split at h
  · have e := jv_len1 hl rfl; subst e; obtain ⟨x, h1, rfl⟩ := jv_ldI_eq h; exact lv_iload_n (x := x) hx hb hdg rfl (hL.2.2.2 _ _ h1) k
  · have e := jv_len1 hl rfl; subst e; obtain ⟨x, h1, rfl⟩ := jv_ldI_eq h; exact lv_iload (x := x) hx hb hdg (hL.2.2.2 _ _ h1) k
  · have e := jv_len1 hl rfl; subst e; obtain ⟨x, h1, rfl⟩ := jv_ldA_eq h; exact lv_aload_n (x := ad x) hx hb hdg rfl (hL.2.2.2 _ _ h1) k
  · have e := jv_len1 hl rfl; subst e; obtain ⟨x, h1, rfl⟩ := jv_ldA_eq h; exact lv_aload (x := ad x) hx hb hdg (hL.2.2.2 _ _ h1) k
  · have e := jv_len1 hl rfl; subst e; obtain ⟨x, h1, rfl⟩ := jv_ldD_eq h; exact lv_dload_n (x := x) hx hb hdg rfl (hL.2.2.2 _ _ h1) k
  · have e := jv_len1 hl rfl; subst e; obtain ⟨x, h1, rfl⟩ := jv_ldD_eq h; exact lv_dload (x := x) hx hb hdg (hL.2.2.2 _ _ h1) k
  · cases h
theorem jv_jmp_eq {pc pc' : Nat} {off : Int} {st st' : List Value} (h : jv_jmp pc off st = some (pc', st')) : (pc : Int) + off = (pc' : Int) ∧ st' = st := by
  unfold jv_jmp at h
  split at h
  · cases h; exact ⟨by omega, rfl⟩
  · cases h
theorem jv_if_eq {b : Bool} {t : Nat × List Value} {u : Nat × List Value} {w : Nat × List Value} (h : (if b = true then some t else some u) = some w) : (b = true ∧ w = t) ∨ (b = false ∧ w = u) := by
  cases b
  · right; exact ⟨rfl, (Option.some.inj h).symm⟩
  · left; exact ⟨rfl, (Option.some.inj h).symm⟩
set_option maxHeartbeats 4000000 in
theorem jv_br_ok (hx : p.tables.exec = Jvm.exec) (hb : c.code = cc) {i : Instr} {len pc' : Nat} {st st' : List Value} (hdg : decode cc pc = .ok (i, len)) (hl : jv_sw i = true ∨ len = jv_len i) (h : jv_br i pc st = some (pc', st'))
    (k : W p l e R s m args below meth c H locs cells slots Q (F0 m pc' ls (st'.map (jv_vl ad)))) : W p l e R s m args below meth c H locs cells slots Q (F0 m pc ls (st.map (jv_vl ad))) := by
  unfold jv_br at h
  split at h
  · have e := jv_len1 hl rfl; subst e
    obtain ⟨ht, rfl⟩ := jv_jmp_eq h
    exact lv_goto hx hb hdg ht k
  · rename_i cnd off
    have e := jv_len1 hl rfl; subst e
    split at h
    · rename_i x r
      split at h
      · rename_i t hj
        obtain ⟨tp, ts⟩ := t
        obtain ⟨ht, rfl⟩ := jv_jmp_eq hj
        rcases jv_if_eq h with ⟨hc, hw⟩ | ⟨hc, hw⟩ <;> cases hw <;> cases cnd <;> simp only [jv_cc, decide_eq_true_eq, decide_eq_false_iff_not] at hc
        · exact lv_if_eq hx hb hdg ht (fun _ => k) (fun q => absurd hc q)
        · exact lv_if_ne hx hb hdg ht (fun _ => k) (fun q => absurd q hc)
        · exact lv_if_lt hx hb hdg ht (fun _ => k) (fun q => absurd hc q)
        · exact lv_if_ge hx hb hdg ht (fun _ => k) (fun q => absurd hc q)
        · exact lv_if_gt hx hb hdg ht (fun _ => k) (fun q => absurd hc q)
        · exact lv_if_le hx hb hdg ht (fun _ => k) (fun q => absurd hc q)
        · exact lv_if_eq hx hb hdg ht (fun q => absurd q hc) (fun _ => k)
        · exact lv_if_ne hx hb hdg ht (fun q => absurd q hc) (fun _ => k)
        · exact lv_if_lt hx hb hdg ht (fun q => absurd q hc) (fun _ => k)
        · exact lv_if_ge hx hb hdg ht (fun q => absurd q hc) (fun _ => k)
        · exact lv_if_gt hx hb hdg ht (fun q => absurd q hc) (fun _ => k)
        · exact lv_if_le hx hb hdg ht (fun q => absurd q hc) (fun _ => k)
      · cases h
    · cases h
  · rename_i cnd off
    have e := jv_len1 hl rfl; subst e
    split at h
    · rename_i y x r
      split at h
      · rename_i t hj
        obtain ⟨tp, ts⟩ := t
        obtain ⟨ht, rfl⟩ := jv_jmp_eq hj
        rcases jv_if_eq h with ⟨hc, hw⟩ | ⟨hc, hw⟩ <;> cases hw <;> cases cnd <;> simp only [jv_cc, decide_eq_true_eq, decide_eq_false_iff_not] at hc
        · exact lv_icmp_eq hx hb hdg ht (fun _ => k) (fun q => absurd hc q)
        · exact lv_icmp_ne hx hb hdg ht (fun _ => k) (fun q => absurd q hc)
        · exact lv_icmp_lt hx hb hdg ht (fun _ => k) (fun q => absurd hc q)
        · exact lv_icmp_ge hx hb hdg ht (fun _ => k) (fun q => absurd hc q)
        · exact lv_icmp_gt hx hb hdg ht (fun _ => k) (fun q => absurd hc q)
        · exact lv_icmp_le hx hb hdg ht (fun _ => k) (fun q => absurd hc q)
        · exact lv_icmp_eq hx hb hdg ht (fun q => absurd q hc) (fun _ => k)
        · exact lv_icmp_ne hx hb hdg ht (fun q => absurd q hc) (fun _ => k)
        · exact lv_icmp_lt hx hb hdg ht (fun q => absurd q hc) (fun _ => k)
        · exact lv_icmp_ge hx hb hdg ht (fun q => absurd q hc) (fun _ => k)
        · exact lv_icmp_gt hx hb hdg ht (fun q => absurd q hc) (fun _ => k)
        · exact lv_icmp_le hx hb hdg ht (fun q => absurd q hc) (fun _ => k)
      · cases h
    · cases h
  · split at h
    · split at h
      · rename_i hout
        obtain ⟨ht, rfl⟩ := jv_jmp_eq h
        exact lv_tableOut hx hb hdg hout ht k
      · rename_i hin
        split at h
        · rename_i off ho
          obtain ⟨ht, rfl⟩ := jv_jmp_eq h
          exact lv_tableIn hx hb hdg (fun q => hin (Or.inl q)) (fun q => hin (Or.inr q)) ho ht k
        · cases h
    · cases h
  · split at h
    · split at h
      · rename_i hp
        obtain ⟨ht, rfl⟩ := jv_jmp_eq h
        exact lv_lookup hx hb hdg hp rfl ht k
      · cases h
    · cases h
  · cases h
/-- the locals as pairs -/
def jv_prs (ad : Nat → Nat) (L : List (Option Value)) : List (Nat × Value) := (List.range L.length).filterMap (fun i => match L[i]? with
  | some (some v) => some (i, jv_vl ad v)
  | _ => none)
theorem jv_prs_mem {L : List (Option Value)} {i : Nat} {w : Value} : (i, w) ∈ jv_prs ad L ↔ ∃ v, L[i]? = some (some v) ∧ w = jv_vl ad v := by
  unfold jv_prs
  rw [List.mem_filterMap]
  constructor
  · rintro ⟨j, -, hj⟩
    split at hj
    · rename_i v hv
      cases hj
      exact ⟨v, hv, rfl⟩
    · cases hj
  · rintro ⟨v, hv, rfl⟩
    refine ⟨i, List.mem_range.mpr (List.getElem?_eq_some_iff.mp hv).1, ?_⟩
    rw [hv]
theorem jv_Lc.has {nL : Nat} {L : List (Option Value)} (h : jv_Lc ad ls nL L) : lv_has ls nL (jv_prs ad L) := by
  refine ⟨h.1, h.2.2.1, fun q hq => ?_⟩
  obtain ⟨i, w⟩ := q
  obtain ⟨v, hv, rfl⟩ := jv_prs_mem.mp hq
  exact h.2.2.2 i v hv
theorem jv_cat2_no {L : List (Option Value)} {j : Nat} {w : Value} (h : ¬ jv_cat2 L j = true) (hw : L[j]? = some (some w)) : ¬ w.category = 2 := by
  unfold jv_cat2 at h
  rw [hw] at h
  cases w <;> first | (intro q; cases q; done) | exact absurd rfl h
theorem jv_Lc.of1 {nL i : Nat} {v : Value} {L L' : List (Option Value)} {ls' : Array Slot} (hlen : L.length = nL) (hs : jv_set1 L i v = some L') (h : lv_has ls' nL ((i, jv_vl ad v) :: (jv_prs ad L).filter (fun q => !(q.1 == i) && !(q.1 + 1 == i && q.2.category == 2)))) : jv_Lc ad ls' nL L' := by
  have key : L' = L.set i (some v) ∧ i < L.length ∧ ∀ j, i = j + 1 → ¬ jv_cat2 L j = true := by
    unfold jv_set1 at hs
    split at hs
    · rename_i hi
      split at hs
      · cases hs; exact ⟨rfl, hi, fun j h => by omega⟩
      · split at hs
        · cases hs
        · rename_i hc
          cases hs; exact ⟨rfl, hi, fun j h => by rw [show j = _ from (Nat.succ.inj h).symm]; exact hc⟩
    · cases hs
  obtain ⟨rfl, hi, hcat⟩ := key
  refine ⟨h.1, by rw [List.length_set]; exact hlen, h.2.1, fun j w hj => ?_⟩
  by_cases hji : i = j
  · subst hji
    rw [List.getElem?_set_self hi] at hj
    cases hj
    exact h.2.2 (i, jv_vl ad v) List.mem_cons_self
  · rw [List.getElem?_set_ne hji] at hj
    refine h.2.2 (j, jv_vl ad w) (List.mem_cons_of_mem _ (List.mem_filter.mpr ⟨jv_prs_mem.mpr ⟨w, hj, rfl⟩, ?_⟩))
    have h1 : (j == i) = false := by simpa using fun q => hji q.symm
    have h2 : (j + 1 == i && (jv_vl ad w).category == 2) = false := by
      by_cases hq : j + 1 = i
      · have h3 := jv_cat2_no (hcat j hq.symm) hj
        rw [jv_vl_cat]
        simp [h3]
      · simp [hq]
    simp only [h1, h2]
    rfl
theorem jv_Lc.of2 {nL i : Nat} {v : Value} {L L' : List (Option Value)} {ls' : Array Slot} (hlen : L.length = nL) (hs : jv_set2 L i v = some L') (h : lv_has ls' nL ((i, jv_vl ad v) :: (jv_prs ad L).filter (fun q => !(q.1 == i) && (!(q.1 == i + 1) && !(q.1 + 1 == i && q.2.category == 2))))) : jv_Lc ad ls' nL L' := by
  have key : L' = (L.set i (some v)).set (i + 1) none ∧ i + 1 < L.length ∧ ∀ j, i = j + 1 → ¬ jv_cat2 L j = true := by
    unfold jv_set2 at hs
    split at hs
    · rename_i hi
      split at hs
      · cases hs; exact ⟨rfl, hi, fun j h => by omega⟩
      · split at hs
        · cases hs
        · rename_i hc
          cases hs; exact ⟨rfl, hi, fun j h => by rw [show j = _ from (Nat.succ.inj h).symm]; exact hc⟩
    · cases hs
  obtain ⟨rfl, hi, hcat⟩ := key
  refine ⟨h.1, by rw [List.length_set, List.length_set]; exact hlen, h.2.1, fun j w hj => ?_⟩
  by_cases hj1 : i + 1 = j
  · subst hj1
    rw [List.getElem?_set_self (by rw [List.length_set]; exact hi)] at hj
    cases hj
  rw [List.getElem?_set_ne hj1] at hj
  by_cases hji : i = j
  · subst hji
    rw [List.getElem?_set_self (by omega)] at hj
    cases hj
    exact h.2.2 (i, jv_vl ad v) List.mem_cons_self
  · rw [List.getElem?_set_ne hji] at hj
    refine h.2.2 (j, jv_vl ad w) (List.mem_cons_of_mem _ (List.mem_filter.mpr ⟨jv_prs_mem.mpr ⟨w, hj, rfl⟩, ?_⟩))
    have h1 : (j == i) = false := by simpa using fun q => hji q.symm
    have h4 : (j == i + 1) = false := by simpa using fun q => hj1 q.symm
    have h2 : (j + 1 == i && (jv_vl ad w).category == 2) = false := by
      by_cases hq : j + 1 = i
      · have h3 := jv_cat2_no (hcat j hq.symm) hj
        rw [jv_vl_cat]
        simp [h3]
      · simp [hq]
    simp only [h1, h2, h4]
    rfl
theorem jv_set1_lt {L L' : List (Option Value)} {i : Nat} {v : Value} (hs : jv_set1 L i v = some L') : i < L.length := by
  unfold jv_set1 at hs
  split at hs
  · assumption
  · cases hs
theorem jv_set2_lt {L L' : List (Option Value)} {i : Nat} {v : Value} (hs : jv_set2 L i v = some L') : i + 1 < L.length := by
  unfold jv_set2 at hs
  split at hs
  · assumption
  · cases hs
theorem jv_stI_eq {L L' : List (Option Value)} {i : Nat} {st st' : List Value} (h : jv_stI L i st = some (L', st')) : ∃ x, st = .int x :: st' ∧ jv_set1 L i (.int x) = some L' := by
  unfold jv_stI at h
  split at h
  · split at h
    · rename_i hs; cases h; exact ⟨_, rfl, hs⟩
    · cases h
  · cases h
theorem jv_stA_eq {L L' : List (Option Value)} {i : Nat} {st st' : List Value} (h : jv_stA L i st = some (L', st')) : ∃ x, st = .ref x :: st' ∧ jv_set1 L i (.ref x) = some L' := by
  unfold jv_stA at h
  split at h
  · split at h
    · rename_i hs; cases h; exact ⟨_, rfl, hs⟩
    · cases h
  · cases h
theorem jv_stD_eq {L L' : List (Option Value)} {i : Nat} {st st' : List Value} (h : jv_stD L i st = some (L', st')) : ∃ x, st = .double x :: st' ∧ jv_set2 L i (.double x) = some L' := by
  unfold jv_stD at h
  split at h
  · split at h
    · rename_i hs; cases h; exact ⟨_, rfl, hs⟩
    · cases h
  · cases h
theorem jv_sto_ok (hx : p.tables.exec = Jvm.exec) (hb : c.code = cc) {i : Instr} {len nL : Nat} {L L' : List (Option Value)} {st st' : List Value} (hdg : decode cc pc = .ok (i, len)) (hl : jv_sw i = true ∨ len = jv_len i) (hL : jv_Lc ad ls nL L) (h : jv_sto i L st = some (L', st'))
    (k : ∀ ls', jv_Lc ad ls' nL L' → W p l e R s m args below meth c H locs cells slots Q (F0 m (pc + len) ls' (st'.map (jv_vl ad)))) : W p l e R s m args below meth c H locs cells slots Q (F0 m pc ls (st.map (jv_vl ad))) := by
  have hn := hL.2.1
  unfold jv_sto at h
  split at h
  · have e := jv_len1 hl rfl; subst e; obtain ⟨x, rfl, h1⟩ := jv_stI_eq h
    exact lv_istore_n hx hb hdg rfl hL.has (hn ▸ jv_set1_lt h1) rfl (fun ls' h2 => k ls' (jv_Lc.of1 hn h1 h2))
  · have e := jv_len1 hl rfl; subst e; obtain ⟨x, rfl, h1⟩ := jv_stI_eq h
    exact lv_istore hx hb hdg hL.has (hn ▸ jv_set1_lt h1) rfl (fun ls' h2 => k ls' (jv_Lc.of1 hn h1 h2))
  · have e := jv_len1 hl rfl; subst e; obtain ⟨x, rfl, h1⟩ := jv_stA_eq h
    exact lv_astore_n hx hb hdg rfl hL.has (hn ▸ jv_set1_lt h1) rfl (fun ls' h2 => k ls' (jv_Lc.of1 hn h1 h2))
  · have e := jv_len1 hl rfl; subst e; obtain ⟨x, rfl, h1⟩ := jv_stA_eq h
    exact lv_astore hx hb hdg hL.has (hn ▸ jv_set1_lt h1) rfl (fun ls' h2 => k ls' (jv_Lc.of1 hn h1 h2))
  · have e := jv_len1 hl rfl; subst e; obtain ⟨x, rfl, h1⟩ := jv_stD_eq h
    exact lv_dstore_n hx hb hdg rfl hL.has (hn ▸ jv_set2_lt h1) rfl (fun ls' h2 => k ls' (jv_Lc.of2 hn h1 h2))
  · have e := jv_len1 hl rfl; subst e; obtain ⟨x, rfl, h1⟩ := jv_stD_eq h
    exact lv_dstore hx hb hdg hL.has (hn ▸ jv_set2_lt h1) rfl (fun ls' h2 => k ls' (jv_Lc.of2 hn h1 h2))
  · have e := jv_len1 hl rfl; subst e
    split at h
    · rename_i x hx1
      split at h
      · rename_i h1
        cases h
        obtain ⟨q, hq⟩ := List.getElem?_of_mem (jv_prs_mem (ad := ad).mpr ⟨_, hx1, rfl⟩)
        exact lv_iinc hx hb hdg hL.has hq rfl (hn ▸ jv_set1_lt h1) rfl (fun ls' h2 => k ls' (jv_Lc.of1 hn h1 h2))
      · cases h
    · cases h
  · cases h
end JSND
