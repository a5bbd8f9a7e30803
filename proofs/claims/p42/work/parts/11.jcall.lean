/-! THE J MACHINE IS RIGHT: the induction; printed by wip/p42/jcall42.py -/
theorem jw_sup : Cond.superclass RJ4 RJ5 ∈ jv_T := jv_in_ok (i := 4137) (by decide +kernel)
theorem jw_sm170 : Cond.sameMethod (jv_ym 170).1.cls (jv_ym 170).1.cls (jv_ym 170).1.name (jv_ym 170).1.desc ∈ jv_T := jv_in_ok (i := 4128) (by decide +kernel)
theorem jw_sm171 : Cond.sameMethod (jv_ym 171).1.cls (jv_ym 171).1.cls (jv_ym 171).1.name (jv_ym 171).1.desc ∈ jv_T := jv_in_ok (i := 6197) (by decide +kernel)
theorem jw_sm172 : Cond.sameMethod (jv_ym 172).1.cls (jv_ym 172).1.cls (jv_ym 172).1.name (jv_ym 172).1.desc ∈ jv_T := jv_in_ok (i := 6196) (by decide +kernel)
theorem jw_sm177 : Cond.sameMethod (jv_ym 177).1.cls (jv_ym 177).1.cls (jv_ym 177).1.name (jv_ym 177).1.desc ∈ jv_T := jv_in_ok (i := 4320) (by decide +kernel)
theorem jw_oi165 : Cond.instanceMethod yJ5_length_8abf5 ∈ jv_T := jv_in_ok (i := 4319) (by decide +kernel)
theorem jw_os165 : Cond.selects RJ4 yJ5_length_8abf5 (jv_ym 165).1 ∈ jv_T := jv_in_ok (i := 4321) (by decide +kernel)
theorem jw_oc165 : Cond.code yJ5_length_8abf5 cJ5_length_8abf5 1 (some .int) ∈ jv_T := jv_in_ok (i := 4325) (by decide +kernel)
theorem jw_oi164 : Cond.instanceMethod yJ5_append_cf1ce ∈ jv_T := jv_in_ok (i := 4127) (by decide +kernel)
theorem jw_os164 : Cond.selects RJ4 yJ5_append_cf1ce (jv_ym 164).1 ∈ jv_T := jv_in_ok (i := 4129) (by decide +kernel)
theorem jw_oc164 : Cond.code yJ5_append_cf1ce cJ5_append_cf1ce 3 (some (.object "java/lang/AbstractStringBuilder")) ∈ jv_T := jv_in_ok (i := 4138) (by decide +kernel)
/-- super calls: StringBuilder's, of AbstractStringBuilder's members -/
def jv_cks1 (ow : Nat) (q : Nat × Nat × Nat × Nat) : Bool := match jv_inf q.2.1 with
  | some (_, kd, _) => decide (kd = 3 → ow = 9 ∧ q.2.2.2 = 0 ∧ (q.2.1 = 170 ∨ q.2.1 = 171 ∨ q.2.1 = 172 ∨ q.2.1 = 177))
  | none => true
theorem jv_ks0 : (jv_cal0).all (jv_cks1 0) = true := by decide +kernel
theorem jv_ks1 : (jv_cal1).all (jv_cks1 1) = true := by decide +kernel
theorem jv_ks2 : (jv_cal2).all (jv_cks1 2) = true := by decide +kernel
theorem jv_ks3 : (jv_cal3).all (jv_cks1 3) = true := by decide +kernel
theorem jv_ks4 : (jv_cal4).all (jv_cks1 4) = true := by decide +kernel
theorem jv_ks5 : (jv_cal5).all (jv_cks1 5) = true := by decide +kernel
theorem jv_ks6 : (jv_cal6).all (jv_cks1 6) = true := by decide +kernel
theorem jv_ks7 : (jv_cal7).all (jv_cks1 7) = true := by decide +kernel
theorem jv_ks8 : (jv_cal8).all (jv_cks1 8) = true := by decide +kernel
theorem jv_ks9 : (jv_cal9).all (jv_cks1 9) = true := by decide +kernel
theorem jv_ks10 : (jv_cal10).all (jv_cks1 10) = true := by decide +kernel
theorem jv_ks11 : (jv_cal11).all (jv_cks1 11) = true := by decide +kernel
theorem jv_ks12 : (jv_cal12).all (jv_cks1 12) = true := by decide +kernel
theorem jv_ks13 : (jv_cal13).all (jv_cks1 13) = true := by decide +kernel
theorem jv_ks14 : (jv_cal14).all (jv_cks1 14) = true := by decide +kernel
theorem jv_ks15 : (jv_cal15).all (jv_cks1 15) = true := by decide +kernel
theorem jv_ks16 : (jv_cal16).all (jv_cks1 16) = true := by decide +kernel
theorem jv_ks17 : (jv_cal17).all (jv_cks1 17) = true := by decide +kernel
theorem jv_cks_ok {ow i : Nat} {v : Nat × Nat × Nat} (h : jv_cal ow i = some v) : jv_cks1 ow (i, v) = true := by
  unfold jv_cal at h
  split at h
  · cases h
  · rename_i a ha
    have hm := jv_as_mem a h
    match ow, ha with
    | 0, ha => cases ha; exact List.all_eq_true.mp jv_ks0 _ hm
    | 1, ha => cases ha; exact List.all_eq_true.mp jv_ks1 _ hm
    | 2, ha => cases ha; exact List.all_eq_true.mp jv_ks2 _ hm
    | 3, ha => cases ha; exact List.all_eq_true.mp jv_ks3 _ hm
    | 4, ha => cases ha; exact List.all_eq_true.mp jv_ks4 _ hm
    | 5, ha => cases ha; exact List.all_eq_true.mp jv_ks5 _ hm
    | 6, ha => cases ha; exact List.all_eq_true.mp jv_ks6 _ hm
    | 7, ha => cases ha; exact List.all_eq_true.mp jv_ks7 _ hm
    | 8, ha => cases ha; exact List.all_eq_true.mp jv_ks8 _ hm
    | 9, ha => cases ha; exact List.all_eq_true.mp jv_ks9 _ hm
    | 10, ha => cases ha; exact List.all_eq_true.mp jv_ks10 _ hm
    | 11, ha => cases ha; exact List.all_eq_true.mp jv_ks11 _ hm
    | 12, ha => cases ha; exact List.all_eq_true.mp jv_ks12 _ hm
    | 13, ha => cases ha; exact List.all_eq_true.mp jv_ks13 _ hm
    | 14, ha => cases ha; exact List.all_eq_true.mp jv_ks14 _ hm
    | 15, ha => cases ha; exact List.all_eq_true.mp jv_ks15 _ hm
    | 16, ha => cases ha; exact List.all_eq_true.mp jv_ks16 _ hm
    | 17, ha => cases ha; exact List.all_eq_true.mp jv_ks17 _ hm
    | ow + 18, ha => rw [show jv_nth jv_cals (ow + 18) = jv_nth ([] : List (List (Nat × Nat × Nat × Nat))) ow from rfl, jv_nil] at ha; cases ha
/-- calls that run an overriding method -/
theorem jv_alt_eq {ow idx z na ne : Nat} {x : MethodName} (h : jv_alt ow idx = some x) (hc : jv_cal ow idx = some (z, na, ne)) : (z = 165 ∧ x = yJ5_length_8abf5) ∨ (z = 164 ∧ x = yJ5_append_cf1ce) := by
  unfold jv_alt at h
  split at h
  · rename_i q
    obtain ⟨rfl, rfl⟩ := q
    cases h
    have e : jv_cal 8 549 = some (165, 1, 0) := by decide +kernel
    rw [e] at hc
    cases hc
    exact Or.inl ⟨rfl, rfl⟩
  · split at h
    · rename_i q
      obtain ⟨rfl, rfl⟩ := q
      cases h
      have e : jv_cal 11 43 = some (164, 2, 0) := by decide +kernel
      rw [e] at hc
      cases hc
      exact Or.inr ⟨rfl, rfl⟩
    · cases h
section JSM
variable {p : Program} {l : Launch} {e : Env} {R : Room} {s : State} {m : MethodId} {args : Array Value} {below : List Frame} {meth : Method} {c : Code} {H : Heap} {locs : List Loc} {cells slots : Nat} {Q : State → Prop}
variable {cc : ByteArray} {pc nL : Nat} {ls : Array Slot} {D : va_G} {dA : Nat → ClassId} {G : jv_G} {adV : Nat → Nat} {L : Nat} {xs : Nat → Int32}
theorem jv_back {mc ms : Nat} {r : Option Value} {h' : jv_H} {st0 rest : List Value} {a : Array Value} (hr : va_Run p l e R s m args below meth c H locs cells slots mc ms (F0 m pc ls st0) rest (jv_Qc D dA G L xs r h' a) (fun q => G.1 ≤ q)) (hS : va_S (fun q => G.1 ≤ q) s.heap H locs)
    (kk : ∀ (H1 : Heap) (locs1 : List Loc), jv_Rep D dA G L xs h' H1 → va_S (fun q => G.1 ≤ q) s.heap H1 locs1 → W p l e R s m args below meth c H1 locs1 (cells + mc) (slots + ms) Q (F0 m (pc + 3) ls ((r.map (jv_vl (jv_ad G))).toList ++ rest))) : W p l e R s m args below meth c H locs cells slots Q (F0 m pc ls st0) := by
  intro T hT X
  obtain ⟨v, st₀, t, T', L1, h0, X', hL, e1, e2, ⟨hv, hRep, hz, hk⟩, st⟩ := hr T hT X
  cases hv
  rw [h0] at hz hk
  obtain ⟨t2, a1, b1⟩ := kk T'.heap (locs ++ L1) (by rw [e1]; exact hRep) ⟨Nat.le_trans hS.1 (by rw [e1]; exact hz), fun q h1 h2 => by rw [e1, hk q (Nat.lt_of_lt_of_le h1 hS.1) h2]; exact hS.2.1 q h1 h2, fun q hq => by
      rcases List.mem_append.mp hq with h | h
      · exact hS.2.2 q h
      · exact hL q h⟩ T' rfl X'
  exact ⟨t2, st t2 a1, b1⟩
set_option maxHeartbeats 4000000 in
theorem jv_step_ok (hx : p.tables.exec = Jvm.exec) (hb : c.code = cc) {ow : Nat} {ini : Bool} (hown : s.vm.findClass (jv_own ow) = some m.cls) (hts : ∀ w ∈ jv_T, w.before args s = true) (hK : jv_Kn D dA G adV L xs s) {h h' : jv_H} (hR : jv_Rep D dA G L xs h H) (hS : va_S (fun q => G.1 ≤ q) s.heap H locs) (hini : ini = true → meth.name = "<init>")
    {i : Instr} {len pc' : Nat} {Lv Lv' : List (Option Value)} {st st' : List Value} (hL : jv_Lc (jv_ad G) ls nL Lv) (hdg : decode cc pc = .ok (i, len)) (hl : jv_sw i = true ∨ len = jv_len i) (h0 : jv_step ow ini i len pc Lv st h = some (pc', Lv', st', h')) (hm : h'.2.1 ≤ 1000000) (hc : cells + (h'.2.1 - h.2.1) ≤ R.cells) (hs : slots + (h'.2.2 - h.2.2) ≤ R.slots)
    (k : ∀ (H' : Heap) (locs' : List Loc) (ls' : Array Slot) (cells' slots' : Nat), cells' = cells + (h'.2.1 - h.2.1) → slots' = slots + (h'.2.2 - h.2.2) → jv_Rep D dA G L xs h' H' → va_S (fun q => G.1 ≤ q) s.heap H' locs' → jv_Lc (jv_ad G) ls' nL Lv' → W p l e R s m args below meth c H' locs' cells' slots' Q (F0 m pc' ls' (st'.map (jv_vl (jv_ad G))))) :
    W p l e R s m args below meth c H locs cells slots Q (F0 m pc ls (st.map (jv_vl (jv_ad G)))) := by
  unfold jv_step at h0
  split at h0
  · rename_i h1
    cases h0
    exact jv_pure_ok hx hb hdg hl h1 (k H locs ls cells slots (by omega) (by omega) hR hS hL)
  · split at h0
    · rename_i h1
      cases h0
      exact jv_ld_ok hx hb hdg hl hL h1 (k H locs ls cells slots (by omega) (by omega) hR hS hL)
    · split at h0
      · rename_i h1
        cases h0
        exact jv_br_ok hx hb hdg hl h1 (k H locs ls cells slots (by omega) (by omega) hR hS hL)
      · split at h0
        · rename_i h1
          cases h0
          exact jv_sto_ok hx hb hdg hl hL h1 (fun ls' hL' => k H locs ls' cells slots (by omega) (by omega) hR hS hL')
        · split at h0
          · rename_i h1
            cases h0
            exact jv_heap_ok hx hb hown hts hK hR hS hini hdg hl h1 hm hc hs (fun H' locs' cells' slots' e1 e2 hR' hS' => k H' locs' ls cells' slots' e1 e2 hR' hS' hL)
          · cases h0
theorem jv_isC_eq {i : Instr} {ck idx : Nat} (h : jv_isC i = some (ck, idx)) : (ck = 0 ∧ i = .invokestatic idx) ∨ (ck = 1 ∧ i = .invokevirtual idx) ∨ (ck = 2 ∧ i = .invokespecial idx) := by
  unfold jv_isC at h
  split at h
  · cases h; exact Or.inl ⟨rfl, rfl⟩
  · cases h; exact Or.inr (Or.inl ⟨rfl, rfl⟩)
  · cases h; exact Or.inr (Or.inr ⟨rfl, rfl⟩)
  · cases h
/-- what the tables say of method z -/
theorem jv_ckm_eq {z ow kd na mL fr lo : Nat} (hz : z < 271) (hq : jv_inf z = some (ow, kd, na, mL, fr, lo)) :
    Cond.code (jv_ym z).1 (jv_ym z).2.1 mL (jv_ym z).2.2 ∈ jv_T ∧ Cond.initialized (jv_ym z).1.cls ∈ jv_T ∧ plainFor (jv_ym z).1 = true ∧ (jv_ym z).1.cls = jv_own ow ∧
    ((jv_ym z).1.cls ≠ "java/lang/invoke/MethodHandle" ∧ (jv_ym z).1.cls ≠ "java/lang/invoke/VarHandle" ∧ (parseMethodDescriptor (jv_ym z).1.desc).map (fun d => d.parameters.length) = some (if kd = 0 then na else na - 1)) ∧ na ≤ mL ∧ (kd ≠ 0 → 1 ≤ na) ∧
    (kd = 0 → Cond.static (jv_ym z).1 ∈ jv_T) ∧ (kd = 1 → Cond.instanceMethod (jv_ym z).1 ∈ jv_T ∧ Cond.selects (jv_own (jv_rc ow)) (jv_ym z).1 (jv_ym z).1 ∈ jv_T) ∧ (kd = 2 → Cond.instanceMethod (jv_ym z).1 ∈ jv_T ∧ (jv_ym z).1.name = "<init>" ∧ (jv_ym z).2.2 = none) ∧
    (kd = 3 ∨ kd = 5 → Cond.instanceMethod (jv_ym z).1 ∈ jv_T ∧ (jv_ym z).1.name ≠ "<init>") := by
  have h := jv_ckm_ok z hz
  unfold jv_ckm at h
  rw [hq] at h
  split at h
  · rename_i ow1 kd1 na1 mL1 fr1 lo1 a b c1 d he hhm
    cases he
    simp only [Bool.and_eq_true, decide_eq_true_eq] at h
    obtain ⟨⟨⟨⟨h1, h2⟩, h3⟩, h4, h5, h6, h7⟩, h8⟩ := h
    refine ⟨jv_in_ok h1, jv_in_ok h2, h3, h4, h5, h6, h7, fun hk => ?_, fun hk => ?_, fun hk => ?_, fun hk => ?_⟩
    · subst hk
      exact jv_in_ok h8
    · subst hk
      simp only [Bool.and_eq_true, Bool.or_eq_true] at h8
      exact ⟨jv_in_ok h8.1, h8.2.elim jv_in_ok jv_mo_ok⟩
    · subst hk
      simp only [Bool.and_eq_true, decide_eq_true_eq] at h8
      exact ⟨jv_in_ok h8.1, h8.2.1, h8.2.2⟩
    · rcases hk with rfl | rfl
      · simp only [Bool.and_eq_true, decide_eq_true_eq] at h8
        exact ⟨jv_in_ok h8.1, h8.2.1⟩
      · simp only [Bool.and_eq_true, decide_eq_true_eq] at h8
        exact ⟨jv_in_ok h8.1, h8.2.1⟩
  · cases h
theorem jv_good {w : Cond} (hw : w ∈ jv_T) : GoodIn jv_T (w :: jv_T) := by
  have key : ∀ v ∈ jv_T, v ∈ jv_T ∧ ((v.onTables && v.keeps) = true ∨ ∃ ty, v = .arrayClass ty) := fun v hv => ⟨hv, good_of_word (List.mem_filter.mp hv).2⟩
  intro v hv
  rcases List.mem_cons.mp hv with rfl | hv
  · exact key _ hw
  · exact key _ hv
theorem jv_goodL {l : List Cond} (h : ∀ v ∈ l, v ∈ jv_T) : GoodIn jv_T l := fun v hv => ⟨h v hv, good_of_word (List.mem_filter.mp (h v hv)).2⟩
set_option maxHeartbeats 8000000 in
theorem jv_call_ok {ow fr lo : Nat} (S : CallFix p m c cc nL s args jv_T (jv_own ow)) (hK : jv_Kn D dA G adV L xs s) {h h1 : jv_H} (hR : jv_Rep D dA G L xs h H) (hS : va_S (fun q => G.1 ≤ q) s.heap H locs) {z ow2 kd2 na2 mL2 fr2 lo2 na ne ck idx len : Nat} {i : Instr} {st : List Value} {r1 : Option Value}
    (hq : jv_inf z = some (ow2, kd2, na2, mL2, fr2, lo2)) (hcal : jv_cal ow idx = some (z, na, ne)) (hz0 : z ≠ 900) (hz1 : z ≠ 903) (hz2 : z ≠ 904) (hz3 : z ≠ 905) (hdg : decode cc pc = .ok (i, len)) (hci : jv_isC i = some (ck, idx)) (hl : jv_sw i = true ∨ len = jv_len i) (hmay : jv_may ck fr lo (ow2, kd2, na2, mL2, fr2, lo2) na st h = true) (hfr : fr ≤ R.frames) (hlo : lo ≤ R.locals) (hsz : ls.size = nL) {mc ms : Nat}
    (hM : Met l (jv_ym z).1 (Cond.code (jv_ym z).1 (jv_ym z).2.1 mL2 (jv_ym z).2.2 :: jv_T) ({ frames := fr2, cells := mc, slots := ms, locals := lo2 } : Room) (jv_Pc D dA G adV L xs (st.take na).reverse h) (jv_Qc D dA G L xs r1 h1) mc ms (fun q => G.1 ≤ q)) (hf : cells + mc ≤ R.cells ∧ slots + ms ≤ R.slots)
    (kk : ∀ (H1 : Heap) (locs1 : List Loc), jv_Rep D dA G L xs h1 H1 → va_S (fun q => G.1 ≤ q) s.heap H1 locs1 → W p l e R s m args below meth c H1 locs1 (cells + mc) (slots + ms) Q (F0 m (pc + 3) ls ((r1.toList ++ st.drop na).map (jv_vl (jv_ad G))))) :
    W p l e R s m args below meth c H locs cells slots Q (F0 m pc ls (st.map (jv_vl (jv_ad G)))) := by
  have hckc := jv_ckc_ok hcal
  unfold jv_ckc1 at hckc
  rw [if_neg hz0, if_neg hz1, if_neg hz2, if_neg hz3, hq] at hckc
  simp only [Bool.and_eq_true, decide_eq_true_eq] at hckc
  obtain ⟨⟨hna, hz⟩, hlink⟩ := hckc
  subst hna
  obtain ⟨w1, w2, -, w4, w5, w6, w7, w8, w9, w10, w11⟩ := jv_ckm_eq hz hq
  have hts := S.2.2.2.2
  -- a call by its own name: linked among nest mates, or plainly
  have hl1 : kd2 ≠ 5 → ne = 0 → Cond.methodLink (jv_own ow) idx (jv_ym z).1 ∈ jv_T := by
    intro h5 h6
    rw [if_pos h6] at hlink
    cases hal : jv_alt ow idx with
    | none =>
      rw [hal] at hlink
      simp only [Bool.and_eq_true] at hlink
      exact jv_in_ok hlink.2
    | some x =>
      rw [hal] at hlink
      simp only [Bool.and_eq_true, decide_eq_true_eq] at hlink
      exact absurd hlink.1 h5
  have hl2 : kd2 ≠ 5 → ¬ ne = 0 → Cond.methodLinkNest (jv_own ow) idx (jv_ym z).1 "SeatSwap" ∈ jv_nests := by
    intro h5 h6
    rw [if_neg h6] at hlink
    simp only [Bool.and_eq_true, decide_eq_true_eq] at hlink
    exact hlink.2
  have hl5 : kd2 = 5 → ∃ x : MethodName, jv_alt ow idx = some x ∧ Cond.methodLink (jv_own ow) idx x ∈ jv_T := by
    intro h5
    by_cases h6 : ne = 0
    · rw [if_pos h6] at hlink
      cases hal : jv_alt ow idx with
      | none =>
        rw [hal] at hlink
        simp only [Bool.and_eq_true, decide_eq_true_eq] at hlink
        exact absurd h5 hlink.1
      | some x =>
        rw [hal] at hlink
        simp only [Bool.and_eq_true] at hlink
        exact ⟨x, rfl, jv_in_ok hlink.2⟩
    · rw [if_neg h6] at hlink
      simp only [Bool.and_eq_true, decide_eq_true_eq] at hlink
      exact absurd h5 hlink.1
  unfold jv_may at hmay
  simp only [Bool.and_eq_true, decide_eq_true_eq] at hmay
  obtain ⟨⟨hk, hn1, hn2, hn3, hf1, hf2, hw1, hw2⟩, hrec⟩ := hmay
  have hRm : fr2 + 1 ≤ R.frames ∧ 8 + (mL2 + 11) + lo2 ≤ R.locals := ⟨by omega, by omega⟩
  have hst : st.map (jv_vl (jv_ad G)) = (st.take na2).map (jv_vl (jv_ad G)) ++ (st.drop na2).map (jv_vl (jv_ad G)) := by rw [← List.map_append, List.take_append_drop]
  have hu : (st.take na2).length = na2 := by rw [List.length_take]; omega
  have hWd : ∀ g : JFrame, g.monitorRoom = 0 → 2 * g.monitorRoom + (((st.drop na2).map (jv_vl (jv_ad G))).map fun v => v.category).sum ≤ 8 := by
    intro g hg
    rw [hg, jv_wd_map]
    omega
  have hpre : ∀ U : State, U.heap = H → s.WarmedH U.vm → ∀ v : Array Value, v = ((st.take na2).reverse.map (jv_vl (jv_ad G))).toArray → jv_Pc D dA G adV L xs (st.take na2).reverse h v U := by
    intro U hU hW v hv
    refine ⟨hv, by rw [hU]; exact hR, hK.next (by rw [hU]; exact hS) hW⟩
  have kk2 : ∀ (H1 : Heap) (locs1 : List Loc), jv_Rep D dA G L xs h1 H1 → va_S (fun q => G.1 ≤ q) s.heap H1 locs1 → W p l e R s m args below meth c H1 locs1 (cells + mc) (slots + ms) Q (F0 m (pc + 3) ls ((r1.map (jv_vl (jv_ad G))).toList ++ (st.drop na2).map (jv_vl (jv_ad G)))) := by
    intro H1 locs1 a1 a2
    have a3 := kk H1 locs1 a1 a2
    rw [List.map_append] at a3
    cases r1 <;> exact a3
  rcases jv_isC_eq hci with ⟨rfl, rfl⟩ | ⟨rfl, rfl⟩ | ⟨rfl, rfl⟩
  · -- static
    have hk : kd2 = 0 := by omega
    subst hk
    have e := jv_len1 hl rfl; subst e
    have hstack : (F0 m pc ls (st.map (jv_vl (jv_ad G)))).stack = ((st.take na2).reverse.map (jv_vl (jv_ad G))).reverse ++ (st.drop na2).map (jv_vl (jv_ad G)) := by
      show st.map (jv_vl (jv_ad G)) = _
      rw [hst]
      simp
    have hps : PreS s H (jv_Pc D dA G adV L xs (st.take na2).reverse h) ((st.take na2).reverse.map (jv_vl (jv_ad G))) := ⟨jv_blind, fun U hU hW => hpre U hU hW _ rfl⟩
    rw [if_pos rfl] at w5
    by_cases hne : ne = 0
    · exact jv_back (va_runS S hM ⟨callB_of na2 hts (jv_good w1) rfl rfl rfl (hts _ w2) (hts _ (hl1 (by decide) hne)) w5 hRm, hts _ (w8 rfl)⟩ hps rfl (by rw [List.length_map, List.length_reverse]; exact hu) hsz hstack (hWd _ rfl) hdg hf) hS kk2
    · exact jv_back (va_runSN S hM ⟨va_cnB na2 hts (jv_good w1) rfl rfl rfl (hK.2.2.2.2.2.2.2.2.1 _ (hl2 (by decide) hne)) (hts _ w2) w5 hRm, hts _ (w8 rfl), trivial⟩ hps rfl (by rw [List.length_map, List.length_reverse]; exact hu) hsz hstack (hWd _ rfl) hdg hf) hS kk2
  · -- virtual
    have e := jv_len1 hl rfl; subst e
    have hkd : kd2 = 1 ∨ kd2 = 5 := by omega
    rw [if_neg (by omega)] at w5
    have hpos := w7 (by omega)
    split at hrec
    · rename_i h0; cases h0
    · split at hrec
      · rename_i a hlast
        simp only [Bool.and_eq_true, Bool.or_eq_true, decide_eq_true_eq] at hrec
        obtain ⟨ha, hrec⟩ := hrec
        split at hrec
        · rename_i dcl fs hcell
          rw [decide_eq_true_eq] at hrec
          have hdec := List.getLast?_eq_some_iff.mp hlast
          obtain ⟨u0, hu0⟩ := hdec
          have hrcv : ∃ cell : Cell, H[jv_ad G a]? = some cell ∧ cell.vm.isStatics = false ∧ s.vm.findClass (jv_own (jv_rc ow2)) = some cell.cls := by
            rw [← hrec]
            rcases ha with ha | ⟨ha, -⟩
            · have hcl9 : dcl < 10 := by
                rcases Nat.lt_or_ge dcl 10 with q | q
                · exact q
                · exfalso
                  have h9 := hR.2.2.1 a _ (hR.at ha hcell)
                  obtain ⟨r9, h10, -⟩ := h9
                  have : jv_Cl[dcl]? = none := List.getElem?_eq_none (by show 10 ≤ dcl; exact q)
                  rw [this] at h10
                  cases h10
              exact va_recv hK.1 hR.2.2.1 (jv_cls_ok dcl hcl9) (hR.at ha hcell)
            · obtain ⟨i, hi, rfl, rfl, -⟩ := jv_oldc_txt ha ((hR.2.2.2.2 a ha).symm.trans hcell)
              rw [jv_ad_txt]
              exact jv_recvS hK.txtO hi hS
          have hArr : (Value.ref (jv_ad G a) :: u0.reverse.map (jv_vl (jv_ad G))) = (st.take na2).reverse.map (jv_vl (jv_ad G)) := by rw [hu0]; simp [jv_vl]
          have hlen0 : u0.length = na2 - 1 := by
            have : (u0 ++ [Value.ref a]).length = na2 := by rw [← hu0]; exact hu
            simp only [List.length_append, List.length_cons, List.length_nil] at this
            omega
          have hstack : (F0 m pc ls (st.map (jv_vl (jv_ad G)))).stack = (u0.reverse.map (jv_vl (jv_ad G))).reverse ++ .ref (jv_ad G a) :: (st.drop na2).map (jv_vl (jv_ad G)) := by
            show st.map (jv_vl (jv_ad G)) = _
            rw [hst, hu0]
            simp [jv_vl]
          have hpv : PreV s H (jv_own (jv_rc ow2)) (jv_ad G a) (jv_Pc D dA G adV L xs (st.take na2).reverse h) (u0.reverse.map (jv_vl (jv_ad G))) := ⟨jv_blind, hrcv, fun U hU hW => hpre U hU hW _ (by rw [hArr])⟩
          rcases hkd with rfl | rfl
          · by_cases hne : ne = 0
            · exact jv_back (va_runV S hM ⟨callB_of (na2 - 1) hts (jv_good w1) rfl rfl rfl (hts _ w2) (hts _ (hl1 (by decide) hne)) w5 hRm, hts _ (w9 rfl).1, hts _ (w9 rfl).2⟩ hpv rfl (by rw [List.length_map, List.length_reverse]; exact hlen0) hsz hstack (hWd _ rfl) hdg hf) hS kk2
            · exact jv_back (va_runVN S hM ⟨va_cnB (na2 - 1) hts (jv_good w1) rfl rfl rfl (hK.2.2.2.2.2.2.2.2.1 _ (hl2 (by decide) hne)) (hts _ w2) w5 hRm, hts _ (w9 rfl).1, hts _ (w9 rfl).2⟩ hpv rfl (by rw [List.length_map, List.length_reverse]; exact hlen0) hsz hstack (hWd _ rfl) hdg hf) hS kk2
          · obtain ⟨x, hx1, hx2⟩ := hl5 rfl
            have hno : x.cls ≠ "java/lang/invoke/MethodHandle" ∧ x.cls ≠ "java/lang/invoke/VarHandle" ∧ (parseMethodDescriptor x.desc).map (fun d => d.parameters.length) = some (na2 - 1) ∧ (∃ b0 m0 r0, Cond.code x b0 m0 r0 ∈ jv_T) ∧ Cond.sameMethod x.cls x.cls x.name x.desc ∈ jv_T ∧ Cond.instanceMethod x ∈ jv_T ∧ Cond.selects (jv_own (jv_rc ow2)) x (jv_ym z).1 ∈ jv_T ∧ Cond.instanceMethod (jv_ym z).1 ∈ jv_T := by
              have hin := (w11 (Or.inr rfl)).1
              rcases jv_alt_eq hx1 hcal with ⟨rfl, rfl⟩ | ⟨rfl, rfl⟩
              · have e1 : (jv_inf 165).map (fun q => (q.1, q.2.2.1)) = some (9, 1) := by decide +kernel
                rw [hq] at e1
                cases e1
                have e2 : (jv_ym 177).1 = yJ5_length_8abf5 := by decide +kernel
                have h9 := jw_sm177
                rw [e2] at h9
                exact ⟨by decide, by decide, by decide +kernel, ⟨_, _, _, jw_oc165⟩, h9, jw_oi165, jw_os165, hin⟩
              · have e1 : (jv_inf 164).map (fun q => (q.1, q.2.2.1)) = some (9, 2) := by decide +kernel
                rw [hq] at e1
                cases e1
                have e2 : (jv_ym 170).1 = yJ5_append_cf1ce := by decide +kernel
                have h9 := jw_sm170
                rw [e2] at h9
                exact ⟨by decide, by decide, by decide +kernel, ⟨_, _, _, jw_oc164⟩, h9, jw_oi164, jw_os164, hin⟩
            obtain ⟨n1, n2, n3, ⟨b0, m0, r0, n4⟩, n5, n6, n7, n8⟩ := hno
            have hgood : GoodIn jv_T (va_wsO (jv_own ow) idx (jv_own (jv_rc ow2)) x.cls x (jv_ym z).1 (Cond.code (jv_ym z).1 (jv_ym z).2.1 mL2 (jv_ym z).2.2 :: jv_T)) := by
              refine jv_goodL (fun v hv => ?_)
              unfold va_wsO at hv
              simp only [List.cons_append, List.nil_append, List.mem_cons] at hv
              rcases hv with rfl | rfl | rfl | rfl | rfl | rfl | rfl | hv
              · exact hx2
              · exact n5
              · exact n6
              · exact n7
              · exact n8
              · exact w2
              · exact w1
              · exact hv
            exact jv_back (va_runU S hM (va_cwO (na2 - 1) hts hgood rfl rfl rfl (h0 := n4) ⟨n1, n2, n3⟩ hRm) hpv rfl (by rw [List.length_map, List.length_reverse]; exact hlen0) hsz hstack (hWd _ rfl) hdg hf) hS kk2
        · cases hrec
      · cases hrec
  · -- constructor, super call
    have e := jv_len1 hl rfl; subst e
    have hkd : kd2 = 2 ∨ kd2 = 3 := by omega
    rw [if_neg (by omega)] at w5
    split at hrec
    · rename_i h0; cases h0
    · split at hrec
      · rename_i a hlast
        simp only [Bool.and_eq_true, Bool.or_eq_true, decide_eq_true_eq] at hrec
        obtain ⟨ha, hrec⟩ := hrec
        have ha : a < h.2.1 := by
          rcases ha with ha | ⟨-, hq⟩
          · exact ha
          · cases hq
        have hdec := List.getLast?_eq_some_iff.mp hlast
        obtain ⟨u0, hu0⟩ := hdec
        have hArr : (Value.ref (jv_ad G a) :: u0.reverse.map (jv_vl (jv_ad G))) = (st.take na2).reverse.map (jv_vl (jv_ad G)) := by rw [hu0]; simp [jv_vl]
        have hlen0 : u0.length = na2 - 1 := by
          have : (u0 ++ [Value.ref a]).length = na2 := by rw [← hu0]; exact hu
          simp only [List.length_append, List.length_cons, List.length_nil] at this
          omega
        have hstack : (F0 m pc ls (st.map (jv_vl (jv_ad G)))).stack = (u0.reverse.map (jv_vl (jv_ad G))).reverse ++ .ref (jv_ad G a) :: (st.drop na2).map (jv_vl (jv_ad G)) := by
          show st.map (jv_vl (jv_ad G)) = _
          rw [hst, hu0]
          simp [jv_vl]
        rcases hkd with rfl | rfl
        · obtain ⟨x1, x2, x3⟩ := w10 rfl
          have hpv : PreS s H (jv_Pc D dA G adV L xs (st.take na2).reverse h) (.ref (jv_ad G a) :: u0.reverse.map (jv_vl (jv_ad G))) := ⟨jv_blind, fun U hU hW => hpre U hU hW _ (by rw [hArr])⟩
          rw [x3] at hM w1
          by_cases hne : ne = 0
          · exact jv_back (va_runI S hM ⟨callB_of (na2 - 1) hts (jv_good w1) rfl rfl rfl (hts _ w2) (hts _ (hl1 (by decide) hne)) w5 hRm, x2, hts _ x1⟩ hpv rfl (by rw [List.length_map, List.length_reverse]; exact hlen0) hsz hstack (hWd _ rfl) hdg hf) hS kk2
          · exact jv_back (va_runIN S hM ⟨va_cnB (na2 - 1) hts (jv_good w1) rfl rfl rfl (hK.2.2.2.2.2.2.2.2.1 _ (hl2 (by decide) hne)) (hts _ w2) w5 hRm, x2, hts _ x1⟩ hpv rfl (by rw [List.length_map, List.length_reverse]; exact hlen0) hsz hstack (hWd _ rfl) hdg hf) hS kk2
        · split at hrec
          · rename_i dcl fs hcell
            rw [decide_eq_true_eq] at hrec
            have hks := jv_cks_ok hcal
            unfold jv_cks1 at hks
            dsimp only at hks
            rw [hq] at hks
            obtain ⟨rfl, hne, hz4⟩ := (of_decide_eq_true hks) rfl
            have hsup : Cond.superclass (jv_own 9) (jv_ym z).1.cls ∈ jv_T ∧ Cond.sameMethod (jv_ym z).1.cls (jv_ym z).1.cls (jv_ym z).1.name (jv_ym z).1.desc ∈ jv_T := by
              rcases hz4 with rfl | rfl | rfl | rfl
              · have e1 : Cond.superclass (jv_own 9) (jv_ym 170).1.cls = Cond.superclass RJ4 RJ5 := by decide +kernel
                exact ⟨by rw [e1]; exact jw_sup, jw_sm170⟩
              · have e1 : Cond.superclass (jv_own 9) (jv_ym 171).1.cls = Cond.superclass RJ4 RJ5 := by decide +kernel
                exact ⟨by rw [e1]; exact jw_sup, jw_sm171⟩
              · have e1 : Cond.superclass (jv_own 9) (jv_ym 172).1.cls = Cond.superclass RJ4 RJ5 := by decide +kernel
                exact ⟨by rw [e1]; exact jw_sup, jw_sm172⟩
              · have e1 : Cond.superclass (jv_own 9) (jv_ym 177).1.cls = Cond.superclass RJ4 RJ5 := by decide +kernel
                exact ⟨by rw [e1]; exact jw_sup, jw_sm177⟩
            obtain ⟨x1, x2⟩ := w11 (Or.inl rfl)
            have hcl9 : dcl < 10 := by
              rcases Nat.lt_or_ge dcl 10 with q | q
              · exact q
              · exfalso
                have h9 := hR.2.2.1 a _ (hR.at ha hcell)
                obtain ⟨r9, h10, -⟩ := h9
                have : jv_Cl[dcl]? = none := List.getElem?_eq_none (by show 10 ≤ dcl; exact q)
                rw [this] at h10
                cases h10
            have hpv : PreV s H (jv_own dcl) (jv_ad G a) (jv_Pc D dA G adV L xs (st.take na2).reverse h) (u0.reverse.map (jv_vl (jv_ad G))) := ⟨jv_blind, va_recv hK.1 hR.2.2.1 (jv_cls_ok dcl hcl9) (hR.at ha hcell), fun U hU hW => hpre U hU hW _ (by rw [hArr])⟩
            have hgood : GoodIn jv_T (va_wsSU (jv_own 9) idx (jv_ym z).1 (Cond.code (jv_ym z).1 (jv_ym z).2.1 mL2 (jv_ym z).2.2 :: jv_T)) := by
              refine jv_goodL (fun v hv => ?_)
              unfold va_wsSU at hv
              simp only [List.cons_append, List.nil_append, List.mem_cons] at hv
              rcases hv with rfl | rfl | rfl | rfl | rfl | rfl | hv
              · exact hl1 (by decide) hne
              · exact hsup.2
              · exact hsup.1
              · exact x1
              · exact w2
              · exact w1
              · exact hv
            exact jv_back (va_runSU (hK.1.1 dcl _ (jv_cls_ok dcl hcl9)).2 S hM (va_cwSU (na2 - 1) hts hgood rfl rfl rfl ⟨x2, w5.2.2⟩ hRm) hpv rfl (by rw [List.length_map, List.length_reverse]; exact hlen0) hsz hstack (hWd _ rfl) hdg hf) hS kk2
          · cases hrec
      · cases hrec
/-- what the J machine's run says of the machine, from the middle of a method -/
def jv_OK (l : Launch) (D : va_G) (dA : Nat → ClassId) (G : jv_G) (adV : Nat → Nat) (L : Nat) (xs : Nat → Int32) (y pc : Nat) (Lv : List (Option Value)) (st : List Value) (h : jv_H) (r : Option Value) (h' : jv_H) : Prop :=
  ∀ (p : Program) (e : Env) (R : Room) (s : State) (m : MethodId) (args : Array Value) (below : List Frame) (meth : Method) (c : Code) (H : Heap) (locs : List Loc) (cells slots tc ts : Nat) (Q : State → Prop) (ls : Array Slot) (ow kd na mL fr lo : Nat),
    jv_inf y = some (ow, kd, na, mL, fr, lo) → CallFix p m c (jv_ym y).2.1 mL s args jv_T (jv_own ow) → (kd = 2 → meth.name = "<init>") → jv_Kn D dA G adV L xs s → jv_Rep D dA G L xs h H → va_S (fun q => G.1 ≤ q) s.heap H locs → jv_Lc (jv_ad G) ls mL Lv → h'.2.1 ≤ 1000000 → fr ≤ R.frames → lo ≤ R.locals →
    tc = cells + (h'.2.1 - h.2.1) → ts = slots + (h'.2.2 - h.2.2) → tc ≤ R.cells → ts ≤ R.slots →
    (∀ (H' : Heap) (locs' : List Loc) (pc' : Nat) (ls' : Array Slot) (st' : List Value) (i : Instr) (len : Nat), decode (jv_ym y).2.1 pc' = .ok (i, len) → (jv_sw i = true ∨ len = jv_len i) → jv_ret (jv_ym y).2.2 i st' = some r → jv_Rep D dA G L xs h' H' → va_S (fun q => G.1 ≤ q) s.heap H' locs' → W p l e R s m args below meth c H' locs' tc ts Q (F0 m pc' ls' (st'.map (jv_vl (jv_ad G))))) →
    W p l e R s m args below meth c H locs cells slots Q (F0 m pc ls (st.map (jv_vl (jv_ad G))))
set_option maxHeartbeats 4000000 in
/-- a method's contract out of its body -/
theorem jv_met {z ow kd na mL fr lo : Nat} (hz : z < 271) (hq : jv_inf z = some (ow, kd, na, mL, fr, lo)) {a : List Value} (ha : ∀ v ∈ a, v.category = 1) (hn : a.length ≤ mL) {h h' : jv_H} {r : Option Value} (hok : jv_OK l D dA G adV L xs z 0 (a.map some ++ List.replicate (mL - a.length) none) [] h r h') (hm : h'.2.1 ≤ 1000000) :
    Met l (jv_ym z).1 (Cond.code (jv_ym z).1 (jv_ym z).2.1 mL (jv_ym z).2.2 :: jv_T) ({ frames := fr, cells := h'.2.1 - h.2.1, slots := h'.2.2 - h.2.2, locals := lo } : Room) (jv_Pc D dA G adV L xs a h) (jv_Qc D dA G L xs r h') (h'.2.1 - h.2.1) (h'.2.2 - h.2.2) (fun q => G.1 ≤ q) := by
  obtain ⟨w1, w2, w3, w4, w5, w6, w7, w8, w9, w10, w11⟩ := jv_ckm_eq hz hq
  refine va_MetF (cc := (jv_ym z).2.1) (maxL := mL) (ret := (jv_ym z).2.2) (ws' := jv_T) w3 rfl ?_
  intro p e s m args below meth c s₁ B hml hP
  obtain ⟨rfl, hRep, hKn⟩ := hP
  have hx := B.exec
  have hb := B.bytes
  have hr := B.returns
  have hlocks := B.notSynchronized
  have hts : ∀ w ∈ jv_T, w.before (a.map (jv_vl (jv_ad G))).toArray s = true := fun w hw => atoms_spec (ws := Cond.code (jv_ym z).1 (jv_ym z).2.1 mL (jv_ym z).2.2 :: jv_T) B.pre w (List.mem_cons_of_mem _ hw)
  have hown : s.vm.findClass (jv_own ow) = some m.cls := by rw [← w4]; exact findClass_of_methodNamed B.named
  rw [lg_entry_eq]
  refine hok p e _ s m _ below meth c s.heap [] 0 0 (h'.2.1 - h.2.1) (h'.2.2 - h.2.2) _ _ ow kd na mL fr lo hq ⟨hx, hb, hml, hown, hts⟩ ?_ hKn hRep va_S.rf (jv_entry (jv_ad G) a mL ha hn) hm (Nat.le_refl _) (Nat.le_refl _) (Nat.zero_add _).symm (Nat.zero_add _).symm (Nat.le_refl _) (Nat.le_refl _) ?_
  · intro hk
    rw [(name_of_methodNamed B.named B.method).1]
    exact (w10 hk).2.1
  · intro H' locs' pc' ls' st' i len hd hl hret hR' hS'
    have hq2 : ∀ t : State, t.heap = H' → jv_Qc D dA G L xs r h' (a.map (jv_vl (jv_ad G))).toArray s (.returned (r.map (jv_vl (jv_ad G)))) t := fun t ht => ⟨rfl, by rw [ht]; exact hR', hS'.F ht⟩
    generalize hrt : (jv_ym z).2.2 = rt at hret hr
    unfold jv_ret at hret
    split at hret
    · have e := jv_len1 hl rfl; subst e
      cases hret
      exact W.vret hx hb hr (fun t ht _ => hq2 t ht) hS'.2.2 hd
    · have e := jv_len1 hl rfl; subst e
      split at hret
      · rename_i hnar
        cases hret
        exact W.zret hx hb hr hnar (fun t ht _ => hq2 t ht) hS'.2.2 hd
      · cases hret
    · have e := jv_len1 hl rfl; subst e
      cases hret
      exact W.aret hx hb hr (Or.inl ⟨_, rfl⟩) (Or.inr ⟨_, rfl⟩) (fun t ht _ => hq2 t ht) hS'.2.2 hd
    · have e := jv_len1 hl rfl; subst e
      cases hret
      exact W.aret hx hb hr (Or.inr ⟨_, rfl⟩) (Or.inr ⟨_, rfl⟩) (fun t ht _ => hq2 t ht) hS'.2.2 hd
    · have e := jv_len1 hl rfl; subst e
      cases hret
      exact W.lret hx hb hr (fun t ht _ => hq2 t ht) hS'.2.2 hd
    · have e := jv_len1 hl rfl; subst e
      cases hret
      exact W.fret hx hb hr (fun t ht _ => hq2 t ht) hS'.2.2 hd
    · have e := jv_len1 hl rfl; subst e
      cases hret
      exact W.dret hx hb hr (fun t ht _ => hq2 t ht) hS'.2.2 hd
    · cases hret
end JSM
