/-! THE J MACHINE IS RIGHT: the induction -/
section JSM
variable {p : Program} {l : Launch} {e : Env} {R : Room} {s : State} {m : MethodId} {args : Array Value} {below : List Frame} {meth : Method} {c : Code} {H : Heap} {locs : List Loc} {cells slots : Nat} {Q : State → Prop}
variable {cc : ByteArray} {pc nL : Nat} {ls : Array Slot} {D : va_G} {dA : Nat → ClassId} {G : jv_G} {adV : Nat → Nat} {L : Nat} {xs : Nat → Int32}
theorem jv_back {mc ms : Nat} {r : Option Value} {h' : jv_H} {st0 rest : List Value} {a : Array Value} (hr : va_Run p l e R s m args below meth c H locs cells slots mc ms (F0 m pc ls st0) rest (jv_Qc D dA G L xs r h' a) (fun q => G.1 ≤ q)) (hS : va_S (fun q => G.1 ≤ q) s.heap H locs)
    (kk : ∀ (H1 : Heap) (locs1 : List Loc), jv_Rep D dA G L xs h' H1 → va_S (fun q => G.1 ≤ q) s.heap H1 locs1 → W p l e R s m args below meth c H1 locs1 (cells + mc) (slots + ms) Q (F0 m (pc + 3) ls ((r.map (jv_vl (jv_ad G))).toList ++ rest))) : W p l e R s m args below meth c H locs cells slots Q (F0 m pc ls st0) := by
  intro T hT X
  obtain ⟨v, st₀, t, T', L1, h0, X', hL, e1, e2, ⟨hv, hRep, hz, hk⟩, st⟩ := hr T hT X
  cases hv
  rw [h0] at hz hk
  obtain ⟨t2, a1, b1⟩ := kk T'.heap (locs ++ L1) (by rw [e1]; exact hRep) ⟨Nat.le_trans hS.1 (by rw [e1]; exact hz), fun q h1 h2 => by rw [e1, hk q (Nat.lt_of_lt_of_le h1 hS.1) h2]; exact hS.2.1 q h1 h2, fun q hq => by
      rcases List.mem_append.mp hq with h | h
      · exact hS.2.2 q h
      · exact hL q h⟩ T' rfl X'
  exact ⟨t2, st t2 a1, b1⟩
set_option maxHeartbeats 4000000 in
theorem jv_step_ok (hx : p.tables.exec = Jvm.exec) (hb : c.code = cc) {ow : Nat} {ini : Bool} (hown : s.vm.findClass (jv_own ow) = some m.cls) (hts : ∀ w ∈ jv_T, w.before args s = true) (hK : jv_Kn D dA G adV L xs s) {h h' : jv_H} (hR : jv_Rep D dA G L xs h H) (hS : va_S (fun q => G.1 ≤ q) s.heap H locs) (hini : ini = true → meth.name = "<init>")
    {i : Instr} {len pc' : Nat} {Lv Lv' : List (Option Value)} {st st' : List Value} (hL : jv_Lc (jv_ad G) ls nL Lv) (hdg : decode cc pc = .ok (i, len)) (hl : jv_sw i = true ∨ len = jv_len i) (h0 : jv_step ow ini i len pc Lv st h = some (pc', Lv', st', h')) (hm : h'.2.1 ≤ 1000000) (hc : cells + (h'.2.1 - h.2.1) ≤ R.cells) (hs : slots + (h'.2.2 - h.2.2) ≤ R.slots)
    (k : ∀ (H' : Heap) (locs' : List Loc) (ls' : Array Slot) (cells' slots' : Nat), cells' = cells + (h'.2.1 - h.2.1) → slots' = slots + (h'.2.2 - h.2.2) → jv_Rep D dA G L xs h' H' → va_S (fun q => G.1 ≤ q) s.heap H' locs' → jv_Lc (jv_ad G) ls' nL Lv' → W p l e R s m args below meth c H' locs' cells' slots' Q (F0 m pc' ls' (st'.map (jv_vl (jv_ad G))))) :
    W p l e R s m args below meth c H locs cells slots Q (F0 m pc ls (st.map (jv_vl (jv_ad G)))) := by
  unfold jv_step at h0
  split at h0
  · rename_i h1
    cases h0
    exact jv_pure_ok hx hb hdg hl h1 (k H locs ls cells slots (by omega) (by omega) hR hS hL)
  · split at h0
    · rename_i h1
      cases h0
      exact jv_ld_ok hx hb hdg hl hL h1 (k H locs ls cells slots (by omega) (by omega) hR hS hL)
    · split at h0
      · rename_i h1
        cases h0
        exact jv_br_ok hx hb hdg hl h1 (k H locs ls cells slots (by omega) (by omega) hR hS hL)
      · split at h0
        · rename_i h1
          cases h0
          exact jv_sto_ok hx hb hdg hl hL h1 (fun ls' hL' => k H locs ls' cells slots (by omega) (by omega) hR hS hL')
        · split at h0
          · rename_i h1
            cases h0
            exact jv_heap_ok hx hb hown hts hK hR hS hini hdg hl h1 hm hc hs (fun H' locs' cells' slots' e1 e2 hR' hS' => k H' locs' ls cells' slots' e1 e2 hR' hS' hL)
          · cases h0
theorem jv_isC_eq {i : Instr} {ck idx : Nat} (h : jv_isC i = some (ck, idx)) : (ck = 0 ∧ i = .invokestatic idx) ∨ (ck = 1 ∧ i = .invokevirtual idx) ∨ (ck = 2 ∧ i = .invokespecial idx) := by
  unfold jv_isC at h
  split at h
  · cases h; exact Or.inl ⟨rfl, rfl⟩
  · cases h; exact Or.inr (Or.inl ⟨rfl, rfl⟩)
  · cases h; exact Or.inr (Or.inr ⟨rfl, rfl⟩)
  · cases h
/-- what the tables say of method z -/
theorem jv_ckm_eq {z ow kd na mL fr lo : Nat} (hz : z < 271) (hq : jv_inf z = some (ow, kd, na, mL, fr, lo)) :
    Cond.code (jv_ym z).1 (jv_ym z).2.1 mL (jv_ym z).2.2 ∈ jv_T ∧ Cond.initialized (jv_ym z).1.cls ∈ jv_T ∧ plainFor (jv_ym z).1 = true ∧ (jv_ym z).1.cls = jv_own ow ∧
    ((jv_ym z).1.cls ≠ "java/lang/invoke/MethodHandle" ∧ (jv_ym z).1.cls ≠ "java/lang/invoke/VarHandle" ∧ (parseMethodDescriptor (jv_ym z).1.desc).map (fun d => d.parameters.length) = some (if kd = 0 then na else na - 1)) ∧ na ≤ mL ∧ (kd ≠ 0 → 1 ≤ na) ∧
    (kd = 0 → Cond.static (jv_ym z).1 ∈ jv_T) ∧ (kd = 1 → Cond.instanceMethod (jv_ym z).1 ∈ jv_T ∧ Cond.selects (jv_ym z).1.cls (jv_ym z).1 (jv_ym z).1 ∈ jv_T) ∧ (kd ≠ 0 → kd ≠ 1 → kd = 2 ∧ Cond.instanceMethod (jv_ym z).1 ∈ jv_T ∧ (jv_ym z).1.name = "<init>" ∧ (jv_ym z).2.2 = none) := by
  have h := jv_ckm_ok z hz
  unfold jv_ckm at h
  rw [hq] at h
  split at h
  · rename_i ow1 kd1 na1 mL1 fr1 lo1 a b c1 d he hhm
    cases he
    simp only [Bool.and_eq_true, decide_eq_true_eq] at h
    obtain ⟨⟨⟨⟨h1, h2⟩, h3⟩, h4, h5, h6, h7⟩, h8⟩ := h
    refine ⟨jv_in_ok h1, jv_in_ok h2, h3, h4, h5, h6, h7, fun hk => ?_, fun hk => ?_, fun hk0 hk1 => ?_⟩
    · subst hk
      exact jv_in_ok h8
    · subst hk
      simp only [Bool.and_eq_true] at h8
      exact ⟨jv_in_ok h8.1, jv_in_ok h8.2⟩
    · split at h8
      · exact absurd rfl hk0
      · exact absurd rfl hk1
      · simp only [Bool.and_eq_true, decide_eq_true_eq] at h8
        exact ⟨h8.2.2.2, jv_in_ok h8.1, h8.2.1, h8.2.2.1⟩
  · cases h
theorem jv_good {w : Cond} (hw : w ∈ jv_T) : GoodIn jv_T (w :: jv_T) := by
  have key : ∀ v ∈ jv_T, v ∈ jv_T ∧ ((v.onTables && v.keeps) = true ∨ ∃ ty, v = .arrayClass ty) := fun v hv => ⟨hv, good_of_word (List.mem_filter.mp hv).2⟩
  intro v hv
  rcases List.mem_cons.mp hv with rfl | hv
  · exact key _ hw
  · exact key _ hv
set_option maxHeartbeats 8000000 in
theorem jv_call_ok {ow fr lo : Nat} (S : CallFix p m c cc nL s args jv_T (jv_own ow)) (hK : jv_Kn D dA G adV L xs s) {h h1 : jv_H} (hR : jv_Rep D dA G L xs h H) (hS : va_S (fun q => G.1 ≤ q) s.heap H locs) {z ow2 kd2 na2 mL2 fr2 lo2 na ne ck idx len : Nat} {i : Instr} {st : List Value} {r1 : Option Value}
    (hq : jv_inf z = some (ow2, kd2, na2, mL2, fr2, lo2)) (hcal : jv_cal ow idx = some (z, na, ne)) (hz0 : z ≠ 900) (hz1 : z ≠ 901) (hz2 : z ≠ 902) (hdg : decode cc pc = .ok (i, len)) (hci : jv_isC i = some (ck, idx)) (hl : jv_sw i = true ∨ len = jv_len i) (hmay : jv_may ck fr lo (ow2, kd2, na2, mL2, fr2, lo2) na st h = true) (hfr : fr ≤ R.frames) (hlo : lo ≤ R.locals) (hsz : ls.size = nL) {mc ms : Nat}
    (hM : Met l (jv_ym z).1 (Cond.code (jv_ym z).1 (jv_ym z).2.1 mL2 (jv_ym z).2.2 :: jv_T) ({ frames := fr2, cells := mc, slots := ms, locals := lo2 } : Room) (jv_Pc D dA G adV L xs (st.take na).reverse h) (jv_Qc D dA G L xs r1 h1) mc ms (fun q => G.1 ≤ q)) (hf : cells + mc ≤ R.cells ∧ slots + ms ≤ R.slots)
    (kk : ∀ (H1 : Heap) (locs1 : List Loc), jv_Rep D dA G L xs h1 H1 → va_S (fun q => G.1 ≤ q) s.heap H1 locs1 → W p l e R s m args below meth c H1 locs1 (cells + mc) (slots + ms) Q (F0 m (pc + 3) ls ((r1.toList ++ st.drop na).map (jv_vl (jv_ad G))))) :
    W p l e R s m args below meth c H locs cells slots Q (F0 m pc ls (st.map (jv_vl (jv_ad G)))) := by
  have hckc := jv_ckc_ok hcal
  unfold jv_ckc1 at hckc
  rw [if_neg hz0, if_neg hz1, if_neg hz2, hq] at hckc
  simp only [Bool.and_eq_true, decide_eq_true_eq] at hckc
  obtain ⟨⟨hna, hz⟩, hlink⟩ := hckc
  subst hna
  obtain ⟨w1, w2, -, w4, w5, w6, w7, w8, w9, w10⟩ := jv_ckm_eq hz hq
  have hts := S.2.2.2.2
  unfold jv_may at hmay
  simp only [Bool.and_eq_true, decide_eq_true_eq] at hmay
  obtain ⟨⟨hk, hn1, hn2, hn3, hf1, hf2, hw1, hw2⟩, hrec⟩ := hmay
  subst hk
  have hRm : fr2 + 1 ≤ R.frames ∧ 8 + (mL2 + 11) + lo2 ≤ R.locals := ⟨by omega, by omega⟩
  have hst : st.map (jv_vl (jv_ad G)) = (st.take na2).map (jv_vl (jv_ad G)) ++ (st.drop na2).map (jv_vl (jv_ad G)) := by rw [← List.map_append, List.take_append_drop]
  have hu : (st.take na2).length = na2 := by rw [List.length_take]; omega
  have hWd : ∀ g : JFrame, g.monitorRoom = 0 → 2 * g.monitorRoom + (((st.drop na2).map (jv_vl (jv_ad G))).map fun v => v.category).sum ≤ 8 := by
    intro g hg
    rw [hg, jv_wd_map]
    omega
  have hpre : ∀ U : State, U.heap = H → s.WarmedH U.vm → ∀ v : Array Value, v = ((st.take na2).reverse.map (jv_vl (jv_ad G))).toArray → jv_Pc D dA G adV L xs (st.take na2).reverse h v U := by
    intro U hU hW v hv
    refine ⟨hv, by rw [hU]; exact hR, hK.next (by rw [hU]; exact hS) hW⟩
  have kk2 : ∀ (H1 : Heap) (locs1 : List Loc), jv_Rep D dA G L xs h1 H1 → va_S (fun q => G.1 ≤ q) s.heap H1 locs1 → W p l e R s m args below meth c H1 locs1 (cells + mc) (slots + ms) Q (F0 m (pc + 3) ls ((r1.map (jv_vl (jv_ad G))).toList ++ (st.drop na2).map (jv_vl (jv_ad G)))) := by
    intro H1 locs1 a1 a2
    have a3 := kk H1 locs1 a1 a2
    rw [List.map_append] at a3
    cases r1 <;> exact a3
  rcases jv_isC_eq hci with ⟨rfl, rfl⟩ | ⟨rfl, rfl⟩ | ⟨rfl, rfl⟩
  · -- static
    have e := jv_len1 hl rfl; subst e
    have hstack : (F0 m pc ls (st.map (jv_vl (jv_ad G)))).stack = ((st.take na2).reverse.map (jv_vl (jv_ad G))).reverse ++ (st.drop na2).map (jv_vl (jv_ad G)) := by
      show st.map (jv_vl (jv_ad G)) = _
      rw [hst]
      simp
    have hps : PreS s H (jv_Pc D dA G adV L xs (st.take na2).reverse h) ((st.take na2).reverse.map (jv_vl (jv_ad G))) := ⟨jv_blind, fun U hU hW => hpre U hU hW _ rfl⟩
    rw [if_pos rfl] at w5
    by_cases hne : ne = 0
    · rw [if_pos hne] at hlink
      exact jv_back (va_runS S hM ⟨callB_of na2 hts (jv_good w1) rfl rfl rfl (hts _ w2) (hts _ (jv_in_ok hlink)) w5 hRm, hts _ (w8 rfl)⟩ hps rfl (by rw [List.length_map, List.length_reverse]; exact hu) hsz hstack (hWd _ rfl) hdg hf) hS kk2
    · rw [if_neg hne, decide_eq_true_eq] at hlink
      exact jv_back (va_runSN S hM ⟨va_cnB na2 hts (jv_good w1) rfl rfl rfl (hK.2.2.2.2.2.2.2.2.1 _ hlink) (hts _ w2) w5 hRm, hts _ (w8 rfl), trivial⟩ hps rfl (by rw [List.length_map, List.length_reverse]; exact hu) hsz hstack (hWd _ rfl) hdg hf) hS kk2
  · -- virtual
    have e := jv_len1 hl rfl; subst e
    rw [if_neg (by decide)] at w5
    have hpos := w7 (by decide)
    split at hrec
    · rename_i h0; cases h0
    · split at hrec
      · rename_i a hlast
        simp only [Bool.and_eq_true, decide_eq_true_eq] at hrec
        obtain ⟨ha, hrec⟩ := hrec
        split at hrec
        · rename_i dcl fs hcell
          rw [decide_eq_true_eq] at hrec
          have hdec := List.getLast?_eq_some_iff.mp hlast
          obtain ⟨u0, hu0⟩ := hdec
          have hcl9 : ow2 < 9 := by
            rcases Nat.lt_or_ge ow2 9 with q | q
            · exact q
            · exfalso
              rw [hrec] at hcell
              have h9 := hR.2.2.1 a _ (hR.at ha hcell)
              obtain ⟨r9, h10, -⟩ := h9
              have : vwCl[ow2]? = none := List.getElem?_eq_none (by show 9 ≤ ow2; exact q)
              rw [this] at h10
              cases h10
          subst hrec
          have hArr : (Value.ref (jv_ad G a) :: u0.reverse.map (jv_vl (jv_ad G))) = (st.take na2).reverse.map (jv_vl (jv_ad G)) := by rw [hu0]; simp [jv_vl]
          have hlen0 : u0.length = na2 - 1 := by
            have : (u0 ++ [Value.ref a]).length = na2 := by rw [← hu0]; exact hu
            simp only [List.length_append, List.length_cons, List.length_nil] at this
            omega
          have hstack : (F0 m pc ls (st.map (jv_vl (jv_ad G)))).stack = (u0.reverse.map (jv_vl (jv_ad G))).reverse ++ .ref (jv_ad G a) :: (st.drop na2).map (jv_vl (jv_ad G)) := by
            show st.map (jv_vl (jv_ad G)) = _
            rw [hst, hu0]
            simp [jv_vl]
          have hpv : PreV s H (jv_ym z).1.cls (jv_ad G a) (jv_Pc D dA G adV L xs (st.take na2).reverse h) (u0.reverse.map (jv_vl (jv_ad G))) := by
            refine ⟨jv_blind, ?_, fun U hU hW => hpre U hU hW _ (by rw [hArr])⟩
            rw [w4]
            exact va_recv hK.1 hR.2.2.1 (jv_cls_ok dcl hcl9) (hR.at ha hcell)
          by_cases hne : ne = 0
          · rw [if_pos hne] at hlink
            exact jv_back (va_runV S hM ⟨callB_of (na2 - 1) hts (jv_good w1) rfl rfl rfl (hts _ w2) (hts _ (jv_in_ok hlink)) w5 hRm, hts _ (w9 rfl).1, hts _ (w9 rfl).2⟩ hpv rfl (by rw [List.length_map, List.length_reverse]; exact hlen0) hsz hstack (hWd _ rfl) hdg hf) hS kk2
          · rw [if_neg hne, decide_eq_true_eq] at hlink
            exact jv_back (va_runVN S hM ⟨va_cnB (na2 - 1) hts (jv_good w1) rfl rfl rfl (hK.2.2.2.2.2.2.2.2.1 _ hlink) (hts _ w2) w5 hRm, hts _ (w9 rfl).1, hts _ (w9 rfl).2⟩ hpv rfl (by rw [List.length_map, List.length_reverse]; exact hlen0) hsz hstack (hWd _ rfl) hdg hf) hS kk2
        · cases hrec
      · cases hrec
  · -- constructor
    have e := jv_len1 hl rfl; subst e
    rw [if_neg (by decide)] at w5
    obtain ⟨-, x1, x2, x3⟩ := w10 (by decide) (by decide)
    split at hrec
    · rename_i h0; cases h0
    · split at hrec
      · rename_i a hlast
        have hdec := List.getLast?_eq_some_iff.mp hlast
        obtain ⟨u0, hu0⟩ := hdec
        have hArr : (Value.ref (jv_ad G a) :: u0.reverse.map (jv_vl (jv_ad G))) = (st.take na2).reverse.map (jv_vl (jv_ad G)) := by rw [hu0]; simp [jv_vl]
        have hlen0 : u0.length = na2 - 1 := by
          have : (u0 ++ [Value.ref a]).length = na2 := by rw [← hu0]; exact hu
          simp only [List.length_append, List.length_cons, List.length_nil] at this
          omega
        have hstack : (F0 m pc ls (st.map (jv_vl (jv_ad G)))).stack = (u0.reverse.map (jv_vl (jv_ad G))).reverse ++ .ref (jv_ad G a) :: (st.drop na2).map (jv_vl (jv_ad G)) := by
          show st.map (jv_vl (jv_ad G)) = _
          rw [hst, hu0]
          simp [jv_vl]
        have hpv : PreS s H (jv_Pc D dA G adV L xs (st.take na2).reverse h) (.ref (jv_ad G a) :: u0.reverse.map (jv_vl (jv_ad G))) := ⟨jv_blind, fun U hU hW => hpre U hU hW _ (by rw [hArr])⟩
        rw [x3] at hM w1
        by_cases hne : ne = 0
        · rw [if_pos hne] at hlink
          exact jv_back (va_runI S hM ⟨callB_of (na2 - 1) hts (jv_good w1) rfl rfl rfl (hts _ w2) (hts _ (jv_in_ok hlink)) w5 hRm, x2, hts _ x1⟩ hpv rfl (by rw [List.length_map, List.length_reverse]; exact hlen0) hsz hstack (hWd _ rfl) hdg hf) hS kk2
        · rw [if_neg hne, decide_eq_true_eq] at hlink
          exact jv_back (va_runIN S hM ⟨va_cnB (na2 - 1) hts (jv_good w1) rfl rfl rfl (hK.2.2.2.2.2.2.2.2.1 _ hlink) (hts _ w2) w5 hRm, x2, hts _ x1⟩ hpv rfl (by rw [List.length_map, List.length_reverse]; exact hlen0) hsz hstack (hWd _ rfl) hdg hf) hS kk2
      · cases hrec
/-- what the J machine's run says of the machine, from the middle of a method -/
def jv_OK (l : Launch) (D : va_G) (dA : Nat → ClassId) (G : jv_G) (adV : Nat → Nat) (L : Nat) (xs : Nat → Int32) (y pc : Nat) (Lv : List (Option Value)) (st : List Value) (h : jv_H) (r : Option Value) (h' : jv_H) : Prop :=
  ∀ (p : Program) (e : Env) (R : Room) (s : State) (m : MethodId) (args : Array Value) (below : List Frame) (meth : Method) (c : Code) (H : Heap) (locs : List Loc) (cells slots tc ts : Nat) (Q : State → Prop) (ls : Array Slot) (ow kd na mL fr lo : Nat),
    jv_inf y = some (ow, kd, na, mL, fr, lo) → CallFix p m c (jv_ym y).2.1 mL s args jv_T (jv_own ow) → (kd = 2 → meth.name = "<init>") → jv_Kn D dA G adV L xs s → jv_Rep D dA G L xs h H → va_S (fun q => G.1 ≤ q) s.heap H locs → jv_Lc (jv_ad G) ls mL Lv → h'.2.1 ≤ 1000000 → fr ≤ R.frames → lo ≤ R.locals →
    tc = cells + (h'.2.1 - h.2.1) → ts = slots + (h'.2.2 - h.2.2) → tc ≤ R.cells → ts ≤ R.slots →
    (∀ (H' : Heap) (locs' : List Loc) (pc' : Nat) (ls' : Array Slot) (st' : List Value) (i : Instr) (len : Nat), decode (jv_ym y).2.1 pc' = .ok (i, len) → (jv_sw i = true ∨ len = jv_len i) → jv_ret (jv_ym y).2.2 i st' = some r → jv_Rep D dA G L xs h' H' → va_S (fun q => G.1 ≤ q) s.heap H' locs' → W p l e R s m args below meth c H' locs' tc ts Q (F0 m pc' ls' (st'.map (jv_vl (jv_ad G))))) →
    W p l e R s m args below meth c H locs cells slots Q (F0 m pc ls (st.map (jv_vl (jv_ad G))))
set_option maxHeartbeats 4000000 in
/-- a method's contract out of its body -/
theorem jv_met {z ow kd na mL fr lo : Nat} (hz : z < 271) (hq : jv_inf z = some (ow, kd, na, mL, fr, lo)) {a : List Value} (ha : ∀ v ∈ a, v.category = 1) (hn : a.length ≤ mL) {h h' : jv_H} {r : Option Value} (hok : jv_OK l D dA G adV L xs z 0 (a.map some ++ List.replicate (mL - a.length) none) [] h r h') (hm : h'.2.1 ≤ 1000000) :
    Met l (jv_ym z).1 (Cond.code (jv_ym z).1 (jv_ym z).2.1 mL (jv_ym z).2.2 :: jv_T) ({ frames := fr, cells := h'.2.1 - h.2.1, slots := h'.2.2 - h.2.2, locals := lo } : Room) (jv_Pc D dA G adV L xs a h) (jv_Qc D dA G L xs r h') (h'.2.1 - h.2.1) (h'.2.2 - h.2.2) (fun q => G.1 ≤ q) := by
  obtain ⟨w1, w2, w3, w4, w5, w6, w7, w8, w9, w10⟩ := jv_ckm_eq hz hq
  refine va_MetF (cc := (jv_ym z).2.1) (maxL := mL) (ret := (jv_ym z).2.2) (ws' := jv_T) w3 rfl ?_
  intro p e s m args below meth c s₁ B hml hP
  obtain ⟨rfl, hRep, hKn⟩ := hP
  have hx := B.exec
  have hb := B.bytes
  have hr := B.returns
  have hlocks := B.notSynchronized
  have hts : ∀ w ∈ jv_T, w.before (a.map (jv_vl (jv_ad G))).toArray s = true := fun w hw => atoms_spec (ws := Cond.code (jv_ym z).1 (jv_ym z).2.1 mL (jv_ym z).2.2 :: jv_T) B.pre w (List.mem_cons_of_mem _ hw)
  have hown : s.vm.findClass (jv_own ow) = some m.cls := by rw [← w4]; exact findClass_of_methodNamed B.named
  rw [lg_entry_eq]
  refine hok p e _ s m _ below meth c s.heap [] 0 0 (h'.2.1 - h.2.1) (h'.2.2 - h.2.2) _ _ ow kd na mL fr lo hq ⟨hx, hb, hml, hown, hts⟩ ?_ hKn hRep va_S.rf (jv_entry (jv_ad G) a mL ha hn) hm (Nat.le_refl _) (Nat.le_refl _) (Nat.zero_add _).symm (Nat.zero_add _).symm (Nat.le_refl _) (Nat.le_refl _) ?_
  · intro hk
    rw [(name_of_methodNamed B.named B.method).1]
    exact (w10 (by omega) (by omega)).2.2.1
  · intro H' locs' pc' ls' st' i len hd hl hret hR' hS'
    have hq2 : ∀ t : State, t.heap = H' → jv_Qc D dA G L xs r h' (a.map (jv_vl (jv_ad G))).toArray s (.returned (r.map (jv_vl (jv_ad G)))) t := fun t ht => ⟨rfl, by rw [ht]; exact hR', hS'.F ht⟩
    generalize hrt : (jv_ym z).2.2 = rt at hret hr
    unfold jv_ret at hret
    split at hret
    · have e := jv_len1 hl rfl; subst e
      cases hret
      exact W.vret hx hb hr (fun t ht _ => hq2 t ht) hS'.2.2 hd
    · have e := jv_len1 hl rfl; subst e
      split at hret
      · rename_i hnar
        cases hret
        exact W.zret hx hb hr hnar (fun t ht _ => hq2 t ht) hS'.2.2 hd
      · cases hret
    · have e := jv_len1 hl rfl; subst e
      cases hret
      exact W.aret hx hb hr (Or.inl ⟨_, rfl⟩) (Or.inr ⟨_, rfl⟩) (fun t ht _ => hq2 t ht) hS'.2.2 hd
    · have e := jv_len1 hl rfl; subst e
      cases hret
      exact W.fret hx hb hr (fun t ht _ => hq2 t ht) hS'.2.2 hd
    · have e := jv_len1 hl rfl; subst e
      cases hret
      exact W.dret hx hb hr (fun t ht _ => hq2 t ht) hS'.2.2 hd
    · cases hret
/-- the two members of String, by contract -/
def jv_LenMet (l : Launch) (D : va_G) (dA : Nat → ClassId) (G : jv_G) (adV : Nat → Nat) (L : Nat) (xs : Nat → Int32) : Prop := ∀ (i : Nat) (h : jv_H), i < 20 → Met l yJ0_length_8abf5 (Cond.code yJ0_length_8abf5 cJ0_length_8abf5 1 (some .int) :: jv_T) ({ frames := 1, cells := 0, slots := 0, locals := 20 } : Room) (jv_Pc D dA G adV L xs [.ref (1000001 + i)] h) (jv_Qc D dA G L xs (some (.int (Int32.ofNat (jv_byt.getD i []).length))) h) 0 0 (fun q => G.1 ≤ q)
def jv_ChrMet (l : Launch) (D : va_G) (dA : Nat → ClassId) (G : jv_G) (adV : Nat → Nat) (L : Nat) (xs : Nat → Int32) : Prop := ∀ (i : Nat) (j : Int32) (h : jv_H), i < 20 → ¬ (j < 0 ∨ (jv_byt.getD i []).length ≤ j.toNatClampNeg) → Met l yJ0_charAt_5068e (Cond.code yJ0_charAt_5068e cJ0_charAt_5068e 2 (some .char) :: jv_T) ({ frames := 5, cells := 0, slots := 0, locals := 99 } : Room) (jv_Pc D dA G adV L xs [.ref (1000001 + i), .int j] h) (jv_Qc D dA G L xs (some (.int ((jv_byt.getD i []).getD j.toNatClampNeg 0))) h) 0 0 (fun q => G.1 ≤ q)
end JSM
