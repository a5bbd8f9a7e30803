/-! THE JDK'S MEMBERS that are no methods of the J machine: String.checkIndex, arraycopy and clone of bytes; printed by wip/p42/jstr42.py -/
theorem jw_codeCI : Cond.code yJ0_checkIndex_df160 cJ0_checkIndex_df160 2 none ∈ jv_T := jv_in_ok (i := 2170) (by decide +kernel)
theorem jw_codeC3 : Cond.code yJ3_checkIndex_8e157 cJ3_checkIndex_8e157 3 (some .int) ∈ jv_T := jv_in_ok (i := 2175) (by decide +kernel)
theorem jw_staCI : Cond.static yJ0_checkIndex_df160 ∈ jv_T := jv_in_ok (i := 2169) (by decide +kernel)
theorem jw_staC3 : Cond.static yJ3_checkIndex_8e157 ∈ jv_T := jv_in_ok (i := 2174) (by decide +kernel)
theorem jw_ini0 : Cond.initialized RJ0 ∈ jv_T := jv_in_ok (i := 1036) (by decide +kernel)
theorem jw_ini3 : Cond.initialized RJ3 ∈ jv_T := jv_in_ok (i := 1041) (by decide +kernel)
theorem jw_lC3 : Cond.methodLink RJ0 1059 yJ3_checkIndex_8e157 ∈ jv_T := jv_in_ok (i := 2173) (by decide +kernel)
theorem jw_fF : Cond.fieldLink RJ0 1053 "jdk/internal/util/Preconditions" "SIOOBE_FORMATTER" "Ljava/util/function/BiFunction;" ∈ jv_T := jv_in_ok (i := 2171) (by decide +kernel)
theorem jw_acN : Cond.native arraycopyName ∈ jv_T := jv_in_ok (i := 4176) (by decide +kernel)
theorem jw_acS : Cond.static arraycopyName ∈ jv_T := jv_in_ok (i := 4175) (by decide +kernel)
theorem jw_acI : Cond.initialized "java/lang/System" ∈ jv_T := jv_in_ok (i := 1040) (by decide +kernel)
theorem jw_clM : Cond.sameMethod "[B" "java/lang/Object" "clone" "()Ljava/lang/Object;" ∈ jv_T := jv_in_ok (i := 4165) (by decide +kernel)
theorem jw_clN : Cond.native ⟨"java/lang/Object", "clone", "()Ljava/lang/Object;"⟩ ∈ jv_T := jv_in_ok (i := 4166) (by decide +kernel)
theorem jw_clI : Cond.instanceMethod ⟨"java/lang/Object", "clone", "()Ljava/lang/Object;"⟩ ∈ jv_T := jv_in_ok (i := 4167) (by decide +kernel)
theorem jw_clS : Cond.selects "[B" ⟨"[B", "clone", "()Ljava/lang/Object;"⟩ ⟨"java/lang/Object", "clone", "()Ljava/lang/Object;"⟩ ∈ jv_T := jv_in_ok (i := 4168) (by decide +kernel)
theorem dJ0_checkIndex_df160_0 : decode cJ0_checkIndex_df160 0 = .ok (.iload_n 0, 1) := by decide +kernel
theorem dJ0_checkIndex_df160_1 : decode cJ0_checkIndex_df160 1 = .ok (.iload_n 1, 1) := by decide +kernel
theorem dJ0_checkIndex_df160_2 : decode cJ0_checkIndex_df160 2 = .ok (.getstatic 1053, 3) := by decide +kernel
theorem dJ0_checkIndex_df160_5 : decode cJ0_checkIndex_df160 5 = .ok (.invokestatic 1059, 3) := by decide +kernel
theorem dJ0_checkIndex_df160_8 : decode cJ0_checkIndex_df160 8 = .ok (.pop, 1) := by decide +kernel
theorem dJ0_checkIndex_df160_9 : decode cJ0_checkIndex_df160 9 = .ok (.return_, 1) := by decide +kernel
theorem dJ3_checkIndex_8e157_0 : decode cJ3_checkIndex_8e157 0 = .ok (.iload_n 0, 1) := by decide +kernel
theorem dJ3_checkIndex_8e157_1 : decode cJ3_checkIndex_8e157 1 = .ok (.ifCond .lt 8, 3) := by decide +kernel
theorem dJ3_checkIndex_8e157_4 : decode cJ3_checkIndex_8e157 4 = .ok (.iload_n 0, 1) := by decide +kernel
theorem dJ3_checkIndex_8e157_5 : decode cJ3_checkIndex_8e157 5 = .ok (.iload_n 1, 1) := by decide +kernel
theorem dJ3_checkIndex_8e157_6 : decode cJ3_checkIndex_8e157 6 = .ok (.if_icmp .lt 10, 3) := by decide +kernel
theorem dJ3_checkIndex_8e157_9 : decode cJ3_checkIndex_8e157 9 = .ok (.aload_n 2, 1) := by decide +kernel
theorem dJ3_checkIndex_8e157_10 : decode cJ3_checkIndex_8e157 10 = .ok (.iload_n 0, 1) := by decide +kernel
theorem dJ3_checkIndex_8e157_11 : decode cJ3_checkIndex_8e157 11 = .ok (.iload_n 1, 1) := by decide +kernel
theorem dJ3_checkIndex_8e157_12 : decode cJ3_checkIndex_8e157 12 = .ok (.invokestatic 95, 3) := by decide +kernel
theorem dJ3_checkIndex_8e157_15 : decode cJ3_checkIndex_8e157 15 = .ok (.athrow, 1) := by decide +kernel
theorem dJ3_checkIndex_8e157_16 : decode cJ3_checkIndex_8e157 16 = .ok (.iload_n 0, 1) := by decide +kernel
theorem dJ3_checkIndex_8e157_17 : decode cJ3_checkIndex_8e157 17 = .ok (.ireturn, 1) := by decide +kernel
section JST
variable {p : Program} {l : Launch} {e : Env} {R : Room} {s : State} {m : MethodId} {args : Array Value} {below : List Frame} {meth : Method} {c : Code} {H : Heap} {locs : List Loc} {cells slots : Nat} {Q : State → Prop}
variable {cc : ByteArray} {pc nL : Nat} {ls : Array Slot} {D : va_G} {dA : Nat → ClassId} {G : jv_G} {adV : Nat → Nat} {L : Nat} {xs : Nat → Int32}
def jv_Pr (D : va_G) (dA : Nat → ClassId) (G : jv_G) (adV : Nat → Nat) (L : Nat) (xs : Nat → Int32) (a : List Value) (h : jv_H) : Array Value → State → Prop := fun v U => v = a.toArray ∧ jv_Rep D dA G L xs h U.heap ∧ jv_Kn D dA G adV L xs U
theorem jv_blindR {a : List Value} {h : jv_H} : FrameBlind (jv_Pr D dA G adV L xs a h) := fun v U g mk hp => ⟨hp.1, hp.2.1, jv_Kn.same (u := U) (U := U.calling g mk v) rfl rfl hp.2.2⟩
/-- a static method of the JDK's is called -/
theorem jv_jS {own : String} (S : CallFix p m c cc nL s args jv_T own) (hK : jv_Kn D dA G adV L xs s) {h : jv_H} (hR : jv_Rep D dA G L xs h H) (hS : va_S (fun q => G.1 ≤ q) s.heap H locs) {y : MethodName} {bytes : ByteArray} {maxL index n f lo : Nat} {ret : Option FieldType} {As rest : List Value} {r : Option Value}
    (hM : Met l y (Cond.code y bytes maxL ret :: jv_T) ({ frames := f, cells := 0, slots := 0, locals := lo } : Room) (jv_Pr D dA G adV L xs As h) (jv_Qc D dA G L xs r h) 0 0 (fun q => G.1 ≤ q)) (w1 : Cond.code y bytes maxL ret ∈ jv_T) (w2 : Cond.initialized y.cls ∈ jv_T) (w3 : Cond.methodLink own index y ∈ jv_T) (w4 : Cond.static y ∈ jv_T)
    (hd : y.cls ≠ "java/lang/invoke/MethodHandle" ∧ y.cls ≠ "java/lang/invoke/VarHandle" ∧ (parseMethodDescriptor y.desc).map (fun d => d.parameters.length) = some n) (hRm : f + 1 ≤ R.frames ∧ 8 + (maxL + 11) + lo ≤ R.locals) (hn : As.length = n) (hsz : ls.size = nL) (hWd : jv_wd rest ≤ 8) (hdg : decode cc pc = .ok (.invokestatic index, 3)) (hf : cells ≤ R.cells ∧ slots ≤ R.slots)
    {st : List Value} (hst : st = As.reverse ++ rest)
    (kk : ∀ (H1 : Heap) (locs1 : List Loc), jv_Rep D dA G L xs h H1 → va_S (fun q => G.1 ≤ q) s.heap H1 locs1 → W p l e R s m args below meth c H1 locs1 cells slots Q (F0 m (pc + 3) ls ((r.map (jv_vl (jv_ad G))).toList ++ rest))) : W p l e R s m args below meth c H locs cells slots Q (F0 m pc ls st) := by
  have hts := S.2.2.2.2
  exact jv_back (va_runS S hM ⟨callB_of n hts (jv_good w1) rfl rfl rfl (hts _ w2) (hts _ w3) hd hRm, hts _ w4⟩ ⟨jv_blindR, fun U hU hW => ⟨rfl, by rw [hU]; exact hR, hK.next (by rw [hU]; exact hS) hW⟩⟩ rfl hn hsz hst (by show 2 * 0 + _ ≤ 8; unfold jv_wd at hWd; omega) hdg ⟨hf.1, hf.2⟩) hS kk
/-- a virtual method of String's is called -/
theorem jv_jV {own C : String} (S : CallFix p m c cc nL s args jv_T own) (hK : jv_Kn D dA G adV L xs s) {h : jv_H} (hR : jv_Rep D dA G L xs h H) (hS : va_S (fun q => G.1 ≤ q) s.heap H locs) {y : MethodName} {bytes : ByteArray} {maxL index n f lo b : Nat} {ret : Option FieldType} {As rest : List Value} {r : Option Value}
    (hM : Met l y (Cond.code y bytes maxL ret :: jv_T) ({ frames := f, cells := 0, slots := 0, locals := lo } : Room) (jv_Pr D dA G adV L xs (.ref b :: As) h) (jv_Qc D dA G L xs r h) 0 0 (fun q => G.1 ≤ q)) (w1 : Cond.code y bytes maxL ret ∈ jv_T) (w2 : Cond.initialized y.cls ∈ jv_T) (w3 : Cond.methodLink own index y ∈ jv_T) (w4 : Cond.instanceMethod y ∈ jv_T) (w5 : Cond.selects C y y ∈ jv_T)
    (hrv : ∃ cell : Cell, H[b]? = some cell ∧ cell.vm.isStatics = false ∧ s.vm.findClass C = some cell.cls)
    (hd : y.cls ≠ "java/lang/invoke/MethodHandle" ∧ y.cls ≠ "java/lang/invoke/VarHandle" ∧ (parseMethodDescriptor y.desc).map (fun d => d.parameters.length) = some n) (hRm : f + 1 ≤ R.frames ∧ 8 + (maxL + 11) + lo ≤ R.locals) (hn : As.length = n) (hsz : ls.size = nL) (hWd : jv_wd rest ≤ 8) (hdg : decode cc pc = .ok (.invokevirtual index, 3)) (hf : cells ≤ R.cells ∧ slots ≤ R.slots)
    {st : List Value} (hst : st = As.reverse ++ .ref b :: rest)
    (kk : ∀ (H1 : Heap) (locs1 : List Loc), jv_Rep D dA G L xs h H1 → va_S (fun q => G.1 ≤ q) s.heap H1 locs1 → W p l e R s m args below meth c H1 locs1 cells slots Q (F0 m (pc + 3) ls ((r.map (jv_vl (jv_ad G))).toList ++ rest))) : W p l e R s m args below meth c H locs cells slots Q (F0 m pc ls st) := by
  have hts := S.2.2.2.2
  exact jv_back (va_runV S hM ⟨callB_of n hts (jv_good w1) rfl rfl rfl (hts _ w2) (hts _ w3) hd hRm, hts _ w4, hts _ w5⟩ ⟨jv_blindR, hrv, fun U hU hW => ⟨rfl, by rw [hU]; exact hR, hK.next (by rw [hU]; exact hS) hW⟩⟩ rfl hn hsz hst (by show 2 * 0 + _ ≤ 8; unfold jv_wd at hWd; omega) hdg ⟨hf.1, hf.2⟩) hS kk
set_option maxRecDepth 100000 in
/-- Preconditions.checkIndex -/
theorem jv_metC3 (i n : Int32) (w : Value) (hw : w.category = 1) (h0 : ¬ i < 0) (h1 : i < n) (h : jv_H) : Met l yJ3_checkIndex_8e157 (Cond.code yJ3_checkIndex_8e157 cJ3_checkIndex_8e157 3 (some .int) :: jv_T) ({ frames := 0, cells := 0, slots := 0, locals := 0 } : Room) (jv_Pr D dA G adV L xs [.int i, .int n, w] h) (jv_Qc D dA G L xs (some (.int i)) h) 0 0 (fun q => G.1 ≤ q) := by
  refine va_MetF (cc := cJ3_checkIndex_8e157) (maxL := 3) (ret := some .int) (ws' := jv_T) (by decide +kernel) rfl ?_
  intro p e s m args below meth c s₁ B hml hP
  obtain ⟨rfl, hR, hK⟩ := hP
  have hx := B.exec
  have hb := B.bytes
  have hr := B.returns
  have hlocks := B.notSynchronized
  rw [lg_entry_eq]
  have hl := lv_entry [.int i, .int n, w] (n := 3) (by rw [jv_sl _ (by intro v hv; simp at hv; rcases hv with rfl | rfl | rfl <;> first | rfl | exact hw)]; exact Nat.le_refl 3)
  generalize ((lg_sl [.int i, .int n, w] ++ List.replicate (3 - (lg_sl [.int i, .int n, w]).length) Slot.unset).toArray) = ls at hl ⊢
  have l0 : ls[0]? = some (.val (.int i)) := hl.2.2 (0, .int i) (by simp [lv_args])
  have l1 : ls[1]? = some (.val (.int n)) := hl.2.2 (1, .int n) (by simp [lv_args, Value.category])
  refine lv_iload_n hx hb dJ3_checkIndex_8e157_0 rfl l0 ?_
  refine lv_if_lt (tgt := 9) hx hb dJ3_checkIndex_8e157_1 (by decide) (fun q => absurd q h0) (fun _ => ?_)
  refine lv_iload_n hx hb dJ3_checkIndex_8e157_4 rfl l0 ?_
  refine lv_iload_n hx hb dJ3_checkIndex_8e157_5 rfl l1 ?_
  refine lv_icmp_lt (tgt := 16) hx hb dJ3_checkIndex_8e157_6 (by decide) (fun _ => ?_) (fun q => absurd h1 q)
  refine lv_iload_n hx hb dJ3_checkIndex_8e157_16 rfl l0 ?_
  exact W.iret hx hb hr (fun t ht _ => ⟨rfl, by rw [ht]; exact hR, (va_S.rf (A := fun q => G.1 ≤ q)).F ht⟩) (fun q hq => by cases hq) dJ3_checkIndex_8e157_17
set_option maxRecDepth 100000 in
/-- String.checkIndex -/
theorem jv_metCI (i n : Int32) (h0 : ¬ i < 0) (h1 : i < n) (h : jv_H) : Met l yJ0_checkIndex_df160 (Cond.code yJ0_checkIndex_df160 cJ0_checkIndex_df160 2 none :: jv_T) ({ frames := 1, cells := 0, slots := 0, locals := 22 } : Room) (jv_Pr D dA G adV L xs [.int i, .int n] h) (jv_Qc D dA G L xs none h) 0 0 (fun q => G.1 ≤ q) := by
  refine va_MetF (cc := cJ0_checkIndex_df160) (maxL := 2) (ret := none) (ws' := jv_T) (by decide +kernel) rfl ?_
  intro p e s m args below meth c s₁ B hml hP
  obtain ⟨rfl, hR, hK⟩ := hP
  have hx := B.exec
  have hb := B.bytes
  have hr := B.returns
  have hlocks := B.notSynchronized
  have hts : ∀ w ∈ jv_T, w.before [Value.int i, .int n].toArray s = true := fun w hw => atoms_spec (ws := Cond.code yJ0_checkIndex_df160 cJ0_checkIndex_df160 2 none :: jv_T) B.pre w (List.mem_cons_of_mem _ hw)
  have hown : s.vm.findClass RJ0 = some m.cls := findClass_of_methodNamed B.named
  rw [lg_entry_eq]
  have hl := lv_entry [.int i, .int n] (n := 2) (Nat.le_of_ble_eq_true rfl)
  generalize ((lg_sl [.int i, .int n] ++ List.replicate (2 - (lg_sl [.int i, .int n]).length) Slot.unset).toArray) = ls at hl ⊢
  have l0 : ls[0]? = some (.val (.int i)) := hl.2.2 (0, .int i) (by simp [lv_args])
  have l1 : ls[1]? = some (.val (.int n)) := hl.2.2 (1, .int n) (by simp [lv_args, Value.category])
  have hS : va_S (fun q => G.1 ≤ q) s.heap s.heap [] := va_S.rf
  obtain ⟨v, hv, hZ⟩ := hK.2.2.2.2.2.2.2.2.2.2.2
  have hvc : v.category = 1 := by rcases hv with rfl | ⟨a, rfl⟩ <;> rfl
  refine lv_iload_n hx hb dJ0_checkIndex_df160_0 rfl l0 ?_
  refine lv_iload_n hx hb dJ0_checkIndex_df160_1 rfl l1 ?_
  refine va_gets hx hb hZ hS hown (hts _ jw_fF) (fun _ q => q) dJ0_checkIndex_df160_2 ?_
  refine jv_jS (n := 3) (As := [.int i, .int n, v]) (rest := []) ⟨hx, hb, hml, hown, hts⟩ hK hR hS (jv_metC3 i n v hvc h0 h1 h) jw_codeC3 jw_ini3 jw_lC3 jw_staC3 (by decide +kernel) ⟨Nat.le_refl _, Nat.le_refl _⟩ rfl hl.1 (by decide) dJ0_checkIndex_df160_5 ⟨Nat.le_refl _, Nat.le_refl _⟩ rfl (fun H1 locs1 hR1 hS1 => ?_)
  refine lv_pop (va := .int i) hx hb dJ0_checkIndex_df160_8 rfl ?_
  exact W.vret hx hb hr (fun t ht _ => ⟨rfl, by rw [ht]; exact hR1, hS1.F ht⟩) hS1.2.2 dJ0_checkIndex_df160_9
/-- bytes are copied from a row whose cells are known, into a new one; nothing is made -/
theorem jv_copyW {rest : List Value} {H0 : Heap} {A : Nat → Prop} {cl : List vw_C} {tys : List (ClassId × FieldType)} {ws : va_W} {a : Nat} (hexec : p.tables.exec = Jvm.exec) (hb : c.code = cc) (hml : c.maxLocals = ls.size) {own : String} {index : Nat} (hown : s.vm.findClass own = some m.cls) (hts : ∀ w ∈ jv_T, w.before args s = true) (hlink : Cond.methodLink own index arraycopyName ∈ jv_T)
    (hK : va_K D cl tys s) (hP : va_P D cl ws H) (hD : va_D A ws) (hS : va_S A H0 H locs) {b0 n0 : Nat} {f : Nat → Int32} {scr : Cell} {k0 : Class} {cm0 : ClassId} (hc0 : H[b0]? = some scr) (hv1 : ∀ k, scr.vm ≠ .statics k) (hv2 : scr.vm ≠ .unknown) (hk0 : s.vm.classes[scr.cls]? = some k0) (hkk0 : k0.kind = .array cm0 .byte) (hsz : n0 ≤ scr.slots.size) (hel : ∀ j, j < n0 → scr.slots[j]? = some (.int (f j)))
    (q1 t1 : Nat) {c1 : ClassId} {n1 : Nat} {g : Nat → Int32} (ha1 : ws[q1]? = some (a, .inl (c1, n1, .inl g))) (ht1 : tys[t1]? = some (c1, .byte))
    {sp dp n : Int32} (h1 : ¬ sp < 0) (h2 : ¬ dp < 0) (h3 : ¬ n < 0) (h4 : sp.toNatClampNeg + n.toNatClampNeg ≤ n0) (h5 : dp.toNatClampNeg + n.toNatClampNeg ≤ n1) (hfit : ∀ i : Nat, i < n.toNatClampNeg → fits .byte (.int (f (sp.toNatClampNeg + i))) = true)
    (hframes : 1 ≤ R.frames) (hlocals : (rest.map fun v => v.category).sum + (nativeFrameWords "java/lang/System" "arraycopy" 5 + 11) ≤ R.locals) (hdg : decode cc pc = .ok (.invokestatic index, 3))
    (kk : ∀ (H1 : Heap) (locs1 : List Loc), H1.size = H.size → va_P D cl (ws.set q1 (a, .inl (c1, n1, .inl (va_cpy f g sp.toNatClampNeg dp.toNatClampNeg n.toNatClampNeg)))) H1 → va_S A H0 H1 locs1 → W p l e R s m args below meth c H1 locs1 cells slots Q (F0 m (pc + 3) ls rest)) : W p l e R s m args below meth c H locs cells slots Q (F0 m pc ls (.int n :: .int dp :: .ref a :: .int sp :: .ref b0 :: rest)) := by
  have nn : ∀ z : Int32, ¬ z < 0 → z.toInt = (z.toNatClampNeg : Int) := by
    intro z hz
    have hz0 : (0 : Int) ≤ z.toInt := by simpa using Int32.le_iff_toInt_le.mp (Int32.not_lt.mp hz)
    show z.toInt = ((z.toInt.toNat : Nat) : Int)
    omega
  intro T hT X
  have hc1 : H[a]? = some (vp_cell c1 (n1, .inl g)) := hP q1 _ ha1
  obtain ⟨-, k1, hk1, cm1, hkk1⟩ := (hK.2 t1 _ ht1).1 n1 (fun j => .int (g j))
  obtain ⟨vm', X', step⟩ := X.arraycopy hexec hown (hts _ hlink) (hts _ jw_acN) (hts _ jw_acS) (hts _ jw_acI) (src := b0) (dst := a) (cs := scr) (cd := vp_cell c1 (n1, .inl g)) (srcPos := sp) (destPos := dp) (n := n) (by rw [hT]; exact hc0) (by rw [hT]; exact hc1)
    hv1 (fun _ h => by cases h) hv2 (fun h => by cases h) hk0 hk1 hkk0 hkk1 (by simp [refKind]) h1 h2 h3
    (by rw [nn sp h1, nn n h3]; omega)
    (by rw [nn dp h2, nn n h3]; show ¬ _ > ((arrV c1 n1 (fun j => .int (g j))).slots.size : Int); rw [arrV_size]; omega)
    (fun vm₁ _ i hi => by
      have e : scr.slots.getD (sp.toNatClampNeg + i) .null = .int (f (sp.toNatClampNeg + i)) := by
        rw [Array.getD_eq_getD_getElem?, hel _ (by omega)]
        rfl
      rw [e]
      exact ⟨hfit i hi, trivial⟩)
    (g := F0 m pc ls (.int n :: .int dp :: .ref a :: .int sp :: .ref b0 :: rest)) rfl (by rw [hml]) (rest := rest) rfl (by rw [hb]; exact hdg) hframes (by show 2 * 0 + _ + _ ≤ _; omega)
  have e1 : copied scr (vp_cell c1 (n1, .inl g)) sp dp n = vp_cell c1 (n1, .inl (va_cpy f g sp.toNatClampNeg dp.toNatClampNeg n.toNatClampNeg)) := va_copiedX (fun z => .int z) scr c1 f g hel h4
  obtain ⟨w, hw⟩ : ∃ w, w = vp_cell c1 (n1, .inl (va_cpy f g sp.toNatClampNeg dp.toNatClampNeg n.toNatClampNeg)) := ⟨_, rfl⟩
  rw [e1, ← hw] at X' step
  have hl : a < H.size := (Array.getElem?_eq_some_iff.mp hc1).1
  have hA : A a := hD.2 q1 _ ha1
  have oq : ∀ q : Nat, q ≠ a → (H.setIfInBounds a w)[q]? = H[q]? := fun q hq => by simp [Array.getElem?_setIfInBounds, Ne.symm hq]
  have eq1 : (H.setIfInBounds a w)[a]? = some (vp_cell c1 (n1, .inl (va_cpy f g sp.toNatClampNeg dp.toNatClampNeg n.toNatClampNeg))) := by simp [Array.getElem?_setIfInBounds, hl, hw]
  have hS1 : va_S A H0 (H.setIfInBounds a w) (locs ++ (scr.stretch sp.toNatClampNeg n.toNatClampNeg).zipIdx.map fun q => ⟨a, dp.toNatClampNeg + q.2⟩) := by
    refine ⟨by simp; exact hS.1, fun q g1 g2 => ?_, fun q hq => ?_⟩
    · rw [oq q (fun e => g2 (by rw [e]; exact hA))]
      exact hS.2.1 q g1 g2
    · rcases List.mem_append.mp hq with h | h
      · exact hS.2.2 q h
      · obtain ⟨z, -, hz⟩ := List.mem_map.mp h
        rw [← hz]
        exact hA
  obtain ⟨t, a1, b1⟩ := kk _ _ (by simp) (hP.set hD ha1 eq1 oq) hS1 ((T.setVm vm').setCell a w) (by rw [← hT]; rfl) X'
  exact ⟨t, step t a1, b1⟩
/-- a row of bytes is cloned: one cell more -/
theorem jv_cloneW {rest : List Value} {cl : List vw_C} {tys : List (ClassId × FieldType)} {ws : va_W} {a : Nat} (hexec : p.tables.exec = Jvm.exec) (hb : c.code = cc) (hml : c.maxLocals = ls.size) {own : String} {index : Nat} (hown : s.vm.findClass own = some m.cls) (hts : ∀ w ∈ jv_T, w.before args s = true) (hlink : Cond.methodLink own index ⟨"[B", "clone", "()Ljava/lang/Object;"⟩ ∈ jv_T) (hcl : va_Nw (.castable "[B" "java/lang/Cloneable") s)
    (hK : va_K D cl tys s) (hP : va_P D cl ws H) (q0 t0 : Nat) {cA : ClassId} {n : Nat} {f : Nat → Int32} (ha : ws[q0]? = some (a, .inl (cA, n, .inl f))) (ht : tys[t0]? = some (cA, .byte)) (hnm : s.vm.findClass "[B" = some cA) (hfit : ∀ i, i < n → fits .byte (.int (f i)) = true)
    (hframes : 1 ≤ R.frames) (hlocals : (rest.map fun v => v.category).sum + 14 ≤ R.locals) (hcells : cells + 1 ≤ R.cells) (hslots : slots + n ≤ R.slots) (hdg : decode cc pc = .ok (.invokevirtual index, 3))
    (kk : ∀ H1 : Heap, H1.size = H.size + 1 → (∀ q : Nat, q < H.size → H1[q]? = H[q]?) → H1[H.size]? = some (vp_cell cA (n, .inl f)) → W p l e R s m args below meth c H1 locs (cells + 1) (slots + n) Q (F0 m (pc + 3) ls (.ref H.size :: rest))) : W p l e R s m args below meth c H locs cells slots Q (F0 m pc ls (.ref a :: rest)) := by
  obtain ⟨c0, t0', f1, f2, f3⟩ := Cond.castable_spec (va_Nw.use (A := args) rfl hcl)
  cases hnm.symm.trans f1
  intro T hT X
  have hcell : H[a]? = some (vp_cell cA (n, .inl f)) := hP q0 _ ha
  obtain ⟨-, kA, hkA, comp, hkind⟩ := State.isArrayOf_alike X.warmed.alike ((hK.2 t0 _ ht).1 0 (fun _ => .null))
  obtain ⟨-, kS, hkS, compS, hkindS⟩ := (hK.2 t0 _ ht).1 0 (fun _ => .null)
  have hsz : (vp_cell cA (n, .inl f)).slots.size = n := by
    show (arrV _ _ _).slots.size = n
    exact arrV_size ..
  obtain ⟨vm', X', st⟩ := X.cloneArray hexec hown (hts _ hlink) (hts _ jw_clM) (hts _ jw_clN) (hts _ jw_clI) (hts _ jw_clS) (a := a) (cell := vp_cell cA (n, .inl f)) (by rw [hT]; exact hcell) (fun k h => by cases h) (fun h => by cases h) hnm f2 f3
    (fun i v hv => by
      have hk' : T.vm.classes[cA]? = some kA := hkA
      have hi : i < n := by
        have := (Array.getElem?_eq_some_iff.mp hv).1
        rw [hsz] at this
        exact this
      have hv2 : (arrV cA n (fun j => Value.int (f j))).slots[i]? = some v := hv
      rw [arrV_read _ _ hi] at hv2
      cases hv2
      show T.fitsSlot cA _ i (.int (f i)) = true
      simpa [State.fitsSlot, State.slotType?, hk', hkind] using hfit i hi)
    (g := F0 m pc ls (.ref a :: rest)) rfl (by rw [hml]) rfl (by rw [hb]; exact hdg) hframes (by show 2 * 0 + _ + 14 ≤ _; omega) hcells (by rw [hsz]; exact hslots) (hloader := Vm.clonesLoader_of_array hkS hkindS)
  rw [hsz] at X'
  obtain ⟨t, b1, b2⟩ := kk (H.push (vp_cell cA (n, .inl f))) (Array.size_push _) (fun q hq => by rw [Array.getElem?_push, if_neg (Nat.ne_of_lt hq)]) Array.getElem?_push_size ((T.setVm vm').pushCell (vp_cell cA (n, .inl f))) (by rw [← hT]; rfl) X'
  refine ⟨t, st t ?_, b2⟩
  rw [hT]
  exact b1
end JST
