/-! THE TEXTS: String.length, String.charAt and what they call, over the claim's own literals; words by wip/gen/strs.py -/
theorem jw_codeLEN : Cond.code yJ0_length_8abf5 cJ0_length_8abf5 1 (some .int) ∈ jv_T := jv_in_ok (i := 2168) (by decide +kernel)
theorem jw_codeCH : Cond.code yJ0_charAt_5068e cJ0_charAt_5068e 2 (some .char) ∈ jv_T := jv_in_ok (i := 2178) (by decide +kernel)
theorem jw_codeCO : Cond.code yJ0_coder_7d493 cJ0_coder_7d493 1 (some .byte) ∈ jv_T := jv_in_ok (i := 2172) (by decide +kernel)
theorem jw_codeLA : Cond.code yJ0_isLatin1_aae02 cJ0_isLatin1_aae02 1 (some .boolean) ∈ jv_T := jv_in_ok (i := 2182) (by decide +kernel)
theorem jw_codeCI : Cond.code yJ0_checkIndex_df160 cJ0_checkIndex_df160 2 none ∈ jv_T := jv_in_ok (i := 2188) (by decide +kernel)
theorem jw_codeC1 : Cond.code yJ1_charAt_3b067 cJ1_charAt_3b067 2 (some .char) ∈ jv_T := jv_in_ok (i := 2185) (by decide +kernel)
theorem jw_codeC3 : Cond.code yJ3_checkIndex_8e157 cJ3_checkIndex_8e157 3 (some .int) ∈ jv_T := jv_in_ok (i := 2193) (by decide +kernel)
theorem jw_insLEN : Cond.instanceMethod yJ0_length_8abf5 ∈ jv_T := jv_in_ok (i := 2166) (by decide +kernel)
theorem jw_selLEN : Cond.selects RJ0 yJ0_length_8abf5 yJ0_length_8abf5 ∈ jv_T := jv_in_ok (i := 2167) (by decide +kernel)
theorem jw_insCH : Cond.instanceMethod yJ0_charAt_5068e ∈ jv_T := jv_in_ok (i := 2176) (by decide +kernel)
theorem jw_selCH : Cond.selects RJ0 yJ0_charAt_5068e yJ0_charAt_5068e ∈ jv_T := jv_in_ok (i := 2177) (by decide +kernel)
theorem jw_insCO : Cond.instanceMethod yJ0_coder_7d493 ∈ jv_T := jv_in_ok (i := 2170) (by decide +kernel)
theorem jw_selCO : Cond.selects RJ0 yJ0_coder_7d493 yJ0_coder_7d493 ∈ jv_T := jv_in_ok (i := 2171) (by decide +kernel)
theorem jw_insLA : Cond.instanceMethod yJ0_isLatin1_aae02 ∈ jv_T := jv_in_ok (i := 2180) (by decide +kernel)
theorem jw_selLA : Cond.selects RJ0 yJ0_isLatin1_aae02 yJ0_isLatin1_aae02 ∈ jv_T := jv_in_ok (i := 2181) (by decide +kernel)
theorem jw_staCI : Cond.static yJ0_checkIndex_df160 ∈ jv_T := jv_in_ok (i := 2187) (by decide +kernel)
theorem jw_staC1 : Cond.static yJ1_charAt_3b067 ∈ jv_T := jv_in_ok (i := 2184) (by decide +kernel)
theorem jw_staC3 : Cond.static yJ3_checkIndex_8e157 ∈ jv_T := jv_in_ok (i := 2192) (by decide +kernel)
theorem jw_ini0 : Cond.initialized RJ0 ∈ jv_T := jv_in_ok (i := 1034) (by decide +kernel)
theorem jw_ini1 : Cond.initialized RJ1 ∈ jv_T := jv_in_ok (i := 1035) (by decide +kernel)
theorem jw_ini3 : Cond.initialized RJ3 ∈ jv_T := jv_in_ok (i := 1036) (by decide +kernel)
theorem jw_lCO : Cond.methodLink RJ0 335 yJ0_coder_7d493 ∈ jv_T := jv_in_ok (i := 2169) (by decide +kernel)
theorem jw_lLA : Cond.methodLink RJ0 492 yJ0_isLatin1_aae02 ∈ jv_T := jv_in_ok (i := 2179) (by decide +kernel)
theorem jw_lC1 : Cond.methodLink RJ0 495 yJ1_charAt_3b067 ∈ jv_T := jv_in_ok (i := 2183) (by decide +kernel)
theorem jw_lCI : Cond.methodLink RJ1 9 yJ0_checkIndex_df160 ∈ jv_T := jv_in_ok (i := 2186) (by decide +kernel)
theorem jw_lC3 : Cond.methodLink RJ0 1059 yJ3_checkIndex_8e157 ∈ jv_T := jv_in_ok (i := 2191) (by decide +kernel)
theorem jw_fV : Cond.fieldLink RJ0 9 "java/lang/String" "value" "[B" ∈ jv_T := jv_in_ok (i := 7199) (by decide +kernel)
theorem jw_fC : Cond.fieldLink RJ0 15 "java/lang/String" "coder" "B" ∈ jv_T := jv_in_ok (i := 7200) (by decide +kernel)
theorem jw_fS : Cond.fieldLink RJ0 38 "java/lang/String" "COMPACT_STRINGS" "Z" ∈ jv_T := jv_in_ok (i := 2173) (by decide +kernel)
theorem jw_fF : Cond.fieldLink RJ0 1053 "jdk/internal/util/Preconditions" "SIOOBE_FORMATTER" "Ljava/util/function/BiFunction;" ∈ jv_T := jv_in_ok (i := 2189) (by decide +kernel)
theorem dJ0_length_8abf5_0 : decode cJ0_length_8abf5 0 = .ok (.aload_n 0, 1) := by decide +kernel
theorem dJ0_length_8abf5_1 : decode cJ0_length_8abf5 1 = .ok (.getfield 9, 3) := by decide +kernel
theorem dJ0_length_8abf5_4 : decode cJ0_length_8abf5 4 = .ok (.arraylength, 1) := by decide +kernel
theorem dJ0_length_8abf5_5 : decode cJ0_length_8abf5 5 = .ok (.aload_n 0, 1) := by decide +kernel
theorem dJ0_length_8abf5_6 : decode cJ0_length_8abf5 6 = .ok (.invokevirtual 335, 3) := by decide +kernel
theorem dJ0_length_8abf5_9 : decode cJ0_length_8abf5 9 = .ok (.ishr, 1) := by decide +kernel
theorem dJ0_length_8abf5_10 : decode cJ0_length_8abf5 10 = .ok (.ireturn, 1) := by decide +kernel
theorem dJ0_charAt_5068e_0 : decode cJ0_charAt_5068e 0 = .ok (.aload_n 0, 1) := by decide +kernel
theorem dJ0_charAt_5068e_1 : decode cJ0_charAt_5068e 1 = .ok (.invokevirtual 492, 3) := by decide +kernel
theorem dJ0_charAt_5068e_4 : decode cJ0_charAt_5068e 4 = .ok (.ifCond .eq 12, 3) := by decide +kernel
theorem dJ0_charAt_5068e_7 : decode cJ0_charAt_5068e 7 = .ok (.aload_n 0, 1) := by decide +kernel
theorem dJ0_charAt_5068e_8 : decode cJ0_charAt_5068e 8 = .ok (.getfield 9, 3) := by decide +kernel
theorem dJ0_charAt_5068e_11 : decode cJ0_charAt_5068e 11 = .ok (.iload_n 1, 1) := by decide +kernel
theorem dJ0_charAt_5068e_12 : decode cJ0_charAt_5068e 12 = .ok (.invokestatic 495, 3) := by decide +kernel
theorem dJ0_charAt_5068e_15 : decode cJ0_charAt_5068e 15 = .ok (.ireturn, 1) := by decide +kernel
theorem dJ0_charAt_5068e_16 : decode cJ0_charAt_5068e 16 = .ok (.aload_n 0, 1) := by decide +kernel
theorem dJ0_charAt_5068e_17 : decode cJ0_charAt_5068e 17 = .ok (.getfield 9, 3) := by decide +kernel
theorem dJ0_charAt_5068e_20 : decode cJ0_charAt_5068e 20 = .ok (.iload_n 1, 1) := by decide +kernel
theorem dJ0_charAt_5068e_21 : decode cJ0_charAt_5068e 21 = .ok (.invokestatic 498, 3) := by decide +kernel
theorem dJ0_charAt_5068e_24 : decode cJ0_charAt_5068e 24 = .ok (.ireturn, 1) := by decide +kernel
theorem dJ0_coder_7d493_0 : decode cJ0_coder_7d493 0 = .ok (.getstatic 38, 3) := by decide +kernel
theorem dJ0_coder_7d493_3 : decode cJ0_coder_7d493 3 = .ok (.ifCond .eq 10, 3) := by decide +kernel
theorem dJ0_coder_7d493_6 : decode cJ0_coder_7d493 6 = .ok (.aload_n 0, 1) := by decide +kernel
theorem dJ0_coder_7d493_7 : decode cJ0_coder_7d493 7 = .ok (.getfield 15, 3) := by decide +kernel
theorem dJ0_coder_7d493_10 : decode cJ0_coder_7d493 10 = .ok (.goto 4, 3) := by decide +kernel
theorem dJ0_coder_7d493_13 : decode cJ0_coder_7d493 13 = .ok (.iconst 1, 1) := by decide +kernel
theorem dJ0_coder_7d493_14 : decode cJ0_coder_7d493 14 = .ok (.ireturn, 1) := by decide +kernel
theorem dJ0_isLatin1_aae02_0 : decode cJ0_isLatin1_aae02 0 = .ok (.getstatic 38, 3) := by decide +kernel
theorem dJ0_isLatin1_aae02_3 : decode cJ0_isLatin1_aae02 3 = .ok (.ifCond .eq 14, 3) := by decide +kernel
theorem dJ0_isLatin1_aae02_6 : decode cJ0_isLatin1_aae02 6 = .ok (.aload_n 0, 1) := by decide +kernel
theorem dJ0_isLatin1_aae02_7 : decode cJ0_isLatin1_aae02 7 = .ok (.getfield 15, 3) := by decide +kernel
theorem dJ0_isLatin1_aae02_10 : decode cJ0_isLatin1_aae02 10 = .ok (.ifCond .ne 7, 3) := by decide +kernel
theorem dJ0_isLatin1_aae02_13 : decode cJ0_isLatin1_aae02 13 = .ok (.iconst 1, 1) := by decide +kernel
theorem dJ0_isLatin1_aae02_14 : decode cJ0_isLatin1_aae02 14 = .ok (.goto 4, 3) := by decide +kernel
theorem dJ0_isLatin1_aae02_17 : decode cJ0_isLatin1_aae02 17 = .ok (.iconst 0, 1) := by decide +kernel
theorem dJ0_isLatin1_aae02_18 : decode cJ0_isLatin1_aae02 18 = .ok (.ireturn, 1) := by decide +kernel
theorem dJ0_checkIndex_df160_0 : decode cJ0_checkIndex_df160 0 = .ok (.iload_n 0, 1) := by decide +kernel
theorem dJ0_checkIndex_df160_1 : decode cJ0_checkIndex_df160 1 = .ok (.iload_n 1, 1) := by decide +kernel
theorem dJ0_checkIndex_df160_2 : decode cJ0_checkIndex_df160 2 = .ok (.getstatic 1053, 3) := by decide +kernel
theorem dJ0_checkIndex_df160_5 : decode cJ0_checkIndex_df160 5 = .ok (.invokestatic 1059, 3) := by decide +kernel
theorem dJ0_checkIndex_df160_8 : decode cJ0_checkIndex_df160 8 = .ok (.pop, 1) := by decide +kernel
theorem dJ0_checkIndex_df160_9 : decode cJ0_checkIndex_df160 9 = .ok (.return_, 1) := by decide +kernel
theorem dJ1_charAt_3b067_0 : decode cJ1_charAt_3b067 0 = .ok (.iload_n 1, 1) := by decide +kernel
theorem dJ1_charAt_3b067_1 : decode cJ1_charAt_3b067 1 = .ok (.aload_n 0, 1) := by decide +kernel
theorem dJ1_charAt_3b067_2 : decode cJ1_charAt_3b067 2 = .ok (.arraylength, 1) := by decide +kernel
theorem dJ1_charAt_3b067_3 : decode cJ1_charAt_3b067 3 = .ok (.invokestatic 9, 3) := by decide +kernel
theorem dJ1_charAt_3b067_6 : decode cJ1_charAt_3b067 6 = .ok (.aload_n 0, 1) := by decide +kernel
theorem dJ1_charAt_3b067_7 : decode cJ1_charAt_3b067 7 = .ok (.iload_n 1, 1) := by decide +kernel
theorem dJ1_charAt_3b067_8 : decode cJ1_charAt_3b067 8 = .ok (.baload, 1) := by decide +kernel
theorem dJ1_charAt_3b067_9 : decode cJ1_charAt_3b067 9 = .ok (.sipush 255, 3) := by decide +kernel
theorem dJ1_charAt_3b067_12 : decode cJ1_charAt_3b067 12 = .ok (.iand, 1) := by decide +kernel
theorem dJ1_charAt_3b067_13 : decode cJ1_charAt_3b067 13 = .ok (.i2c, 1) := by decide +kernel
theorem dJ1_charAt_3b067_14 : decode cJ1_charAt_3b067 14 = .ok (.ireturn, 1) := by decide +kernel
theorem dJ3_checkIndex_8e157_0 : decode cJ3_checkIndex_8e157 0 = .ok (.iload_n 0, 1) := by decide +kernel
theorem dJ3_checkIndex_8e157_1 : decode cJ3_checkIndex_8e157 1 = .ok (.ifCond .lt 8, 3) := by decide +kernel
theorem dJ3_checkIndex_8e157_4 : decode cJ3_checkIndex_8e157 4 = .ok (.iload_n 0, 1) := by decide +kernel
theorem dJ3_checkIndex_8e157_5 : decode cJ3_checkIndex_8e157 5 = .ok (.iload_n 1, 1) := by decide +kernel
theorem dJ3_checkIndex_8e157_6 : decode cJ3_checkIndex_8e157 6 = .ok (.if_icmp .lt 10, 3) := by decide +kernel
theorem dJ3_checkIndex_8e157_9 : decode cJ3_checkIndex_8e157 9 = .ok (.aload_n 2, 1) := by decide +kernel
theorem dJ3_checkIndex_8e157_10 : decode cJ3_checkIndex_8e157 10 = .ok (.iload_n 0, 1) := by decide +kernel
theorem dJ3_checkIndex_8e157_11 : decode cJ3_checkIndex_8e157 11 = .ok (.iload_n 1, 1) := by decide +kernel
theorem dJ3_checkIndex_8e157_12 : decode cJ3_checkIndex_8e157 12 = .ok (.invokestatic 95, 3) := by decide +kernel
theorem dJ3_checkIndex_8e157_15 : decode cJ3_checkIndex_8e157 15 = .ok (.athrow, 1) := by decide +kernel
theorem dJ3_checkIndex_8e157_16 : decode cJ3_checkIndex_8e157 16 = .ok (.iload_n 0, 1) := by decide +kernel
theorem dJ3_checkIndex_8e157_17 : decode cJ3_checkIndex_8e157 17 = .ok (.ireturn, 1) := by decide +kernel
theorem jv_getD_mem {bl : List Int32} {n : Nat} (h : n < bl.length) : bl.getD n 0 ∈ bl := by
  rw [List.getD_eq_getElem?_getD, List.getElem?_eq_getElem h]
  exact List.getElem_mem h
theorem jv_byt_ok : ∀ i, i < 20 → jv_lens.getD i 0 = (jv_byt.getD i []).length ∧ (jv_byt.getD i []).length < 100 ∧ Int32.ofNat (jv_byt.getD i []).length >>> ((0 : Int32) &&& 31) = Int32.ofNat (jv_byt.getD i []).length ∧ ∀ x ∈ jv_byt.getD i [], ((x &&& 255).toUInt32 % 65536).toInt32 = x ∧ narrow .char (.int x) = .int x := by decide +kernel
section JST
variable {p : Program} {l : Launch} {e : Env} {R : Room} {s : State} {m : MethodId} {args : Array Value} {below : List Frame} {meth : Method} {c : Code} {H : Heap} {locs : List Loc} {cells slots : Nat} {Q : State → Prop}
variable {cc : ByteArray} {pc nL : Nat} {ls : Array Slot} {D : va_G} {dA : Nat → ClassId} {G : jv_G} {adV : Nat → Nat} {L : Nat} {xs : Nat → Int32}
def jv_Pr (D : va_G) (dA : Nat → ClassId) (G : jv_G) (adV : Nat → Nat) (L : Nat) (xs : Nat → Int32) (a : List Value) (h : jv_H) : Array Value → State → Prop := fun v U => v = a.toArray ∧ jv_Rep D dA G L xs h U.heap ∧ jv_Kn D dA G adV L xs U
theorem jv_blindR {a : List Value} {h : jv_H} : FrameBlind (jv_Pr D dA G adV L xs a h) := fun v U g mk hp => ⟨hp.1, hp.2.1, jv_Kn.same (u := U) (U := U.calling g mk v) rfl rfl hp.2.2⟩
/-- a static method of the JDK's is called -/
theorem jv_jS {own : String} (S : CallFix p m c cc nL s args jv_T own) (hK : jv_Kn D dA G adV L xs s) {h : jv_H} (hR : jv_Rep D dA G L xs h H) (hS : va_S (fun q => G.1 ≤ q) s.heap H locs) {y : MethodName} {bytes : ByteArray} {maxL index n f lo : Nat} {ret : Option FieldType} {As rest : List Value} {r : Option Value}
    (hM : Met l y (Cond.code y bytes maxL ret :: jv_T) ({ frames := f, cells := 0, slots := 0, locals := lo } : Room) (jv_Pr D dA G adV L xs As h) (jv_Qc D dA G L xs r h) 0 0 (fun q => G.1 ≤ q)) (w1 : Cond.code y bytes maxL ret ∈ jv_T) (w2 : Cond.initialized y.cls ∈ jv_T) (w3 : Cond.methodLink own index y ∈ jv_T) (w4 : Cond.static y ∈ jv_T)
    (hd : y.cls ≠ "java/lang/invoke/MethodHandle" ∧ y.cls ≠ "java/lang/invoke/VarHandle" ∧ (parseMethodDescriptor y.desc).map (fun d => d.parameters.length) = some n) (hRm : f + 1 ≤ R.frames ∧ 8 + (maxL + 11) + lo ≤ R.locals) (hn : As.length = n) (hsz : ls.size = nL) (hWd : jv_wd rest ≤ 8) (hdg : decode cc pc = .ok (.invokestatic index, 3)) (hf : cells ≤ R.cells ∧ slots ≤ R.slots)
    {st : List Value} (hst : st = As.reverse ++ rest)
    (kk : ∀ (H1 : Heap) (locs1 : List Loc), jv_Rep D dA G L xs h H1 → va_S (fun q => G.1 ≤ q) s.heap H1 locs1 → W p l e R s m args below meth c H1 locs1 cells slots Q (F0 m (pc + 3) ls ((r.map (jv_vl (jv_ad G))).toList ++ rest))) : W p l e R s m args below meth c H locs cells slots Q (F0 m pc ls st) := by
  have hts := S.2.2.2.2
  exact jv_back (va_runS S hM ⟨callB_of n hts (jv_good w1) rfl rfl rfl (hts _ w2) (hts _ w3) hd hRm, hts _ w4⟩ ⟨jv_blindR, fun U hU hW => ⟨rfl, by rw [hU]; exact hR, hK.next (by rw [hU]; exact hS) hW⟩⟩ rfl hn hsz hst (by show 2 * 0 + _ ≤ 8; unfold jv_wd at hWd; omega) hdg ⟨hf.1, hf.2⟩) hS kk
/-- a virtual method of String's is called -/
theorem jv_jV {own C : String} (S : CallFix p m c cc nL s args jv_T own) (hK : jv_Kn D dA G adV L xs s) {h : jv_H} (hR : jv_Rep D dA G L xs h H) (hS : va_S (fun q => G.1 ≤ q) s.heap H locs) {y : MethodName} {bytes : ByteArray} {maxL index n f lo b : Nat} {ret : Option FieldType} {As rest : List Value} {r : Option Value}
    (hM : Met l y (Cond.code y bytes maxL ret :: jv_T) ({ frames := f, cells := 0, slots := 0, locals := lo } : Room) (jv_Pr D dA G adV L xs (.ref b :: As) h) (jv_Qc D dA G L xs r h) 0 0 (fun q => G.1 ≤ q)) (w1 : Cond.code y bytes maxL ret ∈ jv_T) (w2 : Cond.initialized y.cls ∈ jv_T) (w3 : Cond.methodLink own index y ∈ jv_T) (w4 : Cond.instanceMethod y ∈ jv_T) (w5 : Cond.selects C y y ∈ jv_T)
    (hrv : ∃ cell : Cell, H[b]? = some cell ∧ cell.vm.isStatics = false ∧ s.vm.findClass C = some cell.cls)
    (hd : y.cls ≠ "java/lang/invoke/MethodHandle" ∧ y.cls ≠ "java/lang/invoke/VarHandle" ∧ (parseMethodDescriptor y.desc).map (fun d => d.parameters.length) = some n) (hRm : f + 1 ≤ R.frames ∧ 8 + (maxL + 11) + lo ≤ R.locals) (hn : As.length = n) (hsz : ls.size = nL) (hWd : jv_wd rest ≤ 8) (hdg : decode cc pc = .ok (.invokevirtual index, 3)) (hf : cells ≤ R.cells ∧ slots ≤ R.slots)
    {st : List Value} (hst : st = As.reverse ++ .ref b :: rest)
    (kk : ∀ (H1 : Heap) (locs1 : List Loc), jv_Rep D dA G L xs h H1 → va_S (fun q => G.1 ≤ q) s.heap H1 locs1 → W p l e R s m args below meth c H1 locs1 cells slots Q (F0 m (pc + 3) ls ((r.map (jv_vl (jv_ad G))).toList ++ rest))) : W p l e R s m args below meth c H locs cells slots Q (F0 m pc ls st) := by
  have hts := S.2.2.2.2
  exact jv_back (va_runV S hM ⟨callB_of n hts (jv_good w1) rfl rfl rfl (hts _ w2) (hts _ w3) hd hRm, hts _ w4, hts _ w5⟩ ⟨jv_blindR, hrv, fun U hU hW => ⟨rfl, by rw [hU]; exact hR, hK.next (by rw [hU]; exact hS) hW⟩⟩ rfl hn hsz hst (by show 2 * 0 + _ ≤ 8; unfold jv_wd at hWd; omega) hdg ⟨hf.1, hf.2⟩) hS kk
set_option maxRecDepth 100000 in
/-- Preconditions.checkIndex -/
theorem jv_metC3 (i n : Int32) (w : Value) (hw : w.category = 1) (h0 : ¬ i < 0) (h1 : i < n) (h : jv_H) : Met l yJ3_checkIndex_8e157 (Cond.code yJ3_checkIndex_8e157 cJ3_checkIndex_8e157 3 (some .int) :: jv_T) ({ frames := 0, cells := 0, slots := 0, locals := 0 } : Room) (jv_Pr D dA G adV L xs [.int i, .int n, w] h) (jv_Qc D dA G L xs (some (.int i)) h) 0 0 (fun q => G.1 ≤ q) := by
  refine va_MetF (cc := cJ3_checkIndex_8e157) (maxL := 3) (ret := some .int) (ws' := jv_T) (by decide +kernel) rfl ?_
  intro p e s m args below meth c s₁ B hml hP
  obtain ⟨rfl, hR, hK⟩ := hP
  have hx := B.exec
  have hb := B.bytes
  have hr := B.returns
  have hlocks := B.notSynchronized
  rw [lg_entry_eq]
  have hl := lv_entry [.int i, .int n, w] (n := 3) (by rw [jv_sl _ (by intro v hv; simp at hv; rcases hv with rfl | rfl | rfl <;> first | rfl | exact hw)]; exact Nat.le_refl 3)
  generalize ((lg_sl [.int i, .int n, w] ++ List.replicate (3 - (lg_sl [.int i, .int n, w]).length) Slot.unset).toArray) = ls at hl ⊢
  have l0 : ls[0]? = some (.val (.int i)) := hl.2.2 (0, .int i) (by simp [lv_args])
  have l1 : ls[1]? = some (.val (.int n)) := hl.2.2 (1, .int n) (by simp [lv_args, Value.category])
  refine lv_iload_n hx hb dJ3_checkIndex_8e157_0 rfl l0 ?_
  refine lv_if_lt (tgt := 9) hx hb dJ3_checkIndex_8e157_1 (by decide) (fun q => absurd q h0) (fun _ => ?_)
  refine lv_iload_n hx hb dJ3_checkIndex_8e157_4 rfl l0 ?_
  refine lv_iload_n hx hb dJ3_checkIndex_8e157_5 rfl l1 ?_
  refine lv_icmp_lt (tgt := 16) hx hb dJ3_checkIndex_8e157_6 (by decide) (fun _ => ?_) (fun q => absurd h1 q)
  refine lv_iload_n hx hb dJ3_checkIndex_8e157_16 rfl l0 ?_
  exact W.iret hx hb hr (fun t ht _ => ⟨rfl, by rw [ht]; exact hR, (va_S.rf (A := fun q => G.1 ≤ q)).F ht⟩) (fun q hq => by cases hq) dJ3_checkIndex_8e157_17
set_option maxRecDepth 100000 in
/-- String.checkIndex -/
theorem jv_metCI (i n : Int32) (h0 : ¬ i < 0) (h1 : i < n) (h : jv_H) : Met l yJ0_checkIndex_df160 (Cond.code yJ0_checkIndex_df160 cJ0_checkIndex_df160 2 none :: jv_T) ({ frames := 1, cells := 0, slots := 0, locals := 22 } : Room) (jv_Pr D dA G adV L xs [.int i, .int n] h) (jv_Qc D dA G L xs none h) 0 0 (fun q => G.1 ≤ q) := by
  refine va_MetF (cc := cJ0_checkIndex_df160) (maxL := 2) (ret := none) (ws' := jv_T) (by decide +kernel) rfl ?_
  intro p e s m args below meth c s₁ B hml hP
  obtain ⟨rfl, hR, hK⟩ := hP
  have hx := B.exec
  have hb := B.bytes
  have hr := B.returns
  have hlocks := B.notSynchronized
  have hts : ∀ w ∈ jv_T, w.before [Value.int i, .int n].toArray s = true := fun w hw => atoms_spec (ws := Cond.code yJ0_checkIndex_df160 cJ0_checkIndex_df160 2 none :: jv_T) B.pre w (List.mem_cons_of_mem _ hw)
  have hown : s.vm.findClass RJ0 = some m.cls := findClass_of_methodNamed B.named
  rw [lg_entry_eq]
  have hl := lv_entry [.int i, .int n] (n := 2) (Nat.le_of_ble_eq_true rfl)
  generalize ((lg_sl [.int i, .int n] ++ List.replicate (2 - (lg_sl [.int i, .int n]).length) Slot.unset).toArray) = ls at hl ⊢
  have l0 : ls[0]? = some (.val (.int i)) := hl.2.2 (0, .int i) (by simp [lv_args])
  have l1 : ls[1]? = some (.val (.int n)) := hl.2.2 (1, .int n) (by simp [lv_args, Value.category])
  have hS : va_S (fun q => G.1 ≤ q) s.heap s.heap [] := va_S.rf
  obtain ⟨v, hv, hZ⟩ := hK.2.2.2.2.2.2.2.2.2.2
  have hvc : v.category = 1 := by rcases hv with rfl | ⟨a, rfl⟩ <;> rfl
  refine lv_iload_n hx hb dJ0_checkIndex_df160_0 rfl l0 ?_
  refine lv_iload_n hx hb dJ0_checkIndex_df160_1 rfl l1 ?_
  refine va_gets hx hb hZ hS hown (hts _ jw_fF) (fun _ q => q) dJ0_checkIndex_df160_2 ?_
  refine jv_jS (n := 3) (As := [.int i, .int n, v]) (rest := []) ⟨hx, hb, hml, hown, hts⟩ hK hR hS (jv_metC3 i n v hvc h0 h1 h) jw_codeC3 jw_ini3 jw_lC3 jw_staC3 (by decide +kernel) ⟨Nat.le_refl _, Nat.le_refl _⟩ rfl hl.1 (by decide) dJ0_checkIndex_df160_5 ⟨Nat.le_refl _, Nat.le_refl _⟩ rfl (fun H1 locs1 hR1 hS1 => ?_)
  refine lv_pop (va := .int i) hx hb dJ0_checkIndex_df160_8 rfl ?_
  exact W.vret hx hb hr (fun t ht _ => ⟨rfl, by rw [ht]; exact hR1, hS1.F ht⟩) hS1.2.2 dJ0_checkIndex_df160_9
set_option maxRecDepth 100000 in
/-- StringLatin1.charAt over the bytes of text k -/
theorem jv_metC1 (k : Nat) (j : Int32) (hk : k < 20) (hj : ¬ (j < 0 ∨ (jv_byt.getD k []).length ≤ j.toNatClampNeg)) (h : jv_H) : Met l yJ1_charAt_3b067 (Cond.code yJ1_charAt_3b067 cJ1_charAt_3b067 2 (some .char) :: jv_T) ({ frames := 2, cells := 0, slots := 0, locals := 43 } : Room) (jv_Pr D dA G adV L xs [.ref (adV k), .int j] h) (jv_Qc D dA G L xs (some (.int ((jv_byt.getD k []).getD j.toNatClampNeg 0))) h) 0 0 (fun q => G.1 ≤ q) := by
  obtain ⟨hlen, hlt, hsh, hch⟩ := jv_byt_ok k hk
  refine va_MetF (cc := cJ1_charAt_3b067) (maxL := 2) (ret := some .char) (ws' := jv_T) (by decide +kernel) rfl ?_
  intro p e s m args below meth c s₁ B hml hP
  obtain ⟨rfl, hR, hK⟩ := hP
  have hx := B.exec
  have hb := B.bytes
  have hr := B.returns
  have hlocks := B.notSynchronized
  have hts : ∀ w ∈ jv_T, w.before [Value.ref (adV k), .int j].toArray s = true := fun w hw => atoms_spec (ws := Cond.code yJ1_charAt_3b067 cJ1_charAt_3b067 2 (some .char) :: jv_T) B.pre w (List.mem_cons_of_mem _ hw)
  have hown : s.vm.findClass RJ1 = some m.cls := findClass_of_methodNamed B.named
  rw [lg_entry_eq]
  have hl := lv_entry [.ref (adV k), .int j] (n := 2) (Nat.le_of_ble_eq_true rfl)
  generalize ((lg_sl [.ref (adV k), .int j] ++ List.replicate (2 - (lg_sl [.ref (adV k), .int j]).length) Slot.unset).toArray) = ls at hl ⊢
  have l0 : ls[0]? = some (.val (.ref (adV k))) := hl.2.2 (0, .ref (adV k)) (by simp [lv_args])
  have l1 : ls[1]? = some (.val (.int j)) := hl.2.2 (1, .int j) (by simp [lv_args, Value.category])
  have hS : va_S (fun q => G.1 ≤ q) s.heap s.heap [] := va_S.rf
  have hT := (hK.2.2.2.2.1.1 k hk).2.2.2
  rw [hlen] at hT
  have hj0 : ¬ j < 0 := fun q => hj (Or.inl q)
  have hjn : j.toNatClampNeg < (jv_byt.getD k []).length := Nat.not_le.mp (fun q => hj (Or.inr q))
  have hj1 : j < Int32.ofNat (jv_byt.getD k []).length := by
    have e1 : (0 : Int) ≤ j.toInt := by
      have := Int32.not_lt.mp hj0
      simpa using Int32.le_iff_toInt_le.mp this
    have e2 : j.toInt = (j.toNatClampNeg : Int) := by
      show j.toInt = ((j.toInt.toNat : Nat) : Int)
      omega
    rw [Int32.lt_iff_toInt_lt, e2, show (Int32.ofNat (jv_byt.getD k []).length).toInt = ((jv_byt.getD k []).length : Int) from nI_toInt (by omega)]
    omega
  have hmem : (jv_byt.getD k []).getD j.toNatClampNeg 0 ∈ jv_byt.getD k [] := jv_getD_mem hjn
  obtain ⟨hc1, hc2⟩ := hch _ hmem
  refine lv_iload_n hx hb dJ1_charAt_3b067_0 rfl l1 ?_
  refine lv_aload_n hx hb dJ1_charAt_3b067_1 rfl l0 ?_
  refine va_tlen hx hb hT hS rfl dJ1_charAt_3b067_2 ?_
  refine jv_jS (n := 2) (As := [.int j, .int (Int32.ofNat (jv_byt.getD k []).length)]) (rest := []) ⟨hx, hb, hml, hown, hts⟩ hK hR hS (jv_metCI j _ hj0 hj1 h) jw_codeCI jw_ini0 jw_lCI jw_staCI (by decide +kernel) ⟨Nat.le_refl _, Nat.le_refl _⟩ rfl hl.1 (by decide) dJ1_charAt_3b067_3 ⟨Nat.le_refl _, Nat.le_refl _⟩ rfl (fun H1 locs1 hR1 hS1 => ?_)
  refine lv_aload_n hx hb dJ1_charAt_3b067_6 rfl l0 ?_
  refine lv_iload_n hx hb dJ1_charAt_3b067_7 rfl l1 ?_
  refine va_tb hx hb hT hS1 hj rfl dJ1_charAt_3b067_8 ?_
  refine lv_sipush (v := 255) hx hb dJ1_charAt_3b067_9 (by decide) ?_
  refine lv_iand hx hb dJ1_charAt_3b067_12 ?_
  refine lv_i2c hx hb dJ1_charAt_3b067_13 hc1 ?_
  exact W.zret hx hb hr hc2 (fun t ht _ => ⟨rfl, by rw [ht]; exact hR1, hS1.F ht⟩) hS1.2.2 dJ1_charAt_3b067_14
set_option maxRecDepth 100000 in
/-- String.coder of text k -/
theorem jv_metCO (k : Nat) (hk : k < 20) (h : jv_H) : Met l yJ0_coder_7d493 (Cond.code yJ0_coder_7d493 cJ0_coder_7d493 1 (some .byte) :: jv_T) ({ frames := 0, cells := 0, slots := 0, locals := 0 } : Room) (jv_Pr D dA G adV L xs [.ref (G.2.2 k)] h) (jv_Qc D dA G L xs (some (.int 0)) h) 0 0 (fun q => G.1 ≤ q) := by
  refine va_MetF (cc := cJ0_coder_7d493) (maxL := 1) (ret := some .byte) (ws' := jv_T) (by decide +kernel) rfl ?_
  intro p e s m args below meth c s₁ B hml hP
  obtain ⟨rfl, hR, hK⟩ := hP
  have hx := B.exec
  have hb := B.bytes
  have hr := B.returns
  have hlocks := B.notSynchronized
  have hts : ∀ w ∈ jv_T, w.before [Value.ref (G.2.2 k)].toArray s = true := fun w hw => atoms_spec (ws := Cond.code yJ0_coder_7d493 cJ0_coder_7d493 1 (some .byte) :: jv_T) B.pre w (List.mem_cons_of_mem _ hw)
  have hown : s.vm.findClass RJ0 = some m.cls := findClass_of_methodNamed B.named
  rw [lg_entry_eq]
  have hl := lv_entry [.ref (G.2.2 k)] (n := 1) (Nat.le_of_ble_eq_true rfl)
  generalize ((lg_sl [.ref (G.2.2 k)] ++ List.replicate (1 - (lg_sl [.ref (G.2.2 k)]).length) Slot.unset).toArray) = ls at hl ⊢
  have l0 : ls[0]? = some (.val (.ref (G.2.2 k))) := hl.2.2 (0, .ref (G.2.2 k)) (by simp [lv_args])
  have hS : va_S (fun q => G.1 ≤ q) s.heap s.heap [] := va_S.rf
  refine va_gets hx hb hK.2.2.2.2.2.2.2.2.2.1 hS hown (hts _ jw_fS) (fun _ q => q) dJ0_coder_7d493_0 ?_
  refine lv_if_eq (tgt := 13) hx hb dJ0_coder_7d493_3 (by decide) (fun q => absurd q (by decide)) (fun _ => ?_)
  refine lv_aload_n hx hb dJ0_coder_7d493_6 rfl l0 ?_
  refine vk_getf hx hb (hK.2.2.2.2.1.1 k hk).2.1 hS hown (hts _ jw_fC) (fun _ q => q) dJ0_coder_7d493_7 ?_
  refine lv_goto (tgt := 14) hx hb dJ0_coder_7d493_10 (by decide) ?_
  exact W.zret hx hb hr (by decide) (fun t ht _ => ⟨rfl, by rw [ht]; exact hR, hS.F ht⟩) (fun q hq => by cases hq) dJ0_coder_7d493_14
set_option maxRecDepth 100000 in
/-- String.isLatin1 of text k -/
theorem jv_metLA (k : Nat) (hk : k < 20) (h : jv_H) : Met l yJ0_isLatin1_aae02 (Cond.code yJ0_isLatin1_aae02 cJ0_isLatin1_aae02 1 (some .boolean) :: jv_T) ({ frames := 0, cells := 0, slots := 0, locals := 0 } : Room) (jv_Pr D dA G adV L xs [.ref (G.2.2 k)] h) (jv_Qc D dA G L xs (some (.int 1)) h) 0 0 (fun q => G.1 ≤ q) := by
  refine va_MetF (cc := cJ0_isLatin1_aae02) (maxL := 1) (ret := some .boolean) (ws' := jv_T) (by decide +kernel) rfl ?_
  intro p e s m args below meth c s₁ B hml hP
  obtain ⟨rfl, hR, hK⟩ := hP
  have hx := B.exec
  have hb := B.bytes
  have hr := B.returns
  have hlocks := B.notSynchronized
  have hts : ∀ w ∈ jv_T, w.before [Value.ref (G.2.2 k)].toArray s = true := fun w hw => atoms_spec (ws := Cond.code yJ0_isLatin1_aae02 cJ0_isLatin1_aae02 1 (some .boolean) :: jv_T) B.pre w (List.mem_cons_of_mem _ hw)
  have hown : s.vm.findClass RJ0 = some m.cls := findClass_of_methodNamed B.named
  rw [lg_entry_eq]
  have hl := lv_entry [.ref (G.2.2 k)] (n := 1) (Nat.le_of_ble_eq_true rfl)
  generalize ((lg_sl [.ref (G.2.2 k)] ++ List.replicate (1 - (lg_sl [.ref (G.2.2 k)]).length) Slot.unset).toArray) = ls at hl ⊢
  have l0 : ls[0]? = some (.val (.ref (G.2.2 k))) := hl.2.2 (0, .ref (G.2.2 k)) (by simp [lv_args])
  have hS : va_S (fun q => G.1 ≤ q) s.heap s.heap [] := va_S.rf
  refine va_gets hx hb hK.2.2.2.2.2.2.2.2.2.1 hS hown (hts _ jw_fS) (fun _ q => q) dJ0_isLatin1_aae02_0 ?_
  refine lv_if_eq (tgt := 17) hx hb dJ0_isLatin1_aae02_3 (by decide) (fun q => absurd q (by decide)) (fun _ => ?_)
  refine lv_aload_n hx hb dJ0_isLatin1_aae02_6 rfl l0 ?_
  refine vk_getf hx hb (hK.2.2.2.2.1.1 k hk).2.1 hS hown (hts _ jw_fC) (fun _ q => q) dJ0_isLatin1_aae02_7 ?_
  refine lv_if_ne (tgt := 17) hx hb dJ0_isLatin1_aae02_10 (by decide) (fun q => absurd rfl q) (fun _ => ?_)
  refine lv_iconst (v := 1) hx hb dJ0_isLatin1_aae02_13 (by decide) ?_
  refine lv_goto (tgt := 18) hx hb dJ0_isLatin1_aae02_14 (by decide) ?_
  exact W.zret hx hb hr (by decide) (fun t ht _ => ⟨rfl, by rw [ht]; exact hR, hS.F ht⟩) (fun q hq => by cases hq) dJ0_isLatin1_aae02_18
set_option maxRecDepth 100000 in
theorem jv_len_met : jv_LenMet l D dA G adV L xs := by
  intro k h hk
  obtain ⟨hlen, hlt, hsh, hch⟩ := jv_byt_ok k hk
  refine va_MetF (cc := cJ0_length_8abf5) (maxL := 1) (ret := some .int) (ws' := jv_T) (by decide +kernel) rfl ?_
  intro p e s m args below meth c s₁ B hml hP
  obtain ⟨hargs, hR, hK⟩ := hP
  have hargs2 : args = [Value.ref (G.2.2 k)].toArray := by
    rw [hargs]
    show [Value.ref (jv_ad G (1000001 + k))].toArray = _
    rw [jv_ad_txt]
  subst hargs2
  have hx := B.exec
  have hb := B.bytes
  have hr := B.returns
  have hlocks := B.notSynchronized
  have hts : ∀ w ∈ jv_T, w.before [Value.ref (G.2.2 k)].toArray s = true := fun w hw => atoms_spec (ws := Cond.code yJ0_length_8abf5 cJ0_length_8abf5 1 (some .int) :: jv_T) B.pre w (List.mem_cons_of_mem _ hw)
  have hown : s.vm.findClass RJ0 = some m.cls := findClass_of_methodNamed B.named
  rw [lg_entry_eq]
  have hl := lv_entry [.ref (G.2.2 k)] (n := 1) (Nat.le_of_ble_eq_true rfl)
  generalize ((lg_sl [.ref (G.2.2 k)] ++ List.replicate (1 - (lg_sl [.ref (G.2.2 k)]).length) Slot.unset).toArray) = ls at hl ⊢
  have l0 : ls[0]? = some (.val (.ref (G.2.2 k))) := hl.2.2 (0, .ref (G.2.2 k)) (by simp [lv_args])
  have hS : va_S (fun q => G.1 ≤ q) s.heap s.heap [] := va_S.rf
  have hT := (hK.2.2.2.2.1.1 k hk).2.2.2
  rw [hlen] at hT
  refine lv_aload_n hx hb dJ0_length_8abf5_0 rfl l0 ?_
  refine vk_getf hx hb (hK.2.2.2.2.1.1 k hk).2.2.1 hS hown (hts _ jw_fV) (fun _ q => q) dJ0_length_8abf5_1 ?_
  refine va_tlen hx hb hT hS rfl dJ0_length_8abf5_4 ?_
  refine lv_aload_n hx hb dJ0_length_8abf5_5 rfl l0 ?_
  refine jv_jV (n := 0) (C := RJ0) (As := []) (b := G.2.2 k) (rest := [.int (Int32.ofNat (jv_byt.getD k []).length)]) ⟨hx, hb, hml, hown, hts⟩ hK hR hS (jv_metCO k hk h) jw_codeCO jw_ini0 jw_lCO jw_insCO jw_selCO (vk_recv hK.2.2.2.2.1 hk hS) (by decide +kernel) ⟨by decide, by decide⟩ rfl hl.1 (Nat.le_of_ble_eq_true rfl) dJ0_length_8abf5_6 ⟨Nat.le_refl _, Nat.le_refl _⟩ rfl (fun H1 locs1 hR1 hS1 => ?_)
  refine lv_ishr (x := Int32.ofNat (jv_byt.getD k []).length) (y := 0) hx hb dJ0_length_8abf5_9 ?_
  rw [hsh]
  exact W.iret hx hb hr (fun t ht _ => ⟨rfl, by rw [ht]; exact hR1, hS1.F ht⟩) hS1.2.2 dJ0_length_8abf5_10
set_option maxRecDepth 100000 in
theorem jv_chr_met : jv_ChrMet l D dA G adV L xs := by
  intro k j h hk hj
  refine va_MetF (cc := cJ0_charAt_5068e) (maxL := 2) (ret := some .char) (ws' := jv_T) (by decide +kernel) rfl ?_
  intro p e s m args below meth c s₁ B hml hP
  obtain ⟨hargs, hR, hK⟩ := hP
  have hargs2 : args = [Value.ref (G.2.2 k), .int j].toArray := by
    rw [hargs]
    show [Value.ref (jv_ad G (1000001 + k)), .int j].toArray = _
    rw [jv_ad_txt]
  subst hargs2
  have hx := B.exec
  have hb := B.bytes
  have hr := B.returns
  have hlocks := B.notSynchronized
  have hts : ∀ w ∈ jv_T, w.before [Value.ref (G.2.2 k), .int j].toArray s = true := fun w hw => atoms_spec (ws := Cond.code yJ0_charAt_5068e cJ0_charAt_5068e 2 (some .char) :: jv_T) B.pre w (List.mem_cons_of_mem _ hw)
  have hown : s.vm.findClass RJ0 = some m.cls := findClass_of_methodNamed B.named
  rw [lg_entry_eq]
  have hl := lv_entry [.ref (G.2.2 k), .int j] (n := 2) (Nat.le_of_ble_eq_true rfl)
  generalize ((lg_sl [.ref (G.2.2 k), .int j] ++ List.replicate (2 - (lg_sl [.ref (G.2.2 k), .int j]).length) Slot.unset).toArray) = ls at hl ⊢
  have l0 : ls[0]? = some (.val (.ref (G.2.2 k))) := hl.2.2 (0, .ref (G.2.2 k)) (by simp [lv_args])
  have l1 : ls[1]? = some (.val (.int j)) := hl.2.2 (1, .int j) (by simp [lv_args, Value.category])
  have hS : va_S (fun q => G.1 ≤ q) s.heap s.heap [] := va_S.rf
  obtain ⟨hlen, hlt, hsh, hch⟩ := jv_byt_ok k hk
  have hjn : j.toNatClampNeg < (jv_byt.getD k []).length := Nat.not_le.mp (fun q => hj (Or.inr q))
  have hmem : (jv_byt.getD k []).getD j.toNatClampNeg 0 ∈ jv_byt.getD k [] := jv_getD_mem hjn
  refine lv_aload_n hx hb dJ0_charAt_5068e_0 rfl l0 ?_
  refine jv_jV (n := 0) (C := RJ0) (As := []) (b := G.2.2 k) (rest := []) ⟨hx, hb, hml, hown, hts⟩ hK hR hS (jv_metLA k hk h) jw_codeLA jw_ini0 jw_lLA jw_insLA jw_selLA (vk_recv hK.2.2.2.2.1 hk hS) (by decide +kernel) ⟨by decide, by decide⟩ rfl hl.1 (by decide) dJ0_charAt_5068e_1 ⟨Nat.le_refl _, Nat.le_refl _⟩ rfl (fun H1 locs1 hR1 hS1 => ?_)
  refine lv_if_eq (x := 1) (tgt := 16) hx hb dJ0_charAt_5068e_4 (by decide) (fun q => absurd q (by decide)) (fun _ => ?_)
  refine lv_aload_n hx hb dJ0_charAt_5068e_7 rfl l0 ?_
  refine vk_getf hx hb (hK.2.2.2.2.1.1 k hk).2.2.1 hS1 hown (hts _ jw_fV) (fun _ q => q) dJ0_charAt_5068e_8 ?_
  refine lv_iload_n hx hb dJ0_charAt_5068e_11 rfl l1 ?_
  refine jv_jS (n := 2) (As := [.ref (adV k), .int j]) (rest := []) ⟨hx, hb, hml, hown, hts⟩ hK hR1 hS1 (jv_metC1 k j hk hj h) jw_codeC1 jw_ini1 jw_lC1 jw_staC1 (by decide +kernel) ⟨by decide, by decide⟩ rfl hl.1 (by decide) dJ0_charAt_5068e_12 ⟨Nat.le_refl _, Nat.le_refl _⟩ rfl (fun H2 locs2 hR2 hS2 => ?_)
  exact W.zret hx hb hr (hch _ hmem).2 (fun t ht _ => ⟨rfl, by rw [ht]; exact hR2, hS2.F ht⟩) hS2.2.2 dJ0_charAt_5068e_15
end JST

