/-! THE J MACHINE IS RIGHT: what reads and writes cells; printed by wip/p42/jheap42.py -/
theorem jw_s1 : Cond.fieldLink RJ0 38 "java/lang/String" "COMPACT_STRINGS" "Z" ∈ jv_T := jv_in_ok (i := 2155) (by decide +kernel)
theorem jw_s2 : Cond.fieldLink RJ5 18 "java/lang/String" "COMPACT_STRINGS" "Z" ∈ jv_T := jv_in_ok (i := 4182) (by decide +kernel)
theorem jw_s3 : Cond.fieldLink RJ6 83 "java/lang/Integer" "DigitOnes" "[B" ∈ jv_T := jv_in_ok (i := 4256) (by decide +kernel)
theorem jw_s4 : Cond.fieldLink RJ6 87 "java/lang/Integer" "DigitTens" "[B" ∈ jv_T := jv_in_ok (i := 4258) (by decide +kernel)
theorem jw_cc : Cond.classLink RJ7 311 "[B" ∈ jv_T := jv_in_ok (i := 4170) (by decide +kernel)
theorem jw_ma : Cond.classLink RL 101 "[[I" ∈ jv_T := jv_in_ok (i := 5173) (by decide +kernel)
theorem jw_l85 : Cond.constantLong RL 85 7 ∈ jv_T := jv_in_ok (i := 5157) (by decide +kernel)
theorem jw_l87 : Cond.constantLong RL 87 31 ∈ jv_T := jv_in_ok (i := 5158) (by decide +kernel)
theorem jw_l92 : Cond.constantLong RL 92 101 ∈ jv_T := jv_in_ok (i := 5159) (by decide +kernel)
/-- the base of the new cells, the script's address, the texts' addresses -/
abbrev jv_G : Type := Nat × Nat × (Nat → Nat)
def jv_ad (G : jv_G) (k : Nat) : Nat := if k < 1000000 then G.1 + k else if k = 1000000 then G.2.1 else G.2.2 (k - 1000001)
theorem jv_ad_lt {G : jv_G} {k : Nat} (h : k < 1000000) : jv_ad G k = G.1 + k := if_pos h
theorem jv_ad_scr {G : jv_G} : jv_ad G 1000000 = G.2.1 := rfl
theorem jv_ad_txt {G : jv_G} (i : Nat) : jv_ad G (1000001 + i) = G.2.2 i := by
  unfold jv_ad
  rw [if_neg (by omega), if_neg (by omega), show 1000001 + i - 1000001 = i by omega]
def jv_ce (dA : Nat → ClassId) (ad : Nat → Nat) (x : jv_E) : va_E := match x with
  | .inl (ty, n, f) => .inl (dA ty, n, .inl f)
  | .inr (.inl (ty, n, f)) => .inl (dA ty, n, .inr (.inr (.inr (.inr (fun j => (f j).map ad)))))
  | .inr (.inr (c, fs)) => .inr (c, fs.map (jv_vl ad))
/-- the J machine's cells as a world of the kit's -/
def jv_ws (dA : Nat → ClassId) (G : jv_G) (h : jv_H) : va_W := (List.range h.2.1).map (fun k => (G.1 + k, jv_ce dA (jv_ad G) (h.1 k)))
theorem jv_ws_get {dA : Nat → ClassId} {G : jv_G} {h : jv_H} {k : Nat} (hk : k < h.2.1) : (jv_ws dA G h)[k]? = some (G.1 + k, jv_ce dA (jv_ad G) (h.1 k)) := by
  simp [jv_ws, hk]
theorem jv_ws_inv {dA : Nat → ClassId} {G : jv_G} {h : jv_H} {k : Nat} {q : Nat × va_E} (hk : (jv_ws dA G h)[k]? = some q) : q.1 = G.1 + k := by
  unfold jv_ws at hk
  rw [List.getElem?_map] at hk
  cases hr : (List.range h.2.1)[k]? with
  | none => rw [hr] at hk; cases hk
  | some j =>
    rw [hr] at hk
    have hj : j = k := by
      have h1 := List.getElem?_eq_some_iff.mp hr
      obtain ⟨h2, h3⟩ := h1
      rw [List.getElem_range] at h3
      exact h3.symm
    subst hj
    cases hk
    rfl
theorem jv_ws_set {dA : Nat → ClassId} {G : jv_G} {h : jv_H} {k : Nat} (x : jv_E) (hk : k < h.2.1) : (jv_ws dA G h).set k (G.1 + k, jv_ce dA (jv_ad G) x) = jv_ws dA G (jv_put h k x) := by
  apply List.ext_getElem?
  intro j
  by_cases hj : k = j
  · subst hj
    rw [List.getElem?_set_self (by simp [jv_ws, hk]), jv_ws_get (h := jv_put h k x) hk]
    simp [jv_put, jv_up]
  · rw [List.getElem?_set_ne hj]
    by_cases hlt : j < h.2.1
    · rw [jv_ws_get hlt, jv_ws_get (h := jv_put h k x) hlt]
      simp [jv_put, jv_up, Ne.symm hj]
    · rw [List.getElem?_eq_none (by simp [jv_ws]; omega), List.getElem?_eq_none (by simp [jv_ws, jv_put]; omega)]
theorem jv_ws_add {dA : Nat → ClassId} {G : jv_G} {h : jv_H} (x : jv_E) (n : Nat) : jv_ws dA G (jv_add h x n) = jv_ws dA G h ++ [(G.1 + h.2.1, jv_ce dA (jv_ad G) x)] := by
  unfold jv_ws jv_add
  simp only [List.range_succ, List.map_append, List.map_cons, List.map_nil]
  congr 1
  · apply List.map_congr_left
    intro k hk
    have h1 := List.mem_range.mp hk
    simp [jv_up, Nat.ne_of_lt h1]
  · simp [jv_up]
theorem jv_ws_D {dA : Nat → ClassId} {G : jv_G} {h : jv_H} : va_D (fun q => G.1 ≤ q) (jv_ws dA G h) := by
  refine ⟨fun i j p q hp hq hpq => ?_, fun k q hk => ?_⟩
  · rw [jv_ws_inv hp, jv_ws_inv hq] at hpq
    omega
  · show G.1 ≤ q.1
    rw [jv_ws_inv hk]
    omega
/-- the cells that are old: texts, their letters, the rows of digits -/
def jv_oldc (a : Nat) : jv_E := if a < 1000038 then .inr (.inr (8, [.ref (a + 100), .int 0])) else if 1000101 ≤ a ∧ a < 1000138 then .inl (4, (jv_byt.getD (a - 1000101) []).length, fun j => (jv_byt.getD (a - 1000101) []).getD j 0)
  else if a = 1000201 then .inl (4, 100, fun j => Int32.ofNat (48 + j % 10)) else if a = 1000202 then .inl (4, 100, fun j => Int32.ofNat (48 + j / 10)) else .inr (.inl (99, 0, fun _ => none))
theorem jv_old_eq {a : Nat} (h : jv_old a = true) : 1000001 ≤ a ∧ a ≤ 1000202 := by
  unfold jv_old at h
  rw [Bool.and_eq_true] at h
  exact ⟨Nat.le_of_ble_eq_true h.1, Nat.le_of_ble_eq_true h.2⟩
/-- what never changes: the script, the old cells -/
def jv_fix (L : Nat) (xs : Nat → Int32) (h : jv_H) : Prop := h.1 1000000 = .inl (9, L, xs) ∧ ∀ a, jv_old a = true → h.1 a = jv_oldc a
theorem jv_fix.up {L : Nat} {xs : Nat → Int32} {h h' : jv_H} (hf : jv_fix L xs h) {k : Nat} (hk : k < 1000000) {x : jv_E} (he : h'.1 = jv_up h.1 k x) : jv_fix L xs h' := by
  unfold jv_fix
  rw [he]
  unfold jv_up
  refine ⟨by rw [if_neg (by omega)]; exact hf.1, fun a ha => ?_⟩
  have := jv_old_eq ha
  rw [if_neg (by omega)]
  exact hf.2 a ha
/-- an old cell that is a text -/
theorem jv_oldc_txt {a d : Nat} {fs : List Value} (h : jv_old a = true) (e : jv_oldc a = .inr (.inr (d, fs))) : ∃ i, i < 37 ∧ a = 1000001 + i ∧ d = 8 ∧ fs = [.ref (1000101 + i), .int 0] := by
  have h1 := jv_old_eq h
  unfold jv_oldc at e
  split at e
  · cases e
    exact ⟨a - 1000001, by omega, by omega, rfl, by rw [show a + 100 = 1000101 + (a - 1000001) by omega]⟩
  · split at e
    · cases e
    · split at e
      · cases e
      · split at e
        · cases e
        · cases e
/-- an old cell of bytes: letters or digits -/
theorem jv_oldc_byt {a ty n : Nat} {f : Nat → Int32} (h : jv_old a = true) (e : jv_oldc a = .inl (ty, n, f)) : ty = 4 ∧ ((∃ i, i < 37 ∧ a = 1000101 + i ∧ n = (jv_byt.getD i []).length ∧ f = fun j => (jv_byt.getD i []).getD j 0) ∨ (a = 1000201 ∧ n = 100 ∧ f = fun j => Int32.ofNat (48 + j % 10)) ∨ (a = 1000202 ∧ n = 100 ∧ f = fun j => Int32.ofNat (48 + j / 10))) := by
  have h1 := jv_old_eq h
  unfold jv_oldc at e
  split at e
  · cases e
  · split at e
    · rename_i h2
      have e2 := Prod.mk.inj (Sum.inl.inj e)
      have e3 := Prod.mk.inj e2.2
      exact ⟨e2.1.symm, Or.inl ⟨a - 1000101, by omega, by omega, e3.1.symm, e3.2.symm⟩⟩
    · split at e
      · rename_i h3
        have e2 := Prod.mk.inj (Sum.inl.inj e)
        have e3 := Prod.mk.inj e2.2
        exact ⟨e2.1.symm, Or.inr (Or.inl ⟨h3, e3.1.symm, e3.2.symm⟩)⟩
      · split at e
        · rename_i h3
          have e2 := Prod.mk.inj (Sum.inl.inj e)
          have e3 := Prod.mk.inj e2.2
          exact ⟨e2.1.symm, Or.inr (Or.inr ⟨h3, e3.1.symm, e3.2.symm⟩)⟩
        · cases e
theorem jv_lens_ok : ∀ i, i < 37 → jv_lens.getD i 0 = (jv_byt.getD i []).length := by decide +kernel
def jv_Rep (D : va_G) (dA : Nat → ClassId) (G : jv_G) (L : Nat) (xs : Nat → Int32) (h : jv_H) (H : Heap) : Prop := H.size = G.1 + h.2.1 ∧ h.2.1 ≤ 1000000 ∧ va_P D jv_Cl (jv_ws dA G h) H ∧ jv_fix L xs h
abbrev jv_tys (dA : Nat → ClassId) : List (ClassId × FieldType) := [(dA 0, .int), (dA 1, .boolean), (dA 2, .object "SeatSwap$Traveller"), (dA 3, .object "SeatSwap$Train"), (dA 4, .byte), (dA 5, .object "java/lang/String"), (dA 6, .array .int)]
/-- what the J machine says of the JDK's: the rows of digits, an array's clone -/
def jv_K3 (G : jv_G) (adV : Nat → Nat) (U : State) : Prop := va_AO "java/lang/String" U ∧ (∀ i, i < 37 → G.2.2 (100 + i) = adV i) ∧
  (va_Z "java/lang/Integer" "DigitOnes" "[B" (.ref (G.2.2 200)) (fun q => G.1 ≤ q) U U.heap ∧ va_T .byte (G.2.2 200) 100 (fun j => .int (Int32.ofNat (48 + j % 10))) (fun q => G.1 ≤ q) U U.heap) ∧
  (va_Z "java/lang/Integer" "DigitTens" "[B" (.ref (G.2.2 201)) (fun q => G.1 ≤ q) U U.heap ∧ va_T .byte (G.2.2 201) 100 (fun j => .int (Int32.ofNat (48 + j / 10))) (fun q => G.1 ≤ q) U U.heap) ∧
  va_Nw (.castable "[B" "java/lang/Cloneable") U ∧ va_Nw (.arrayOver (.array .int)) U
theorem jv_warmA {s U : State} (hal : s.vm.Alike U.vm) (h : va_Nw (.arrayOver (.array .int)) s) : va_Nw (.arrayOver (.array .int)) U := by
  have h2 : (Cond.arrayOver (.array .int)).before #[] (s.setVm U.vm) = true := by rw [Cond.arrayOver_setVmC hal]; exact h
  exact h2
/-- what is said of classes, nest mates and the JDK's statics -/
def jv_K2 (G : jv_G) (adV : Nat → Nat) (U : State) : Prop := va_AO "SeatSwap$Traveller" U ∧ va_AO "SeatSwap$Train" U ∧ (∀ w ∈ jv_nests, va_Nw w U) ∧ va_Z "java/lang/String" "COMPACT_STRINGS" "Z" (.int 1) (fun q => G.1 ≤ q) U U.heap ∧ jv_K3 G adV U ∧
  ∃ v : Value, (v = .null ∨ ∃ a, v = .ref a) ∧ va_Z "jdk/internal/util/Preconditions" "SIOOBE_FORMATTER" "Ljava/util/function/BiFunction;" v (fun q => G.1 ≤ q) U U.heap
/-- the texts, by their places; two places may hold one text -/
def jv_S (adK adV : Nat → Nat) (A : Nat → Prop) (U : State) (H : Heap) : Prop := ∀ i : Nat, i < 37 → va_O "java/lang/String" (adK i) A U H ∧ va_OF "java/lang/String" "coder" "B" (.int 0) (adK i) A U H ∧ va_OF "java/lang/String" "value" "[B" (.ref (adV i)) (adK i) A U H ∧ va_T .byte (adV i) (jv_lens.getD i 0) (fun j => .int ((jv_byt.getD i []).getD j 0)) A U H
theorem jv_S.moved {adK adV : Nat → Nat} {A : Nat → Prop} {u U : State} {H : Heap} (hvm : u.vm.Alike U.vm) (h : jv_S adK adV A u H) : jv_S adK adV A U H :=
  fun i hi => ⟨va_O.moved hvm (h i hi).1, va_OF.moved hvm (h i hi).2.1, va_OF.moved hvm (h i hi).2.2.1, va_T.moved hvm (h i hi).2.2.2⟩
theorem jv_S.kept {adK adV : Nat → Nat} {A : Nat → Prop} {U : State} {H H1 : Heap} (h : jv_S adK adV A U H) (hq : ∀ a : Nat, a < H.size → ¬ A a → H1[a]? = H[a]?) : jv_S adK adV A U H1 :=
  fun i hi => ⟨(h i hi).1.kept hq, (h i hi).2.1.kept hq, (h i hi).2.2.1.kept hq, (h i hi).2.2.2.kept hq⟩
theorem jv_recvS {adK adV : Nat → Nat} {A : Nat → Prop} {s : State} {H : Heap} {locs : List Loc} {i : Nat} (hE : jv_S adK adV A s s.heap) (hi : i < 37) (hS : va_S A s.heap H locs) : ∃ cell : Cell, H[adK i]? = some cell ∧ cell.vm.isStatics = false ∧ s.vm.findClass "java/lang/String" = some cell.cls := by
  obtain ⟨cell, h1, h2, h3, -⟩ := (hE i hi).1.kept hS.2.1
  exact ⟨cell, h1, h2, h3⟩
/-- what a method knows beside its cells -/
def jv_Kn (D : va_G) (dA : Nat → ClassId) (G : jv_G) (adV : Nat → Nat) (L : Nat) (xs : Nat → Int32) (U : State) : Prop :=
  va_K D jv_Cl (jv_tys dA) U ∧ va_X G.2.1 L xs U U.heap ∧ G.2.1 < G.1 ∧ G.1 ≤ U.heap.size ∧ jv_S G.2.2 adV (fun q => G.1 ≤ q) U U.heap ∧ (∀ (i : Nat) (q : String × Nat × String), jv_str[i]? = some q → vk_R q.1 q.2.1 q.2.2 (G.2.2 i) U) ∧ jv_K2 G adV U
theorem jv_Kn.txtO {D : va_G} {dA : Nat → ClassId} {G : jv_G} {adV : Nat → Nat} {L : Nat} {xs : Nat → Int32} {U : State} (h : jv_Kn D dA G adV L xs U) : jv_S G.2.2 adV (fun q => G.1 ≤ q) U U.heap := h.2.2.2.2.1
theorem jv_Kn.k3 {D : va_G} {dA : Nat → ClassId} {G : jv_G} {adV : Nat → Nat} {L : Nat} {xs : Nat → Int32} {U : State} (h : jv_Kn D dA G adV L xs U) : jv_K3 G adV U := h.2.2.2.2.2.2.2.2.2.2.1
theorem jv_Kn.compact {D : va_G} {dA : Nat → ClassId} {G : jv_G} {adV : Nat → Nat} {L : Nat} {xs : Nat → Int32} {U : State} (h : jv_Kn D dA G adV L xs U) : va_Z "java/lang/String" "COMPACT_STRINGS" "Z" (.int 1) (fun q => G.1 ≤ q) U U.heap := h.2.2.2.2.2.2.2.2.2.1
/-- an old row of bytes, by its place -/
theorem jv_Kn.oldT {D : va_G} {dA : Nat → ClassId} {G : jv_G} {adV : Nat → Nat} {L : Nat} {xs : Nat → Int32} {U : State} (h : jv_Kn D dA G adV L xs U) {a ty n : Nat} {f : Nat → Int32} (ho : jv_old a = true) (e : jv_oldc a = .inl (ty, n, f)) : ty = 4 ∧ va_T .byte (jv_ad G a) n (fun j => .int (f j)) (fun q => G.1 ≤ q) U U.heap := by
  obtain ⟨hty, hc⟩ := jv_oldc_byt ho e
  refine ⟨hty, ?_⟩
  rcases hc with ⟨i, hi, rfl, rfl, rfl⟩ | ⟨rfl, rfl, rfl⟩ | ⟨rfl, rfl, rfl⟩
  · have h1 := (h.txtO i hi).2.2.2
    rw [jv_lens_ok i hi] at h1
    rw [show 1000101 + i = 1000001 + (100 + i) by omega, jv_ad_txt, h.k3.2.1 i hi]
    exact h1
  · exact h.k3.2.2.1.2
  · exact h.k3.2.2.2.1.2
theorem jv_vl_fits (ad : Nat → Nat) (ty : FieldType) (v : Value) : fits ty (jv_vl ad v) = fits ty v := by
  cases v <;> first | rfl | (cases ty <;> rfl)
theorem jv_vl_narrow (ad : Nat → Nat) (ty : FieldType) (v : Value) (h : narrow ty v = v) : narrow ty (jv_vl ad v) = jv_vl ad v := by
  cases v <;> first | exact h | (cases ty <;> rfl)
theorem jv_vl_default (ad : Nat → Nat) (ty : FieldType) : jv_vl ad (defaultValue ty) = defaultValue ty := by
  cases ty <;> rfl
section JHP
variable {p : Program} {l : Launch} {e : Env} {R : Room} {s : State} {m : MethodId} {args : Array Value} {below : List Frame} {meth : Method} {c : Code} {H : Heap} {locs : List Loc} {cells slots : Nat} {Q : State → Prop}
variable {cc : ByteArray} {pc : Nat} {ls : Array Slot} {rest : List Value} {D : va_G} {cl : List vw_C} {A : Nat → Prop} {a : Nat} {tys : List (ClassId × FieldType)} {ws : va_W} {H0 : Heap}
/-- a field is written (a final one: in its class's constructor), and nothing is made -/
theorem jv_putW (hexec : p.tables.exec = Jvm.exec) (hb : c.code = cc) {own C : String} {T : u_T} {N ci index : Nat} {Ts : List Cond} (hts : ∀ w ∈ Ts, w.before args s = true) (hin : ∀ w ∈ u_ws C T N, w ∈ Ts) (ty0 : Nat → FieldType) (hty : ∀ k, k < N → parseFieldDescriptor (T k).2.2.1 = some (ty0 k)) (hnm : ∀ a, a < N → ∀ b, b < N → a ≠ b → (T a).2.1 ≠ (T b).2.1) (hown : s.vm.findClass own = some m.cls)
    (hK : va_K D cl tys s) (hP : va_P D cl ws H) (hD : va_D A ws) (hS0 : va_S A H0 H locs) (q0 : Nat) {fs : List Value} (he : ws[q0]? = some (a, .inr (ci, fs))) (hc : cl[ci]? = some (C, T, N)) (k : Nat) (hk : k < N) (hlink : (Cond.fieldLink own index (T k).1 (T k).2.1 (T k).2.2.1).before args s = true) (hfin : (T k).2.2.2 = false ∨ ((T k).2.2.2 = true ∧ meth.name = "<init>" ∧ (T k).1 = own))
    {v : Value} (hn : narrow (ty0 k) v = v) (hfit : fits (ty0 k) v = true) (hl : k < fs.length) (hdg : decode cc pc = .ok (.putfield index, 3))
    (kk : ∀ (H1 : Heap) (locs1 : List Loc), H1.size = H.size → va_P D cl (ws.set q0 (a, .inr (ci, fs.set k v))) H1 → va_S A H0 H1 locs1 → W p l e R s m args below meth c H1 locs1 cells slots Q (F0 m (pc + 3) ls rest)) : W p l e R s m args below meth c H locs cells slots Q (F0 m pc ls (v :: .ref a :: rest)) := by
  have hap := va_apart (own := own) hts hin ty0 hty hnm hK hc
  obtain ⟨r, h1, cell, q1, q2, q3, q4⟩ := hP q0 _ he
  have hr : r = (C, T, N) := Option.some.inj (h1.symm.trans hc)
  subst hr
  obtain ⟨hS, hfc, kC, hkC, hkind⟩ := hK.1 ci _ hc
  obtain ⟨cf, kf, fi, f, hi, hsl⟩ := hS k hk
  have hst := (u_facts hfc hkC (u_lays hts hin hk) hi).1
  have fin : ∀ H' : Heap, H'[a]? = some (cell.setSlot f.slot v) → (∀ q, q ≠ a → H'[q]? = H[q]?) → va_P D cl (ws.set q0 (a, .inr (ci, fs.set k v))) H' := by
    intro H' e1 e3
    rw [hsl] at e1
    exact hP.set hD he ⟨_, hc, t_OB.to (V := updV (vp_V fs) k v) ⟨_, e1, q2, q3, t_set q4 hap hk v⟩ (fun j _ => vp_updV_set hl v j)⟩ e3
  have hlay := hts _ (hin _ (u_in_lay hk))
  unfold u_lay at hlay
  rcases hfin with hfin | ⟨hfin, hin2, hdecl⟩
  · rw [if_neg (by rw [hfin]; decide)] at hlay
    have h6 := u_store hfc hkC hkind hlay hi (hty k hk) hn hfit
    exact W.putK hexec hb (f := f) ⟨hown, hlink, ⟨_, _, _, hi⟩, hst⟩ (by rw [q2]; exact h6) q1 q3 (by rw [hsl]; exact k2_hasslot (q4 k hk)) rfl rfl hdg fun H' e1 e2 e3 => kk H' _ e2 (fin H' e1 e3) (hS0.put e2 e3 (hD.2 q0 _ he))
  · rw [if_pos hfin] at hlay
    have hcf : m.cls = cf := by
      obtain ⟨_, _, c', _, _, _, -, -, hf', -, -, -, hown2, -⟩ := Cond.laysFinal_spec hlay
      have e1 : c' = cf := by have := hi.symm.trans hf'; simp at this; exact this.1.symm
      rw [hdecl] at hown2
      rw [← e1]; exact Option.some.inj (hown.symm.trans hown2)
    have h6 := u_fits hfc hkC hkind (Or.inr hlay) hi (hty k hk) hn hfit
    exact W.putFinK hexec hb hown hlink hi hst hcf hin2 (by rw [q2]; exact h6) q1 q3 (by rw [hsl]; exact k2_hasslot (q4 k hk)) rfl rfl hdg fun H' e1 e2 e3 => kk H' _ e2 (fin H' e1 e3) (hS0.put e2 e3 (hD.2 q0 _ he))
theorem jv_iastW (hexec : p.tables.exec = Jvm.exec) (hb : c.code = cc) (hK : va_K D cl tys s) (hP : va_P D cl ws H) (hD : va_D A ws) (hS : va_S A H0 H locs) (q0 t0 : Nat) {cA : ClassId} {n : Nat} {f : Nat → Int32} (ha : ws[q0]? = some (a, .inl (cA, n, .inl f))) (ht : tys[t0]? = some (cA, .int)) {i : Int32} {x : Int32} (hin : vp_in i n) (hdg : decode cc pc = .ok (.iastore, 1))
    (kk : ∀ (H1 : Heap) (locs1 : List Loc), H1.size = H.size → va_P D cl (ws.set q0 (a, .inl (cA, n, .inl (upd f i.toNatClampNeg x)))) H1 → va_S A H0 H1 locs1 → W p l e R s m args below meth c H1 locs1 cells slots Q (F0 m (pc + 1) ls rest)) : W p l e R s m args below meth c H locs cells slots Q (F0 m pc ls (.int x :: .int i :: .ref a :: rest)) := by
  refine W.iast hexec hb (hP q0 _ ha) ((hK.2 t0 _ ht).1 n (fun j => .int (f j))) (fun q => by cases q) (by show ¬ (i < 0 ∨ (arrV _ _ _).slots.size ≤ _); rw [arrV_size]; exact hin) rfl rfl hdg fun H1 e z oq => ?_
  refine kk H1 _ z (hP.set hD ha ?_ oq) (hS.put z oq (hD.2 q0 _ ha))
  show H1[a]? = some (vp_cell _ _)
  rw [e, vp_cell_i, vp_cell_i, arrV_store]
  congr 2
  funext q
  by_cases hq : q = i.toNatClampNeg
  · subst hq
    simp [updV, upd]
  · simp [updV, upd, hq]
theorem jv_zastW (hexec : p.tables.exec = Jvm.exec) (hb : c.code = cc) (hK : va_K D cl tys s) (hP : va_P D cl ws H) (hD : va_D A ws) (hS : va_S A H0 H locs) (q0 t0 : Nat) {cA : ClassId} {n : Nat} {f : Nat → Int32} (ha : ws[q0]? = some (a, .inl (cA, n, .inl f))) (ht : tys[t0]? = some (cA, .boolean)) {i : Int32} {x : Int32} (hx1 : x &&& 1 = x) (hin : vp_in i n) (hdg : decode cc pc = .ok (.bastore, 1))
    (kk : ∀ (H1 : Heap) (locs1 : List Loc), H1.size = H.size → va_P D cl (ws.set q0 (a, .inl (cA, n, .inl (upd f i.toNatClampNeg x)))) H1 → va_S A H0 H1 locs1 → W p l e R s m args below meth c H1 locs1 cells slots Q (F0 m (pc + 1) ls rest)) : W p l e R s m args below meth c H locs cells slots Q (F0 m pc ls (.int x :: .int i :: .ref a :: rest)) := by
  refine W.zast hexec hb (hP q0 _ ha) ((hK.2 t0 _ ht).1 n (fun j => .int (f j))) (fun q => by cases q) (by show ¬ (i < 0 ∨ (arrV _ _ _).slots.size ≤ _); rw [arrV_size]; exact hin) rfl rfl hdg fun H1 e z oq => ?_
  refine kk H1 _ z (hP.set hD ha ?_ oq) (hS.put z oq (hD.2 q0 _ ha))
  show H1[a]? = some (vp_cell _ _)
  rw [e, vp_cell_i, vp_cell_i, arrV_store]
  congr 2
  funext q
  by_cases hq : q = i.toNatClampNeg
  · subst hq
    simp [updV, upd, narrow, hx1]
  · simp [updV, upd, hq]
theorem jv_aastW (hexec : p.tables.exec = Jvm.exec) (hb : c.code = cc) (hK : va_K D cl tys s) (hP : va_P D cl ws H) (hD : va_D A ws) (hS : va_S A H0 H locs) (q0 t0 qk ci : Nat) {cA : ClassId} {r : vw_C} {n v : Nat} {vs : List Value} {f : Nat → Option Nat} (ha : ws[q0]? = some (a, .inl (cA, n, .inr (.inr (.inr (.inr f)))))) (ht : tys[t0]? = some (cA, .object r.1)) (hv : ws[qk]? = some (v, .inr (ci, vs))) (hc : cl[ci]? = some r) {i : Int32} (hin : vp_in i n) (hdg : decode cc pc = .ok (.aastore, 1))
    (kk : ∀ (H1 : Heap) (locs1 : List Loc), H1.size = H.size → va_P D cl (ws.set q0 (a, .inl (cA, n, .inr (.inr (.inr (.inr (va_up f i.toNatClampNeg (some v)))))))) H1 → va_S A H0 H1 locs1 → W p l e R s m args below meth c H1 locs1 cells slots Q (F0 m (pc + 1) ls rest)) : W p l e R s m args below meth c H locs cells slots Q (F0 m pc ls (.ref v :: .int i :: .ref a :: rest)) := by
  have hlt : i.toNatClampNeg < n := Nat.not_le.mp fun q => hin (Or.inr q)
  have h0 : ¬ i < 0 := fun q => hin (Or.inl q)
  obtain ⟨r', hr', cellV, g1, g2, g3, -⟩ := hP qk _ hv
  have hcls := (hK.1 ci r hc).2
  obtain ⟨kA, comp, k1, k2, k3, -⟩ := (hK.2 t0 _ ht).2
  have hcomp : comp = D.1 ci := Option.some.inj (k3.symm.trans hcls.1)
  subst hcomp
  obtain ⟨kC, hkC, -⟩ := hcls.2
  refine W.aast hexec hb (hP q0 _ ha) (fun q h => by cases h) (fun h => by cases h) k1 k2 rfl hkC ⟨h0, by show _ < (arrV _ _ _).slots.size; rw [arrV_size]; exact hlt⟩ g1 (fun q h => by rw [g3] at h; cases h) (by rw [g2]; exact hkC) (by rw [g2]; exact va_assign hcls) rfl rfl hdg fun H1 e z oq => ?_
  refine kk H1 _ z (hP.set hD ha ?_ oq) (hS.put z oq (hD.2 q0 _ ha))
  show H1[a]? = some (vp_cell _ _)
  rw [e, vp_cell_q, vp_cell_q, arrV_store]
  congr 2
  funext q
  by_cases hq : q = i.toNatClampNeg
  · subst hq
    simp [updV, va_up, va_rf]
  · simp [updV, va_up, hq]
theorem jv_bastW (hexec : p.tables.exec = Jvm.exec) (hb : c.code = cc) (hK : va_K D cl tys s) (hP : va_P D cl ws H) (hD : va_D A ws) (hS : va_S A H0 H locs) (q0 t0 : Nat) {cA : ClassId} {n : Nat} {f : Nat → Int32} (ha : ws[q0]? = some (a, .inl (cA, n, .inl f))) (ht : tys[t0]? = some (cA, .byte)) {i : Int32} {x : Int32} (hx1 : x.toInt8.toInt32 = x) (hin : vp_in i n) (hdg : decode cc pc = .ok (.bastore, 1))
    (kk : ∀ (H1 : Heap) (locs1 : List Loc), H1.size = H.size → va_P D cl (ws.set q0 (a, .inl (cA, n, .inl (upd f i.toNatClampNeg x)))) H1 → va_S A H0 H1 locs1 → W p l e R s m args below meth c H1 locs1 cells slots Q (F0 m (pc + 1) ls rest)) : W p l e R s m args below meth c H locs cells slots Q (F0 m pc ls (.int x :: .int i :: .ref a :: rest)) := by
  refine W.bast hexec hb (hP q0 _ ha) ((hK.2 t0 _ ht).1 n (fun j => .int (f j))) (fun q => by cases q) (by show ¬ (i < 0 ∨ (arrV _ _ _).slots.size ≤ _); rw [arrV_size]; exact hin) rfl rfl hdg fun H1 e z oq => ?_
  refine kk H1 _ z (hP.set hD ha ?_ oq) (hS.put z oq (hD.2 q0 _ ha))
  show H1[a]? = some (vp_cell _ _)
  rw [e, vp_cell_i, vp_cell_i, arrV_store]
  congr 2
  funext q
  by_cases hq : q = i.toNatClampNeg
  · subst hq
    simp [updV, upd, narrow, hx1]
  · simp [updV, upd, hq]
theorem jv_aastS (hexec : p.tables.exec = Jvm.exec) (hb : c.code = cc) (hK : va_K D cl tys s) (hP : va_P D cl ws H) (hD : va_D A ws) (hS : va_S A H0 H locs) (q0 t0 ci : Nat) {cA : ClassId} {r : vw_C} {n v : Nat} {f : Nat → Option Nat} (ha : ws[q0]? = some (a, .inl (cA, n, .inr (.inr (.inr (.inr f)))))) (ht : tys[t0]? = some (cA, .object r.1)) (hv : ∃ cell : Cell, H[v]? = some cell ∧ cell.vm.isStatics = false ∧ s.vm.findClass r.1 = some cell.cls) (hc : cl[ci]? = some r) {i : Int32} (hin : vp_in i n) (hdg : decode cc pc = .ok (.aastore, 1))
    (kk : ∀ (H1 : Heap) (locs1 : List Loc), H1.size = H.size → va_P D cl (ws.set q0 (a, .inl (cA, n, .inr (.inr (.inr (.inr (va_up f i.toNatClampNeg (some v)))))))) H1 → va_S A H0 H1 locs1 → W p l e R s m args below meth c H1 locs1 cells slots Q (F0 m (pc + 1) ls rest)) : W p l e R s m args below meth c H locs cells slots Q (F0 m pc ls (.ref v :: .int i :: .ref a :: rest)) := by
  have hlt : i.toNatClampNeg < n := Nat.not_le.mp fun q => hin (Or.inr q)
  have h0 : ¬ i < 0 := fun q => hin (Or.inl q)
  obtain ⟨cellV, g1, g3, g9⟩ := hv
  have hcls := (hK.1 ci r hc).2
  have g2 : cellV.cls = D.1 ci := Option.some.inj (g9.symm.trans hcls.1)
  obtain ⟨kA, comp, k1, k2, k3, -⟩ := (hK.2 t0 _ ht).2
  have hcomp : comp = D.1 ci := Option.some.inj (k3.symm.trans hcls.1)
  subst hcomp
  obtain ⟨kC, hkC, -⟩ := hcls.2
  refine W.aast hexec hb (hP q0 _ ha) (fun q h => by cases h) (fun h => by cases h) k1 k2 rfl hkC ⟨h0, by show _ < (arrV _ _ _).slots.size; rw [arrV_size]; exact hlt⟩ g1 (fun q h => by rw [h] at g3; cases g3) (by rw [g2]; exact hkC) (by rw [g2]; exact va_assign hcls) rfl rfl hdg fun H1 e z oq => ?_
  refine kk H1 _ z (hP.set hD ha ?_ oq) (hS.put z oq (hD.2 q0 _ ha))
  show H1[a]? = some (vp_cell _ _)
  rw [e, vp_cell_q, vp_cell_q, arrV_store]
  congr 2
  funext q
  by_cases hq : q = i.toNatClampNeg
  · subst hq
    simp [updV, va_up, va_rf]
  · simp [updV, va_up, hq]
end JHP
theorem jv_get_eq {ow idx : Nat} {st st' : List Value} {h : jv_H} (h0 : jv_get ow idx st h = some st') : ∃ (a : Nat) (r : List Value) (cx k : Nat) (fs : List Value) (v : Value), st = .ref a :: r ∧ jv_fld ow idx = some (cx, k) ∧ (a < h.2.1 ∨ jv_old a = true) ∧ h.1 a = .inr (.inr (cx, fs)) ∧ fs[k]? = some v ∧ st' = v :: r := by
  unfold jv_get at h0
  split at h0
  · rename_i a r
    split at h0
    · rename_i cx k hf
      split at h0
      · rename_i ha
        split at h0
        · rename_i d fs hc
          split at h0
          · rename_i hd
            subst hd
            split at h0
            · rename_i v hv
              cases h0
              exact ⟨a, r, _, k, fs, v, rfl, hf, ha, hc, hv, rfl⟩
            · cases h0
          · cases h0
        · cases h0
      · cases h0
    · cases h0
  · cases h0
theorem jv_set_eq {ow idx : Nat} {ini : Bool} {st st' : List Value} {h h' : jv_H} (h0 : jv_set ow ini idx st h = some (st', h')) : ∃ (v : Value) (a : Nat) (cx k : Nat) (fs : List Value), st = v :: .ref a :: st' ∧ jv_fld ow idx = some (cx, k) ∧ a < h.2.1 ∧ h.1 a = .inr (.inr (cx, fs)) ∧ k < fs.length ∧ narrow (jv_fty cx k) v = v ∧ fits (jv_fty cx k) v = true ∧ ((jv_fT cx k).2.2.2 = false ∨ (ini = true ∧ cx = ow)) ∧ h' = jv_put h a (.inr (.inr (cx, fs.set k v))) := by
  unfold jv_set at h0
  split at h0
  · rename_i v a r
    split at h0
    · rename_i cx k hf
      split at h0
      · rename_i ha
        obtain ⟨ha, hn, hfi, hfin⟩ := ha
        split at h0
        · rename_i d fs hc
          split at h0
          · rename_i hd
            obtain ⟨hd, hk⟩ := hd
            subst hd
            cases h0
            exact ⟨v, a, _, k, fs, rfl, hf, ha, hc, hk, hn, hfi, hfin, rfl⟩
          · cases h0
        · cases h0
      · cases h0
    · cases h0
  · cases h0
section JHQ
variable {p : Program} {l : Launch} {e : Env} {R : Room} {s : State} {m : MethodId} {args : Array Value} {below : List Frame} {meth : Method} {c : Code} {H : Heap} {locs : List Loc} {cells slots : Nat} {Q : State → Prop}
variable {cc : ByteArray} {pc : Nat} {ls : Array Slot} {D : va_G} {dA : Nat → ClassId} {G : jv_G} {adV : Nat → Nat} {L : Nat} {xs : Nat → Int32}
theorem jv_Rep.at {h : jv_H} (hR : jv_Rep D dA G L xs h H) {a : Nat} (ha : a < h.2.1) {x : jv_E} (he : h.1 a = x) : (jv_ws dA G h)[a]? = some (jv_ad G a, jv_ce dA (jv_ad G) x) := by
  have h1 := hR.2.1
  rw [jv_ad_lt (by omega), ← he]
  exact jv_ws_get ha
theorem jv_Rep.put {h : jv_H} {H1 : Heap} (hR : jv_Rep D dA G L xs h H) {a : Nat} (ha : a < h.2.1) {x : jv_E} (hz : H1.size = H.size) (hP : va_P D jv_Cl ((jv_ws dA G h).set a (jv_ad G a, jv_ce dA (jv_ad G) x)) H1) : jv_Rep D dA G L xs (jv_put h a x) H1 := by
  have h1 := hR.2.1
  refine ⟨hz.trans hR.1, hR.2.1, ?_, hR.2.2.2.up (k := a) (x := x) (by omega) rfl⟩
  rw [jv_ad_lt (by omega), jv_ws_set x ha] at hP
  exact hP
theorem jv_Rep.add {h : jv_H} {H1 : Heap} (hR : jv_Rep D dA G L xs h H) {x : jv_E} {n : Nat} (hm : h.2.1 + 1 ≤ 1000000) (hz : H1.size = H.size + 1) (o1 : ∀ q : Nat, q < H.size → H1[q]? = H[q]?) (hat : va_at D jv_Cl (G.1 + h.2.1, jv_ce dA (jv_ad G) x) H1) : jv_Rep D dA G L xs (jv_add h x n) H1 := by
  refine ⟨?_, hm, ?_, hR.2.2.2.up (k := h.2.1) (x := x) (by omega) rfl⟩
  · rw [hz, hR.1]
    show G.1 + h.2.1 + 1 = G.1 + (h.2.1 + 1)
    omega
  · rw [jv_ws_add]
    refine (hR.2.2.1.kept (fun k q hk => o1 q.1 ((hR.2.2.1 k q hk).lt))).app (fun k q hk => ?_)
    have hz : k < 1 := (List.getElem?_eq_some_iff.mp hk).1
    rw [show k = 0 by omega] at hk
    cases hk
    exact hat
theorem jv_grow {A : Nat → Prop} {H0 H1 : Heap} (hS : va_S A H0 H locs) (hz : H1.size = H.size + 1) (o1 : ∀ q : Nat, q < H.size → H1[q]? = H[q]?) : va_S A H0 H1 locs :=
  ⟨Nat.le_trans hS.1 (by omega), fun x h1 h2 => (o1 x (Nat.lt_of_lt_of_le h1 hS.1)).trans (hS.2.1 x h1 h2), hS.2.2⟩
/-- what every case of jv_heap_ok has -/
def jv_Cx (p : Program) (s : State) (m : MethodId) (args : Array Value) (meth : Method) (c : Code) (cc : ByteArray) (ow : Nat) (ini : Bool) (D : va_G) (dA : Nat → ClassId) (G : jv_G) (adV : Nat → Nat) (L : Nat) (xs : Nat → Int32) (h : jv_H) (H : Heap) (locs : List Loc) : Prop :=
  p.tables.exec = Jvm.exec ∧ c.code = cc ∧ s.vm.findClass (jv_own ow) = some m.cls ∧ (∀ w ∈ jv_T, w.before args s = true) ∧ jv_Kn D dA G adV L xs s ∧ jv_Rep D dA G L xs h H ∧ va_S (fun q => G.1 ≤ q) s.heap H locs ∧ (ini = true → meth.name = "<init>")
set_option maxHeartbeats 8000000 in
set_option maxRecDepth 100000 in
theorem jv_h_getfield {ow : Nat} {ini : Bool} {h h' : jv_H} (X : jv_Cx p s m args meth c cc ow ini D dA G adV L xs h H locs) {idx : Nat} {len : Nat} {st st' : List Value} (hdg : decode cc pc = .ok (.getfield idx, len)) (hl : jv_sw (.getfield idx) = true ∨ len = jv_len (.getfield idx)) (h0 : jv_heap ow ini (.getfield idx) st h = some (st', h')) (hm : h'.2.1 ≤ 1000000) (hc : cells + (h'.2.1 - h.2.1) ≤ R.cells) (hs : slots + (h'.2.2 - h.2.2) ≤ R.slots)
    (k : ∀ (H' : Heap) (locs' : List Loc) (cells' slots' : Nat), cells' = cells + (h'.2.1 - h.2.1) → slots' = slots + (h'.2.2 - h.2.2) → jv_Rep D dA G L xs h' H' → va_S (fun q => G.1 ≤ q) s.heap H' locs' → W p l e R s m args below meth c H' locs' cells' slots' Q (F0 m (pc + len) ls (st'.map (jv_vl (jv_ad G))))) :
    W p l e R s m args below meth c H locs cells slots Q (F0 m pc ls (st.map (jv_vl (jv_ad G)))) := by
  obtain ⟨hx, hb, hown, hts, hK, hR, hS, hini⟩ := X
  unfold jv_heap at h0
  dsimp only at h0
  have e := jv_len1 hl rfl; subst e
  split at h0
  · rename_i st1 hg
    cases h0
    obtain ⟨a, r, cx, kf, fs, v, rfl, hf, ha, he, hv, rfl⟩ := jv_get_eq hg
    have hck := jv_ckf_ok hf
    simp only [jv_ckf1, Bool.and_eq_true, decide_eq_true_eq] at hck
    obtain ⟨⟨hcx, hkf⟩, hw⟩ := hck
    rcases ha with ha | ha
    · exact va_get (D := D) (ci := cx) (v := jv_vl (jv_ad G) v) hx hb hts (jv_ws_in cx hcx) hown hK.1 hR.2.2.1 a (hR.at ha he) (jv_cls_ok cx hcx) kf hkf (hts _ (jv_in_ok hw)) (fun _ q => q) (by rw [List.getElem?_map, hv]; rfl) hdg (k H locs cells slots (by omega) (by omega) hR hS)
    · obtain ⟨i, hi, rfl, rfl, rfl⟩ := jv_oldc_txt ha ((hR.2.2.2.2 a ha).symm.trans he)
      have kk := k H locs cells slots (by omega) (by omega) hR hS
      have hE := hK.txtO i hi
      show W p l e R s m args below meth c H locs cells slots Q (F0 m pc ls (.ref (jv_ad G (1000001 + i)) :: r.map (jv_vl (jv_ad G))))
      rw [jv_ad_txt]
      match kf, hv with
      | 0, hv =>
        cases hv
        have kk2 : W p l e R s m args below meth c H locs cells slots Q (F0 m (pc + 3) ls (.ref (jv_ad G (1000101 + i)) :: r.map (jv_vl (jv_ad G)))) := kk
        rw [show 1000101 + i = 1000001 + (100 + i) by omega, jv_ad_txt, hK.k3.2.1 i hi] at kk2
        exact vk_getf hx hb hE.2.2.1 hS hown (hts _ (jv_in_ok hw)) (fun _ q => q) hdg kk2
      | 1, hv =>
        cases hv
        exact vk_getf hx hb hE.2.1 hS hown (hts _ (jv_in_ok hw)) (fun _ q => q) hdg kk
      | q + 2, hv => cases hv
  · cases h0
set_option maxHeartbeats 8000000 in
set_option maxRecDepth 100000 in
theorem jv_h_putfield {ow : Nat} {ini : Bool} {h h' : jv_H} (X : jv_Cx p s m args meth c cc ow ini D dA G adV L xs h H locs) {idx : Nat} {len : Nat} {st st' : List Value} (hdg : decode cc pc = .ok (.putfield idx, len)) (hl : jv_sw (.putfield idx) = true ∨ len = jv_len (.putfield idx)) (h0 : jv_heap ow ini (.putfield idx) st h = some (st', h')) (hm : h'.2.1 ≤ 1000000) (hc : cells + (h'.2.1 - h.2.1) ≤ R.cells) (hs : slots + (h'.2.2 - h.2.2) ≤ R.slots)
    (k : ∀ (H' : Heap) (locs' : List Loc) (cells' slots' : Nat), cells' = cells + (h'.2.1 - h.2.1) → slots' = slots + (h'.2.2 - h.2.2) → jv_Rep D dA G L xs h' H' → va_S (fun q => G.1 ≤ q) s.heap H' locs' → W p l e R s m args below meth c H' locs' cells' slots' Q (F0 m (pc + len) ls (st'.map (jv_vl (jv_ad G))))) :
    W p l e R s m args below meth c H locs cells slots Q (F0 m pc ls (st.map (jv_vl (jv_ad G)))) := by
  obtain ⟨hx, hb, hown, hts, hK, hR, hS, hini⟩ := X
  unfold jv_heap at h0
  dsimp only at h0
  have e := jv_len1 hl rfl; subst e
  obtain ⟨v, a, cx, kf, fs, rfl, hf, ha, he, hkl, hn, hfi, hfin, rfl⟩ := jv_set_eq h0
  have hck := jv_ckf_ok hf
  simp only [jv_ckf1, Bool.and_eq_true, decide_eq_true_eq] at hck
  obtain ⟨⟨hcx, hkf⟩, hw⟩ := hck
  refine jv_putW (D := D) (ci := cx) (v := jv_vl (jv_ad G) v) hx hb hts (jv_ws_in cx hcx) (jv_fty cx) (jv_ty_ok cx hcx) (jv_nm_ok cx hcx) hown hK.1 hR.2.2.1 jv_ws_D hS a (hR.at ha he) (jv_cls_ok cx hcx) kf hkf (hts _ (jv_in_ok hw)) ?_ (jv_vl_narrow _ _ _ hn) (by rw [jv_vl_fits]; exact hfi) (by rw [List.length_map]; exact hkl) hdg (fun H1 locs1 z hP1 hS1 => ?_)
  · rcases hfin with q | ⟨q1, q2⟩
    · exact Or.inl q
    · by_cases hf2 : (jv_fT cx kf).2.2.2 = true
      · exact Or.inr ⟨hf2, hini q1, by rw [← q2]; exact jv_dcl_ok cx hcx kf hkf hf2⟩
      · exact Or.inl (by simpa using hf2)
  · refine k H1 locs1 cells slots (by show cells = cells + (h.2.1 - h.2.1); omega) (by show slots = slots + (h.2.2 - h.2.2); omega) (hR.put ha z ?_) hS1
    rw [← List.map_set] at hP1
    exact hP1
set_option maxHeartbeats 8000000 in
set_option maxRecDepth 100000 in
theorem jv_h_iaload {ow : Nat} {ini : Bool} {h h' : jv_H} (X : jv_Cx p s m args meth c cc ow ini D dA G adV L xs h H locs)  {len : Nat} {st st' : List Value} (hdg : decode cc pc = .ok (.iaload, len)) (hl : jv_sw (.iaload) = true ∨ len = jv_len (.iaload)) (h0 : jv_heap ow ini (.iaload) st h = some (st', h')) (hm : h'.2.1 ≤ 1000000) (hc : cells + (h'.2.1 - h.2.1) ≤ R.cells) (hs : slots + (h'.2.2 - h.2.2) ≤ R.slots)
    (k : ∀ (H' : Heap) (locs' : List Loc) (cells' slots' : Nat), cells' = cells + (h'.2.1 - h.2.1) → slots' = slots + (h'.2.2 - h.2.2) → jv_Rep D dA G L xs h' H' → va_S (fun q => G.1 ≤ q) s.heap H' locs' → W p l e R s m args below meth c H' locs' cells' slots' Q (F0 m (pc + len) ls (st'.map (jv_vl (jv_ad G))))) :
    W p l e R s m args below meth c H locs cells slots Q (F0 m pc ls (st.map (jv_vl (jv_ad G)))) := by
  obtain ⟨hx, hb, hown, hts, hK, hR, hS, hini⟩ := X
  unfold jv_heap at h0
  dsimp only at h0
  have e := jv_len1 hl rfl; subst e
  split at h0
  · rename_i j a r
    split at h0
    · split at h0
      · rename_i ty n f he
        split at h0
        · rename_i hq
          cases h0
          obtain ⟨h1 | h1, hin⟩ := hq
          · obtain ⟨rfl, ha⟩ := h1
            exact va_iald (D := D) hx hb hK.1 hR.2.2.1 a 0 (hR.at ha he) rfl hin hdg (k H locs cells slots (by omega) (by omega) hR hS)
          · obtain ⟨rfl, rfl⟩ := h1
            rw [show h.1 1000000 = .inl (9, L, xs) from hR.2.2.2.1] at he
            cases he
            show W p l e R s m args below meth c H locs cells slots Q (F0 m pc ls (.int j :: .ref (jv_ad G 1000000) :: r.map (jv_vl (jv_ad G))))
            rw [jv_ad_scr]
            exact va_sld hx hb hK.2.1 (Nat.lt_of_lt_of_le hK.2.2.1 hK.2.2.2.1) (Nat.not_le.mpr hK.2.2.1) hS hin hdg (k H locs cells slots (by omega) (by omega) hR hS)
        · cases h0
      · cases h0
    · cases h0
  · cases h0
set_option maxHeartbeats 8000000 in
set_option maxRecDepth 100000 in
theorem jv_h_baload {ow : Nat} {ini : Bool} {h h' : jv_H} (X : jv_Cx p s m args meth c cc ow ini D dA G adV L xs h H locs)  {len : Nat} {st st' : List Value} (hdg : decode cc pc = .ok (.baload, len)) (hl : jv_sw (.baload) = true ∨ len = jv_len (.baload)) (h0 : jv_heap ow ini (.baload) st h = some (st', h')) (hm : h'.2.1 ≤ 1000000) (hc : cells + (h'.2.1 - h.2.1) ≤ R.cells) (hs : slots + (h'.2.2 - h.2.2) ≤ R.slots)
    (k : ∀ (H' : Heap) (locs' : List Loc) (cells' slots' : Nat), cells' = cells + (h'.2.1 - h.2.1) → slots' = slots + (h'.2.2 - h.2.2) → jv_Rep D dA G L xs h' H' → va_S (fun q => G.1 ≤ q) s.heap H' locs' → W p l e R s m args below meth c H' locs' cells' slots' Q (F0 m (pc + len) ls (st'.map (jv_vl (jv_ad G))))) :
    W p l e R s m args below meth c H locs cells slots Q (F0 m pc ls (st.map (jv_vl (jv_ad G)))) := by
  obtain ⟨hx, hb, hown, hts, hK, hR, hS, hini⟩ := X
  unfold jv_heap at h0
  dsimp only at h0
  have e := jv_len1 hl rfl; subst e
  split at h0
  · rename_i j a r
    split at h0
    · rename_i ha
      split at h0
      · rename_i ty n f he
        split at h0
        · rename_i hq
          cases h0
          obtain ⟨hty, hin⟩ := hq
          have kk := k H locs cells slots (by omega) (by omega) hR hS
          rcases hty with ⟨rfl, ha1⟩ | rfl
          · exact va_zald (D := D) hx hb hK.1 hR.2.2.1 a 1 (hR.at ha1 he) rfl hin hdg kk
          · rcases ha with ha | ha
            · exact va_bald (D := D) hx hb hK.1 hR.2.2.1 a 4 (hR.at ha he) rfl hin hdg kk
            · exact va_tb hx hb (hK.oldT ha ((hR.2.2.2.2 a ha).symm.trans he)).2 hS hin rfl hdg kk
        · cases h0
      · cases h0
    · cases h0
  · cases h0
set_option maxHeartbeats 8000000 in
set_option maxRecDepth 100000 in
theorem jv_h_aaload {ow : Nat} {ini : Bool} {h h' : jv_H} (X : jv_Cx p s m args meth c cc ow ini D dA G adV L xs h H locs)  {len : Nat} {st st' : List Value} (hdg : decode cc pc = .ok (.aaload, len)) (hl : jv_sw (.aaload) = true ∨ len = jv_len (.aaload)) (h0 : jv_heap ow ini (.aaload) st h = some (st', h')) (hm : h'.2.1 ≤ 1000000) (hc : cells + (h'.2.1 - h.2.1) ≤ R.cells) (hs : slots + (h'.2.2 - h.2.2) ≤ R.slots)
    (k : ∀ (H' : Heap) (locs' : List Loc) (cells' slots' : Nat), cells' = cells + (h'.2.1 - h.2.1) → slots' = slots + (h'.2.2 - h.2.2) → jv_Rep D dA G L xs h' H' → va_S (fun q => G.1 ≤ q) s.heap H' locs' → W p l e R s m args below meth c H' locs' cells' slots' Q (F0 m (pc + len) ls (st'.map (jv_vl (jv_ad G))))) :
    W p l e R s m args below meth c H locs cells slots Q (F0 m pc ls (st.map (jv_vl (jv_ad G)))) := by
  obtain ⟨hx, hb, hown, hts, hK, hR, hS, hini⟩ := X
  unfold jv_heap at h0
  dsimp only at h0
  have e := jv_len1 hl rfl; subst e
  split at h0
  · rename_i j a r
    split at h0
    · rename_i ha
      split at h0
      · rename_i ty n f he
        split at h0
        · rename_i hq
          obtain ⟨hty, hin⟩ := hq
          split at h0
          · rename_i b hfb
            cases h0
            have kk := k H locs cells slots (by omega) (by omega) hR hS
            have kk2 : W p l e R s m args below meth c H locs cells slots Q (F0 m (pc + 1) ls (va_rf ((f j.toNatClampNeg).map (jv_ad G)) :: r.map (jv_vl (jv_ad G)))) := by rw [hfb]; exact kk
            match ty, hty with
            | 2, _ => exact va_aldq (D := D) hx hb hK.1 hR.2.2.1 a 2 (hR.at ha he) rfl hin hdg kk2
            | 3, _ => exact va_aldq (D := D) hx hb hK.1 hR.2.2.1 a 3 (hR.at ha he) rfl hin hdg kk2
            | 5, _ => exact va_aldq (D := D) hx hb hK.1 hR.2.2.1 a 5 (hR.at ha he) rfl hin hdg kk2
            | 6, _ =>
              have hlt : j.toNatClampNeg < n := Nat.not_le.mp fun q => hin (Or.inr q)
              exact W.aald (v := va_rf ((f j.toNatClampNeg).map (jv_ad G))) (ty := .array .int) hx hb (hR.2.2.1 a _ (hR.at ha he)) ((hK.1.2 6 _ rfl).1 n (fun j => va_rf ((f j).map (jv_ad G)))) rfl (fun q => by cases q) (by show ¬ (j < 0 ∨ (arrV _ _ _).slots.size ≤ _); rw [arrV_size]; exact hin) (by show (arrV _ _ _).slots[_]? = _; rw [arrV_read _ _ hlt]) rfl rfl hdg kk2
            | 0, hq => omega
            | 1, hq => omega
            | 4, hq => exact absurd rfl hq.2.2
            | q + 7, hq => omega
          · cases h0
        · cases h0
      · cases h0
    · cases h0
  · cases h0
set_option maxHeartbeats 8000000 in
set_option maxRecDepth 100000 in
theorem jv_h_iastore {ow : Nat} {ini : Bool} {h h' : jv_H} (X : jv_Cx p s m args meth c cc ow ini D dA G adV L xs h H locs)  {len : Nat} {st st' : List Value} (hdg : decode cc pc = .ok (.iastore, len)) (hl : jv_sw (.iastore) = true ∨ len = jv_len (.iastore)) (h0 : jv_heap ow ini (.iastore) st h = some (st', h')) (hm : h'.2.1 ≤ 1000000) (hc : cells + (h'.2.1 - h.2.1) ≤ R.cells) (hs : slots + (h'.2.2 - h.2.2) ≤ R.slots)
    (k : ∀ (H' : Heap) (locs' : List Loc) (cells' slots' : Nat), cells' = cells + (h'.2.1 - h.2.1) → slots' = slots + (h'.2.2 - h.2.2) → jv_Rep D dA G L xs h' H' → va_S (fun q => G.1 ≤ q) s.heap H' locs' → W p l e R s m args below meth c H' locs' cells' slots' Q (F0 m (pc + len) ls (st'.map (jv_vl (jv_ad G))))) :
    W p l e R s m args below meth c H locs cells slots Q (F0 m pc ls (st.map (jv_vl (jv_ad G)))) := by
  obtain ⟨hx, hb, hown, hts, hK, hR, hS, hini⟩ := X
  unfold jv_heap at h0
  dsimp only at h0
  have e := jv_len1 hl rfl; subst e
  split at h0
  · rename_i x j a r
    split at h0
    · rename_i ha
      split at h0
      · rename_i ty n f he
        split at h0
        · rename_i hq
          obtain ⟨rfl, hin⟩ := hq
          cases h0
          exact jv_iastW (D := D) hx hb hK.1 hR.2.2.1 jv_ws_D hS a 0 (hR.at ha he) rfl hin hdg (fun H1 locs1 z hP1 hS1 => k H1 locs1 cells slots (by show cells = cells + (h.2.1 - h.2.1); omega) (by show slots = slots + (h.2.2 - h.2.2); omega) (hR.put ha z hP1) hS1)
        · cases h0
      · cases h0
    · cases h0
  · cases h0
set_option maxHeartbeats 8000000 in
set_option maxRecDepth 100000 in
theorem jv_h_bastore {ow : Nat} {ini : Bool} {h h' : jv_H} (X : jv_Cx p s m args meth c cc ow ini D dA G adV L xs h H locs)  {len : Nat} {st st' : List Value} (hdg : decode cc pc = .ok (.bastore, len)) (hl : jv_sw (.bastore) = true ∨ len = jv_len (.bastore)) (h0 : jv_heap ow ini (.bastore) st h = some (st', h')) (hm : h'.2.1 ≤ 1000000) (hc : cells + (h'.2.1 - h.2.1) ≤ R.cells) (hs : slots + (h'.2.2 - h.2.2) ≤ R.slots)
    (k : ∀ (H' : Heap) (locs' : List Loc) (cells' slots' : Nat), cells' = cells + (h'.2.1 - h.2.1) → slots' = slots + (h'.2.2 - h.2.2) → jv_Rep D dA G L xs h' H' → va_S (fun q => G.1 ≤ q) s.heap H' locs' → W p l e R s m args below meth c H' locs' cells' slots' Q (F0 m (pc + len) ls (st'.map (jv_vl (jv_ad G))))) :
    W p l e R s m args below meth c H locs cells slots Q (F0 m pc ls (st.map (jv_vl (jv_ad G)))) := by
  obtain ⟨hx, hb, hown, hts, hK, hR, hS, hini⟩ := X
  unfold jv_heap at h0
  dsimp only at h0
  have e := jv_len1 hl rfl; subst e
  split at h0
  · rename_i x j a r
    split at h0
    · rename_i ha
      split at h0
      · rename_i ty n f he
        split at h0
        · rename_i hq
          obtain ⟨hty, hin⟩ := hq
          cases h0
          rcases hty with ⟨rfl, hx1⟩ | ⟨rfl, hx1⟩
          · exact jv_zastW (D := D) hx hb hK.1 hR.2.2.1 jv_ws_D hS a 1 (hR.at ha he) rfl hx1 hin hdg (fun H1 locs1 z hP1 hS1 => k H1 locs1 cells slots (by show cells = cells + (h.2.1 - h.2.1); omega) (by show slots = slots + (h.2.2 - h.2.2); omega) (hR.put ha z hP1) hS1)
          · exact jv_bastW (D := D) hx hb hK.1 hR.2.2.1 jv_ws_D hS a 4 (hR.at ha he) rfl hx1 hin hdg (fun H1 locs1 z hP1 hS1 => k H1 locs1 cells slots (by show cells = cells + (h.2.1 - h.2.1); omega) (by show slots = slots + (h.2.2 - h.2.2); omega) (hR.put ha z hP1) hS1)
        · cases h0
      · cases h0
    · cases h0
  · cases h0
set_option maxHeartbeats 8000000 in
set_option maxRecDepth 100000 in
theorem jv_h_aastore {ow : Nat} {ini : Bool} {h h' : jv_H} (X : jv_Cx p s m args meth c cc ow ini D dA G adV L xs h H locs)  {len : Nat} {st st' : List Value} (hdg : decode cc pc = .ok (.aastore, len)) (hl : jv_sw (.aastore) = true ∨ len = jv_len (.aastore)) (h0 : jv_heap ow ini (.aastore) st h = some (st', h')) (hm : h'.2.1 ≤ 1000000) (hc : cells + (h'.2.1 - h.2.1) ≤ R.cells) (hs : slots + (h'.2.2 - h.2.2) ≤ R.slots)
    (k : ∀ (H' : Heap) (locs' : List Loc) (cells' slots' : Nat), cells' = cells + (h'.2.1 - h.2.1) → slots' = slots + (h'.2.2 - h.2.2) → jv_Rep D dA G L xs h' H' → va_S (fun q => G.1 ≤ q) s.heap H' locs' → W p l e R s m args below meth c H' locs' cells' slots' Q (F0 m (pc + len) ls (st'.map (jv_vl (jv_ad G))))) :
    W p l e R s m args below meth c H locs cells slots Q (F0 m pc ls (st.map (jv_vl (jv_ad G)))) := by
  obtain ⟨hx, hb, hown, hts, hK, hR, hS, hini⟩ := X
  unfold jv_heap at h0
  dsimp only at h0
  have e := jv_len1 hl rfl; subst e
  split at h0
  · rename_i b j a r
    split at h0
    · rename_i ha
      obtain ⟨ha, hb1⟩ := ha
      split at h0
      · rename_i ty n f d vs he heb
        split at h0
        · rename_i hq
          obtain ⟨hty, hin⟩ := hq
          cases h0
          have hup : (fun q => ((va_up f j.toNatClampNeg (some b)) q).map (jv_ad G)) = va_up (fun q => (f q).map (jv_ad G)) j.toNatClampNeg (some (jv_ad G b)) := by
            funext q
            unfold va_up
            split <;> rfl
          have fin : ∀ (H1 : Heap) (locs1 : List Loc), H1.size = H.size → va_P D jv_Cl ((jv_ws dA G h).set a (jv_ad G a, .inl (dA ty, n, .inr (.inr (.inr (.inr (va_up (fun q => (f q).map (jv_ad G)) j.toNatClampNeg (some (jv_ad G b))))))))) H1 → va_S (fun q => G.1 ≤ q) s.heap H1 locs1 → W p l e R s m args below meth c H1 locs1 cells slots Q (F0 m (pc + 1) ls (st'.map (jv_vl (jv_ad G)))) := by
            intro H1 locs1 z hP1 hS1
            rw [← hup] at hP1
            exact k H1 locs1 cells slots (by show cells = cells + (h.2.1 - h.2.1); omega) (by show slots = slots + (h.2.2 - h.2.2); omega) (hR.put (x := .inr (.inl (ty, n, va_up f j.toNatClampNeg (some b)))) ha z hP1) hS1
          rcases hty with ⟨rfl, rfl, hb2⟩ | ⟨rfl, rfl, hb2⟩ | ⟨rfl, rfl, hb2⟩
          · exact jv_aastW (D := D) (r := (jv_own 6, jv_fT 6, jv_fn 6)) hx hb hK.1 hR.2.2.1 jv_ws_D hS a 2 b 6 (hR.at ha he) rfl (hR.at hb2 heb) (jv_cls_ok 6 (by decide)) hin hdg fin
          · exact jv_aastW (D := D) (r := (jv_own 5, jv_fT 5, jv_fn 5)) hx hb hK.1 hR.2.2.1 jv_ws_D hS a 3 b 5 (hR.at ha he) rfl (hR.at hb2 heb) (jv_cls_ok 5 (by decide)) hin hdg fin
          · obtain ⟨i, hi, rfl, -, -⟩ := jv_oldc_txt hb2 ((hR.2.2.2.2 b hb2).symm.trans heb)
            have hcell := jv_recvS hK.txtO hi hS
            show W p l e R s m args below meth c H locs cells slots Q (F0 m pc ls (.ref (jv_ad G (1000001 + i)) :: .int j :: .ref (jv_ad G a) :: st'.map (jv_vl (jv_ad G))))
            rw [jv_ad_txt] at fin ⊢
            exact jv_aastS (D := D) (r := (jv_own 8, jv_fT 8, jv_fn 8)) hx hb hK.1 hR.2.2.1 jv_ws_D hS a 5 8 (hR.at ha he) rfl hcell (jv_cls_ok 8 (by decide)) hin hdg fin
        · cases h0
      · cases h0
    · cases h0
  · cases h0
set_option maxHeartbeats 8000000 in
set_option maxRecDepth 100000 in
theorem jv_h_arraylength {ow : Nat} {ini : Bool} {h h' : jv_H} (X : jv_Cx p s m args meth c cc ow ini D dA G adV L xs h H locs)  {len : Nat} {st st' : List Value} (hdg : decode cc pc = .ok (.arraylength, len)) (hl : jv_sw (.arraylength) = true ∨ len = jv_len (.arraylength)) (h0 : jv_heap ow ini (.arraylength) st h = some (st', h')) (hm : h'.2.1 ≤ 1000000) (hc : cells + (h'.2.1 - h.2.1) ≤ R.cells) (hs : slots + (h'.2.2 - h.2.2) ≤ R.slots)
    (k : ∀ (H' : Heap) (locs' : List Loc) (cells' slots' : Nat), cells' = cells + (h'.2.1 - h.2.1) → slots' = slots + (h'.2.2 - h.2.2) → jv_Rep D dA G L xs h' H' → va_S (fun q => G.1 ≤ q) s.heap H' locs' → W p l e R s m args below meth c H' locs' cells' slots' Q (F0 m (pc + len) ls (st'.map (jv_vl (jv_ad G))))) :
    W p l e R s m args below meth c H locs cells slots Q (F0 m pc ls (st.map (jv_vl (jv_ad G)))) := by
  obtain ⟨hx, hb, hown, hts, hK, hR, hS, hini⟩ := X
  unfold jv_heap at h0
  dsimp only at h0
  have e := jv_len1 hl rfl; subst e
  split at h0
  · rename_i a r
    split at h0
    · split at h0
      · rename_i ty n f he
        split at h0
        · rename_i hq
          cases h0
          have kk := k H locs cells slots (by omega) (by omega) hR hS
          rcases hq with ⟨hty, ha⟩ | ⟨rfl, rfl⟩ | ⟨rfl, ha⟩
          · match ty, hty with
            | 0, _ => exact va_alen (D := D) hx hb hK.1 hR.2.2.1 a 0 (hR.at ha he) rfl rfl hdg kk
            | 1, _ => exact va_alen (D := D) hx hb hK.1 hR.2.2.1 a 1 (hR.at ha he) rfl rfl hdg kk
            | 4, _ => exact va_alen (D := D) hx hb hK.1 hR.2.2.1 a 4 (hR.at ha he) rfl rfl hdg kk
            | 2, hq => omega
            | 3, hq => omega
            | q + 5, hq => omega
          · rw [show h.1 1000000 = .inl (9, L, xs) from hR.2.2.2.1] at he
            cases he
            show W p l e R s m args below meth c H locs cells slots Q (F0 m pc ls (.ref (jv_ad G 1000000) :: r.map (jv_vl (jv_ad G))))
            rw [jv_ad_scr]
            exact va_slen hx hb hK.2.1 (Nat.lt_of_lt_of_le hK.2.2.1 hK.2.2.2.1) (Nat.not_le.mpr hK.2.2.1) hS hdg kk
          · exact va_tlen hx hb (hK.oldT ha ((hR.2.2.2.2 a ha).symm.trans he)).2 hS rfl hdg kk
        · cases h0
      · rename_i ty n f he
        split at h0
        · rename_i hq
          cases h0
          obtain ⟨hty, ha⟩ := hq
          have kk := k H locs cells slots (by omega) (by omega) hR hS
          match ty, hty with
          | 2, _ => exact va_alen (D := D) hx hb hK.1 hR.2.2.1 a 2 (hR.at ha he) rfl rfl hdg kk
          | 3, _ => exact va_alen (D := D) hx hb hK.1 hR.2.2.1 a 3 (hR.at ha he) rfl rfl hdg kk
          | 5, _ => exact va_alen (D := D) hx hb hK.1 hR.2.2.1 a 5 (hR.at ha he) rfl rfl hdg kk
          | 6, _ => exact va_alen (D := D) hx hb hK.1 hR.2.2.1 a 6 (hR.at ha he) rfl rfl hdg kk
          | 0, hq => omega
          | 1, hq => omega
          | 4, hq => exact absurd rfl hq.2.2
          | q + 7, hq => omega
        · cases h0
      · cases h0
    · cases h0
  · cases h0
set_option maxHeartbeats 8000000 in
set_option maxRecDepth 100000 in
theorem jv_h_new {ow : Nat} {ini : Bool} {h h' : jv_H} (X : jv_Cx p s m args meth c cc ow ini D dA G adV L xs h H locs) {idx : Nat} {len : Nat} {st st' : List Value} (hdg : decode cc pc = .ok (.new idx, len)) (hl : jv_sw (.new idx) = true ∨ len = jv_len (.new idx)) (h0 : jv_heap ow ini (.new idx) st h = some (st', h')) (hm : h'.2.1 ≤ 1000000) (hc : cells + (h'.2.1 - h.2.1) ≤ R.cells) (hs : slots + (h'.2.2 - h.2.2) ≤ R.slots)
    (k : ∀ (H' : Heap) (locs' : List Loc) (cells' slots' : Nat), cells' = cells + (h'.2.1 - h.2.1) → slots' = slots + (h'.2.2 - h.2.2) → jv_Rep D dA G L xs h' H' → va_S (fun q => G.1 ≤ q) s.heap H' locs' → W p l e R s m args below meth c H' locs' cells' slots' Q (F0 m (pc + len) ls (st'.map (jv_vl (jv_ad G))))) :
    W p l e R s m args below meth c H locs cells slots Q (F0 m pc ls (st.map (jv_vl (jv_ad G)))) := by
  obtain ⟨hx, hb, hown, hts, hK, hR, hS, hini⟩ := X
  unfold jv_heap at h0
  dsimp only at h0
  have e := jv_len1 hl rfl; subst e
  split at h0
  · rename_i cx hn
    cases h0
    have hck := jv_ckn_ok hn
    simp only [jv_ckn1, Bool.and_eq_true, decide_eq_true_eq] at hck
    obtain ⟨hcx, hw⟩ := hck
    have hKn := hK.1.1 cx _ (jv_cls_ok cx hcx)
    have hi := jv_inst_ok cx hcx
    have hsz := hR.1
    have hc1 : cells + 1 ≤ R.cells := by
      have : (h.2.1 + 1) - h.2.1 = 1 := by omega
      have h9 : cells + ((h.2.1 + 1) - h.2.1) ≤ R.cells := hc
      omega
    have hs1 : slots + jv_fn cx ≤ R.slots := by
      have h9 : slots + ((h.2.2 + jv_fn cx) - h.2.2) ≤ R.slots := hs
      omega
    refine W.newcK (n := jv_fn cx) hx hb hown (hts _ (jv_in_ok hw)) (hts _ (jv_in_ok hi.1)) (hts _ (jv_in_ok hi.2)) rfl hdg hc1 hs1 hKn.2.1 rfl fun H1 kC hkC e1 z1 o1 => ?_
    have hadr : jv_ad G h.2.1 = H.size := by rw [hsz]; exact jv_ad_lt (Nat.lt_of_lt_of_le (Nat.lt_succ_self _) hm)
    have kk := k H1 locs (cells + 1) (slots + jv_fn cx) (by show cells + 1 = cells + ((h.2.1 + 1) - h.2.1); omega) (by show slots + jv_fn cx = slots + ((h.2.2 + jv_fn cx) - h.2.2); omega) (hR.add hm z1 o1 ?_) (jv_grow hS z1 o1)
    · have kk2 : W p l e R s m args below meth c H1 locs (cells + 1) (slots + jv_fn cx) Q (F0 m (pc + 3) ls (.ref (jv_ad G h.2.1) :: st.map (jv_vl (jv_ad G)))) := kk
      rw [hadr] at kk2
      exact kk2
    · rw [← hsz]
      refine ⟨_, jv_cls_ok cx hcx, (u_born (jv_fty cx) hts (jv_ws_in cx hcx) hKn hkC e1 (jv_ty_ok cx hcx)).to ?_⟩
      intro j hj
      simp [vp_V, List.getD_eq_getElem?_getD, show j < jv_fn cx from hj, jv_vl_default]
  · cases h0
set_option maxHeartbeats 8000000 in
set_option maxRecDepth 100000 in
theorem jv_h_newarray {ow : Nat} {ini : Bool} {h h' : jv_H} (X : jv_Cx p s m args meth c cc ow ini D dA G adV L xs h H locs) {t : ArrayType} {len : Nat} {st st' : List Value} (hdg : decode cc pc = .ok (.newarray t, len)) (hl : jv_sw (.newarray t) = true ∨ len = jv_len (.newarray t)) (h0 : jv_heap ow ini (.newarray t) st h = some (st', h')) (hm : h'.2.1 ≤ 1000000) (hc : cells + (h'.2.1 - h.2.1) ≤ R.cells) (hs : slots + (h'.2.2 - h.2.2) ≤ R.slots)
    (k : ∀ (H' : Heap) (locs' : List Loc) (cells' slots' : Nat), cells' = cells + (h'.2.1 - h.2.1) → slots' = slots + (h'.2.2 - h.2.2) → jv_Rep D dA G L xs h' H' → va_S (fun q => G.1 ≤ q) s.heap H' locs' → W p l e R s m args below meth c H' locs' cells' slots' Q (F0 m (pc + len) ls (st'.map (jv_vl (jv_ad G))))) :
    W p l e R s m args below meth c H locs cells slots Q (F0 m pc ls (st.map (jv_vl (jv_ad G)))) := by
  obtain ⟨hx, hb, hown, hts, hK, hR, hS, hini⟩ := X
  unfold jv_heap at h0
  dsimp only at h0
  have e := jv_len1 hl rfl; subst e
  split at h0
  · rename_i n r
    split at h0
    · rename_i hn
      obtain ⟨hn0, hn1⟩ := hn
      have hsz := hR.1
      split at h0
      · cases h0
        have hc1 : cells + 1 ≤ R.cells := by
          have h9 : cells + ((h.2.1 + 1) - h.2.1) ≤ R.cells := hc
          omega
        have hs1 : slots + n.toNatClampNeg ≤ R.slots := by
          have h9 : slots + ((h.2.2 + n.toNatClampNeg) - h.2.2) ≤ R.slots := hs
          omega
        refine va_newaK hx hb (hts _ (jv_in_ok jv_arrI)) rfl hdg rfl hn0 rfl (by show n.toNatClampNeg * 4 ≤ 536870912; omega) hc1 hs1 rfl fun H1 cA e1 z1 o1 hAr hNm => ?_
        have hadr : jv_ad G h.2.1 = H.size := by rw [hsz]; exact jv_ad_lt (Nat.lt_of_lt_of_le (Nat.lt_succ_self _) hm)
        have hcA : cA = dA 0 := Option.some.inj (hNm.symm.trans (hK.1.2 0 _ rfl).2)
        subst hcA
        have kk := k H1 locs (cells + 1) (slots + n.toNatClampNeg) (by show cells + 1 = cells + ((h.2.1 + 1) - h.2.1); omega) (by show slots + n.toNatClampNeg = slots + ((h.2.2 + n.toNatClampNeg) - h.2.2); omega) (hR.add hm z1 o1 (by rw [← hsz]; exact e1)) (jv_grow hS z1 o1)
        have kk2 : W p l e R s m args below meth c H1 locs (cells + 1) (slots + n.toNatClampNeg) Q (F0 m (pc + 2) ls (.ref (jv_ad G h.2.1) :: r.map (jv_vl (jv_ad G)))) := kk
        rw [hadr] at kk2
        exact kk2
      · cases h0
        have hc1 : cells + 1 ≤ R.cells := by
          have h9 : cells + ((h.2.1 + 1) - h.2.1) ≤ R.cells := hc
          omega
        have hs1 : slots + n.toNatClampNeg ≤ R.slots := by
          have h9 : slots + ((h.2.2 + n.toNatClampNeg) - h.2.2) ≤ R.slots := hs
          omega
        refine va_newaK hx hb (hts _ (jv_in_ok jv_arrZ)) rfl hdg rfl hn0 rfl (by show n.toNatClampNeg * 1 ≤ 536870912; omega) hc1 hs1 rfl fun H1 cA e1 z1 o1 hAr hNm => ?_
        have hadr : jv_ad G h.2.1 = H.size := by rw [hsz]; exact jv_ad_lt (Nat.lt_of_lt_of_le (Nat.lt_succ_self _) hm)
        have hcA : cA = dA 1 := Option.some.inj (hNm.symm.trans (hK.1.2 1 _ rfl).2)
        subst hcA
        have kk := k H1 locs (cells + 1) (slots + n.toNatClampNeg) (by show cells + 1 = cells + ((h.2.1 + 1) - h.2.1); omega) (by show slots + n.toNatClampNeg = slots + ((h.2.2 + n.toNatClampNeg) - h.2.2); omega) (hR.add hm z1 o1 (by rw [← hsz]; exact e1)) (jv_grow hS z1 o1)
        have kk2 : W p l e R s m args below meth c H1 locs (cells + 1) (slots + n.toNatClampNeg) Q (F0 m (pc + 2) ls (.ref (jv_ad G h.2.1) :: r.map (jv_vl (jv_ad G)))) := kk
        rw [hadr] at kk2
        exact kk2
      · cases h0
        have hc1 : cells + 1 ≤ R.cells := by
          have h9 : cells + ((h.2.1 + 1) - h.2.1) ≤ R.cells := hc
          omega
        have hs1 : slots + n.toNatClampNeg ≤ R.slots := by
          have h9 : slots + ((h.2.2 + n.toNatClampNeg) - h.2.2) ≤ R.slots := hs
          omega
        refine va_newaK hx hb (hts _ (jv_in_ok jv_arrB)) rfl hdg rfl hn0 rfl (by show n.toNatClampNeg * 1 ≤ 536870912; omega) hc1 hs1 rfl fun H1 cA e1 z1 o1 hAr hNm => ?_
        have hadr : jv_ad G h.2.1 = H.size := by rw [hsz]; exact jv_ad_lt (Nat.lt_of_lt_of_le (Nat.lt_succ_self _) hm)
        have hcA : cA = dA 4 := Option.some.inj (hNm.symm.trans (hK.1.2 4 _ rfl).2)
        subst hcA
        have kk := k H1 locs (cells + 1) (slots + n.toNatClampNeg) (by show cells + 1 = cells + ((h.2.1 + 1) - h.2.1); omega) (by show slots + n.toNatClampNeg = slots + ((h.2.2 + n.toNatClampNeg) - h.2.2); omega) (hR.add hm z1 o1 (by rw [← hsz]; exact e1)) (jv_grow hS z1 o1)
        have kk2 : W p l e R s m args below meth c H1 locs (cells + 1) (slots + n.toNatClampNeg) Q (F0 m (pc + 2) ls (.ref (jv_ad G h.2.1) :: r.map (jv_vl (jv_ad G)))) := kk
        rw [hadr] at kk2
        exact kk2
      · cases h0
    · cases h0
  · cases h0
set_option maxHeartbeats 8000000 in
set_option maxRecDepth 100000 in
theorem jv_h_anewarray {ow : Nat} {ini : Bool} {h h' : jv_H} (X : jv_Cx p s m args meth c cc ow ini D dA G adV L xs h H locs) {idx : Nat} {len : Nat} {st st' : List Value} (hdg : decode cc pc = .ok (.anewarray idx, len)) (hl : jv_sw (.anewarray idx) = true ∨ len = jv_len (.anewarray idx)) (h0 : jv_heap ow ini (.anewarray idx) st h = some (st', h')) (hm : h'.2.1 ≤ 1000000) (hc : cells + (h'.2.1 - h.2.1) ≤ R.cells) (hs : slots + (h'.2.2 - h.2.2) ≤ R.slots)
    (k : ∀ (H' : Heap) (locs' : List Loc) (cells' slots' : Nat), cells' = cells + (h'.2.1 - h.2.1) → slots' = slots + (h'.2.2 - h.2.2) → jv_Rep D dA G L xs h' H' → va_S (fun q => G.1 ≤ q) s.heap H' locs' → W p l e R s m args below meth c H' locs' cells' slots' Q (F0 m (pc + len) ls (st'.map (jv_vl (jv_ad G))))) :
    W p l e R s m args below meth c H locs cells slots Q (F0 m pc ls (st.map (jv_vl (jv_ad G)))) := by
  obtain ⟨hx, hb, hown, hts, hK, hR, hS, hini⟩ := X
  unfold jv_heap at h0
  dsimp only at h0
  have e := jv_len1 hl rfl; subst e
  split at h0
  · rename_i n r
    split at h0
    · rename_i hn
      obtain ⟨hn0, hn1⟩ := hn
      have hsz := hR.1
      split at h0
      · rename_i cx hnw
        have hck := jv_ckn_ok hnw
        simp only [jv_ckn1, Bool.and_eq_true, decide_eq_true_eq] at hck
        obtain ⟨hcx, hw⟩ := hck
        have key : ∀ (t0 : Nat) (C : String), jv_own cx = C → (jv_tys dA)[t0]? = some (dA t0, .object C) → (Cond.arrayOver (.object C)).before args s = true → some (.ref h.2.1 :: r, jv_add h (.inr (.inl (t0, n.toNatClampNeg, fun _ => none))) n.toNatClampNeg) = some (st', h') → W p l e R s m args below meth c H locs cells slots Q (F0 m pc ls (.int n :: r.map (jv_vl (jv_ad G)))) := by
          intro t0 C hC ht hover h0
          subst hC
          cases h0
          have hc1 : cells + 1 ≤ R.cells := by
            have h9 : cells + ((h.2.1 + 1) - h.2.1) ≤ R.cells := hc
            omega
          have hs1 : slots + n.toNatClampNeg ≤ R.slots := by
            have h9 : slots + ((h.2.2 + n.toNatClampNeg) - h.2.2) ≤ R.slots := hs
            omega
          refine W.anew hx hb hown (hts _ (jv_in_ok hw)) hover rfl hdg rfl hn0 (by omega) hc1 hs1 fun cA kA comp f1 f2 f3 f4 => ?_
          generalize hH1 : H.push ({ cls := cA, slots := Array.replicate n.toNatClampNeg .null, vm := .none } : Cell) = H1
          have z1 : H1.size = H.size + 1 := by rw [← hH1, Array.size_push]
          have e1 : H1[H.size]? = some (arrV cA n.toNatClampNeg (fun _ => .null)) := by rw [← hH1, Array.getElem?_push_size, ← arrV_new]
          have o1 : ∀ q : Nat, q < H.size → H1[q]? = H[q]? := fun q hq => by rw [← hH1, Array.getElem?_push, if_neg (Nat.ne_of_lt hq)]
          have hadr : jv_ad G h.2.1 = H.size := by rw [hsz]; exact jv_ad_lt (Nat.lt_of_lt_of_le (Nat.lt_succ_self _) hm)
          obtain ⟨kA2, comp2, g1, g2, g3, g4⟩ := (hK.1.2 t0 _ ht).2
          have hcA : cA = dA t0 := Option.some.inj (f1.symm.trans g4)
          subst hcA
          have kk := k H1 locs (cells + 1) (slots + n.toNatClampNeg) (by show cells + 1 = cells + ((h.2.1 + 1) - h.2.1); omega) (by show slots + n.toNatClampNeg = slots + ((h.2.2 + n.toNatClampNeg) - h.2.2); omega) (hR.add hm z1 o1 (by rw [← hsz]; exact e1)) (jv_grow hS z1 o1)
          have kk2 : W p l e R s m args below meth c H1 locs (cells + 1) (slots + n.toNatClampNeg) Q (F0 m (pc + 3) ls (.ref (jv_ad G h.2.1) :: r.map (jv_vl (jv_ad G)))) := kk
          rw [hadr] at kk2
          exact kk2
        split at h0
        · rename_i h6
          subst h6
          exact key 2 _ rfl rfl (va_AO.use hK.2.2.2.2.2.2.1) h0
        · split at h0
          · rename_i h5
            subst h5
            exact key 3 _ rfl rfl (va_AO.use hK.2.2.2.2.2.2.2.1) h0
          · split at h0
            · rename_i h8
              subst h8
              exact key 5 _ rfl rfl (va_AO.use hK.k3.1) h0
            · cases h0
      · cases h0
    · cases h0
  · cases h0
set_option maxHeartbeats 8000000 in
set_option maxRecDepth 100000 in
theorem jv_h_ldc {ow : Nat} {ini : Bool} {h h' : jv_H} (X : jv_Cx p s m args meth c cc ow ini D dA G adV L xs h H locs) {idx : Nat} {len : Nat} {st st' : List Value} (hdg : decode cc pc = .ok (.ldc idx, len)) (hl : jv_sw (.ldc idx) = true ∨ len = jv_len (.ldc idx)) (h0 : jv_heap ow ini (.ldc idx) st h = some (st', h')) (hm : h'.2.1 ≤ 1000000) (hc : cells + (h'.2.1 - h.2.1) ≤ R.cells) (hs : slots + (h'.2.2 - h.2.2) ≤ R.slots)
    (k : ∀ (H' : Heap) (locs' : List Loc) (cells' slots' : Nat), cells' = cells + (h'.2.1 - h.2.1) → slots' = slots + (h'.2.2 - h.2.2) → jv_Rep D dA G L xs h' H' → va_S (fun q => G.1 ≤ q) s.heap H' locs' → W p l e R s m args below meth c H' locs' cells' slots' Q (F0 m (pc + len) ls (st'.map (jv_vl (jv_ad G))))) :
    W p l e R s m args below meth c H locs cells slots Q (F0 m pc ls (st.map (jv_vl (jv_ad G)))) := by
  obtain ⟨hx, hb, hown, hts, hK, hR, hS, hini⟩ := X
  unfold jv_heap at h0
  dsimp only at h0
  have e := jv_len1 hl rfl; subst e
  split at h0
  · rename_i v hv
    cases h0
    have kk := k H locs cells slots (by omega) (by omega) hR hS
    have hck := jv_ckl_ok hv
    cases v with
    | int x => exact W.ldc hx hb hown (hts _ (jv_in_ok hck)) rfl hdg kk
    | ref a =>
      unfold jv_ckl1 at hck
      dsimp only at hck
      cases htx : jv_tix a with
      | none => rw [htx] at hck; cases hck
      | some ix =>
        rw [htx] at hck
        dsimp only at hck
        obtain ⟨hi20, rfl⟩ := jv_tix_eq htx
        cases hst : jv_str[ix]? with
        | none => rw [hst] at hck; cases hck
        | some q =>
          obtain ⟨own, idx2, tx⟩ := q
          rw [hst] at hck
          dsimp only at hck
          obtain ⟨h4, h5⟩ := of_decide_eq_true hck
          subst h4
          subst h5
          have hvk := hK.2.2.2.2.2.1 _ _ hst
          have kk2 : W p l e R s m args below meth c H locs cells slots Q (F0 m (pc + 2) ls (.ref (jv_ad G (1000001 + ix)) :: st.map (jv_vl (jv_ad G)))) := kk
          rw [jv_ad_txt] at kk2
          exact va_ldcS hx hb hown hvk hdg kk2
    | long x => cases hck
    | float x => cases hck
    | double x => cases hck
    | null => cases hck
    | retAddr x => cases hck
  · cases h0
set_option maxHeartbeats 8000000 in
set_option maxRecDepth 100000 in
theorem jv_h_ldc2 {ow : Nat} {ini : Bool} {h h' : jv_H} (X : jv_Cx p s m args meth c cc ow ini D dA G adV L xs h H locs) {idx : Nat} {len : Nat} {st st' : List Value} (hdg : decode cc pc = .ok (.ldc2_w idx, len)) (hl : jv_sw (.ldc2_w idx) = true ∨ len = jv_len (.ldc2_w idx)) (h0 : jv_heap ow ini (.ldc2_w idx) st h = some (st', h')) (hm : h'.2.1 ≤ 1000000) (hc : cells + (h'.2.1 - h.2.1) ≤ R.cells) (hs : slots + (h'.2.2 - h.2.2) ≤ R.slots)
    (k : ∀ (H' : Heap) (locs' : List Loc) (cells' slots' : Nat), cells' = cells + (h'.2.1 - h.2.1) → slots' = slots + (h'.2.2 - h.2.2) → jv_Rep D dA G L xs h' H' → va_S (fun q => G.1 ≤ q) s.heap H' locs' → W p l e R s m args below meth c H' locs' cells' slots' Q (F0 m (pc + len) ls (st'.map (jv_vl (jv_ad G))))) :
    W p l e R s m args below meth c H locs cells slots Q (F0 m pc ls (st.map (jv_vl (jv_ad G)))) := by
  obtain ⟨hx, hb, hown, hts, hK, hR, hS, hini⟩ := X
  unfold jv_heap at h0
  dsimp only at h0
  have e := jv_len1 hl rfl; subst e
  split at h0
  · rename_i v hv
    cases h0
    have kk := k H locs cells slots (by omega) (by omega) hR hS
    unfold jv_ldl at hv
    split at hv
    · rename_i how
      subst how
      split at hv
      · rename_i h1
        subst h1
        cases hv
        exact lv_ldc2 hx hb hown (hts _ jw_l85) hdg kk
      · split at hv
        · rename_i h1
          subst h1
          cases hv
          exact lv_ldc2 hx hb hown (hts _ jw_l87) hdg kk
        · split at hv
          · rename_i h1
            subst h1
            cases hv
            exact lv_ldc2 hx hb hown (hts _ jw_l92) hdg kk
          · cases hv
    · cases hv
  · cases h0
set_option maxHeartbeats 8000000 in
set_option maxRecDepth 100000 in
theorem jv_h_getstatic {ow : Nat} {ini : Bool} {h h' : jv_H} (X : jv_Cx p s m args meth c cc ow ini D dA G adV L xs h H locs) {idx : Nat} {len : Nat} {st st' : List Value} (hdg : decode cc pc = .ok (.getstatic idx, len)) (hl : jv_sw (.getstatic idx) = true ∨ len = jv_len (.getstatic idx)) (h0 : jv_heap ow ini (.getstatic idx) st h = some (st', h')) (hm : h'.2.1 ≤ 1000000) (hc : cells + (h'.2.1 - h.2.1) ≤ R.cells) (hs : slots + (h'.2.2 - h.2.2) ≤ R.slots)
    (k : ∀ (H' : Heap) (locs' : List Loc) (cells' slots' : Nat), cells' = cells + (h'.2.1 - h.2.1) → slots' = slots + (h'.2.2 - h.2.2) → jv_Rep D dA G L xs h' H' → va_S (fun q => G.1 ≤ q) s.heap H' locs' → W p l e R s m args below meth c H' locs' cells' slots' Q (F0 m (pc + len) ls (st'.map (jv_vl (jv_ad G))))) :
    W p l e R s m args below meth c H locs cells slots Q (F0 m pc ls (st.map (jv_vl (jv_ad G)))) := by
  obtain ⟨hx, hb, hown, hts, hK, hR, hS, hini⟩ := X
  unfold jv_heap at h0
  dsimp only at h0
  have e := jv_len1 hl rfl; subst e
  split at h0
  · rename_i v hv
    cases h0
    have kk := k H locs cells slots (by omega) (by omega) hR hS
    unfold jv_sta at hv
    split at hv
    · rename_i how
      cases hv
      rcases how with ⟨rfl, rfl⟩ | ⟨rfl, rfl⟩
      · exact va_gets hx hb hK.compact hS hown (hts _ jw_s1) (fun _ q => q) hdg kk
      · exact va_gets hx hb hK.compact hS hown (hts _ jw_s2) (fun _ q => q) hdg kk
    · split at hv
      · rename_i how
        cases hv
        obtain ⟨rfl, rfl⟩ := how
        exact va_gets hx hb hK.k3.2.2.1.1 hS hown (hts _ jw_s3) (fun _ q => q) hdg kk
      · split at hv
        · rename_i how
          cases hv
          obtain ⟨rfl, rfl⟩ := how
          exact va_gets hx hb hK.k3.2.2.2.1.1 hS hown (hts _ jw_s4) (fun _ q => q) hdg kk
        · cases hv
  · cases h0
set_option maxHeartbeats 8000000 in
set_option maxRecDepth 100000 in
theorem jv_h_checkcast {ow : Nat} {ini : Bool} {h h' : jv_H} (X : jv_Cx p s m args meth c cc ow ini D dA G adV L xs h H locs) {idx : Nat} {len : Nat} {st st' : List Value} (hdg : decode cc pc = .ok (.checkcast idx, len)) (hl : jv_sw (.checkcast idx) = true ∨ len = jv_len (.checkcast idx)) (h0 : jv_heap ow ini (.checkcast idx) st h = some (st', h')) (hm : h'.2.1 ≤ 1000000) (hc : cells + (h'.2.1 - h.2.1) ≤ R.cells) (hs : slots + (h'.2.2 - h.2.2) ≤ R.slots)
    (k : ∀ (H' : Heap) (locs' : List Loc) (cells' slots' : Nat), cells' = cells + (h'.2.1 - h.2.1) → slots' = slots + (h'.2.2 - h.2.2) → jv_Rep D dA G L xs h' H' → va_S (fun q => G.1 ≤ q) s.heap H' locs' → W p l e R s m args below meth c H' locs' cells' slots' Q (F0 m (pc + len) ls (st'.map (jv_vl (jv_ad G))))) :
    W p l e R s m args below meth c H locs cells slots Q (F0 m pc ls (st.map (jv_vl (jv_ad G)))) := by
  obtain ⟨hx, hb, hown, hts, hK, hR, hS, hini⟩ := X
  unfold jv_heap at h0
  dsimp only at h0
  have e := jv_len1 hl rfl; subst e
  split at h0
  · rename_i a r
    split at h0
    · rename_i ha
      obtain ⟨ha, rfl, rfl⟩ := ha
      split at h0
      · rename_i ty n f he
        split at h0
        · rename_i hty
          subst hty
          cases h0
          have kk := k H locs cells slots (by omega) (by omega) hR hS
          exact va_castA (D := D) hx hb hown (hts _ jw_cc) hR.2.2.1 a (hR.at ha he) (hK.1.2 4 _ rfl).2 hdg kk
        · cases h0
      · cases h0
    · cases h0
  · cases h0
theorem jv_addn_eq : ∀ (k m : Nat) (h : jv_H), (jv_addn h k m).2.1 = h.2.1 + k ∧ (jv_addn h k m).2.2 = h.2.2 + k * m
  | 0, m, h => ⟨rfl, by show h.2.2 = h.2.2 + 0 * m; omega⟩
  | k + 1, m, h => by
    have h1 := jv_addn_eq k m (jv_add h (.inl (0, m, fun _ => 0)) m)
    refine ⟨h1.1.trans (by show h.2.1 + 1 + k = h.2.1 + (k + 1); omega), h1.2.trans ?_⟩
    show h.2.2 + m + k * m = h.2.2 + (k + 1) * m
    rw [Nat.add_mul]
    omega
theorem jv_addn_at : ∀ (k m : Nat) (h : jv_H) (a : Nat), (a < h.2.1 ∨ h.2.1 + k ≤ a → (jv_addn h k m).1 a = h.1 a) ∧ (h.2.1 ≤ a → a < h.2.1 + k → (jv_addn h k m).1 a = .inl (0, m, fun _ => 0))
  | 0, m, h, a => ⟨fun _ => rfl, fun h1 h2 => by omega⟩
  | k + 1, m, h, a => by
    have ih := jv_addn_at k m (jv_add h (.inl (0, m, fun _ => 0)) m) a
    have e2 : (jv_add h (.inl (0, m, fun _ => 0)) m).2.1 = h.2.1 + 1 := rfl
    rw [e2] at ih
    refine ⟨fun h1 => ?_, fun h1 h2 => ?_⟩
    · refine (ih.1 (by omega)).trans ?_
      show jv_up h.1 h.2.1 _ a = h.1 a
      unfold jv_up
      rw [if_neg (by omega)]
    · by_cases e : a = h.2.1
      · refine (ih.1 (by omega)).trans ?_
        show jv_up h.1 h.2.1 _ a = _
        unfold jv_up
        rw [if_pos e]
      · exact ih.2 (by omega) (by omega)
theorem jv_arrV_of {sl : Array Value} {cI : ClassId} {N : Nat} {f : Nat → Value} (h3 : sl.size = N) (h4 : ∀ j, j < N → sl[j]? = some (f j)) : ({ cls := cI, slots := sl, vm := .none } : Cell) = arrV cI N f := by
  have hs : sl = (arrV cI N f).slots := by
    apply Array.ext_getElem?
    intro j
    by_cases hj : j < N
    · rw [h4 j hj, arrV_read _ _ hj]
    · rw [Array.getElem?_eq_none (by omega), Array.getElem?_eq_none (by rw [arrV_size]; omega)]
  rw [hs]
  rfl
theorem jv_outer_eq (c : ClassId) (N h0 : Nat) : ∀ i, Jvm.Free.Multi.outerC c N h0 i = { cls := c, slots := (Jvm.Free.Multi.outerC c N h0 i).slots, vm := .none }
  | 0 => rfl
  | i + 1 => by
    have ih := jv_outer_eq c N h0 i
    show (Jvm.Free.Multi.outerC c N h0 i).setSlot i (.ref (h0 + 1 + i)) = _
    rw [ih]
    rfl
set_option maxHeartbeats 8000000 in
set_option maxRecDepth 100000 in
theorem jv_h_multi {ow : Nat} {ini : Bool} {h h' : jv_H} (X : jv_Cx p s m args meth c cc ow ini D dA G adV L xs h H locs) {idx d : Nat} {len : Nat} {st st' : List Value} (hdg : decode cc pc = .ok (.multianewarray idx d, len)) (hl : jv_sw (.multianewarray idx d) = true ∨ len = jv_len (.multianewarray idx d)) (h0 : jv_heap ow ini (.multianewarray idx d) st h = some (st', h')) (hm : h'.2.1 ≤ 1000000) (hc : cells + (h'.2.1 - h.2.1) ≤ R.cells) (hs : slots + (h'.2.2 - h.2.2) ≤ R.slots)
    (k : ∀ (H' : Heap) (locs' : List Loc) (cells' slots' : Nat), cells' = cells + (h'.2.1 - h.2.1) → slots' = slots + (h'.2.2 - h.2.2) → jv_Rep D dA G L xs h' H' → va_S (fun q => G.1 ≤ q) s.heap H' locs' → W p l e R s m args below meth c H' locs' cells' slots' Q (F0 m (pc + len) ls (st'.map (jv_vl (jv_ad G))))) :
    W p l e R s m args below meth c H locs cells slots Q (F0 m pc ls (st.map (jv_vl (jv_ad G)))) := by
  obtain ⟨hx, hb, hown, hts, hK, hR, hS, hini⟩ := X
  unfold jv_heap at h0
  dsimp only at h0
  have e := jv_len1 hl rfl; subst e
  split at h0
  · rename_i how
    obtain ⟨rfl, rfl, rfl⟩ := how
    split at h0
    · rename_i mm nn r
      split at h0
      · rename_i hq
        obtain ⟨hn0, hn1, hm0, hm1⟩ := hq
        cases h0
        generalize hN : nn.toNatClampNeg = N at *
        generalize hM : mm.toNatClampNeg = M at *
        generalize hx0 : (Sum.inr (Sum.inl (6, N, fun i => if i < N then some (h.2.1 + 1 + i) else none)) : jv_E) = x0 at *
        have ea := jv_addn_eq N M (jv_add h x0 N)
        have ea1 : (jv_addn (jv_add h x0 N) N M).2.1 = h.2.1 + 1 + N := ea.1
        have ea2 : (jv_addn (jv_add h x0 N) N M).2.2 = h.2.2 + N + N * M := ea.2
        rw [ea1] at hm hc
        rw [ea2] at hs
        have hsz := hR.1
        have es : "[" ++ (FieldType.array FieldType.int).toString = "[[I" := by decide +kernel
        intro T hT X
        obtain ⟨vm₁, cA, comp, hW, hfA, hfC, -, -, X1, step⟩ := Jvm.Stand.multianewarray2K X hx (own := jv_own 10) (index := 101) (ty := .int) hown (by rw [es]; exact hts _ jw_ma) hK.k3.2.2.2.2.2 (hts _ (jv_in_ok jv_arrI)) (g := F0 m pc ls (.int mm :: .int nn :: r.map (jv_vl (jv_ad G)))) rfl (by rw [hb]; exact hdg) rfl hn0 hm0 (by rw [hN]; omega) (by rw [hM]; show M * 4 ≤ _; omega) (by rw [hM]; omega) rfl rfl (by rw [hN]; omega) (by rw [hN, hM]; omega)
        rw [hN, hM] at X1 step
        have hcA : cA = dA 6 := Option.some.inj (hfA.symm.trans (hK.1.2 6 _ rfl).2)
        have hcC : comp = dA 0 := Option.some.inj (hfC.symm.trans (hK.1.2 0 _ rfl).2)
        subst hcA hcC
        generalize hF : Jvm.Free.Multi.fill (T.setVm vm₁) (dA 6) (dA 0) N M (defaultValue .int) N = F at X1 step
        have hTs : (T.setVm vm₁).heap = H := hT
        obtain ⟨f1, f2, -, -⟩ := Jvm.Free.Multi.fill_facts (T.setVm vm₁) (dA 6) (dA 0) N M (defaultValue .int) N
        have f3 := fun (a : Nat) (ha : a < (T.setVm vm₁).heap.size) => Jvm.Free.Multi.fill_old (T.setVm vm₁) (dA 6) (dA 0) N M (defaultValue .int) (a := a) ha N
        have f4 := Jvm.Free.Multi.fill_inner (T.setVm vm₁) (dA 6) (dA 0) N M (defaultValue .int) N
        rw [hF, hTs] at f1 f2 f4
        rw [hF, hTs] at f3
        have hadr : jv_ad G h.2.1 = H.size := by rw [hsz]; exact jv_ad_lt (by omega)
        have hRep : jv_Rep D dA G L xs (jv_addn (jv_add h x0 N) N M) F.heap := by
          refine ⟨by rw [f1, ea1, hsz]; omega, by rw [ea1]; omega, fun k q hk => ?_, ?_, fun a ha => ?_⟩
          · have hkl : k < h.2.1 + 1 + N := by
              have := (List.getElem?_eq_some_iff.mp hk).1
              unfold jv_ws at this
              rw [List.length_map, List.length_range, ea1] at this
              exact this
            rw [jv_ws_get (by rw [ea1]; exact hkl)] at hk
            cases hk
            have hat := jv_addn_at N M (jv_add h x0 N) k
            have e2 : (jv_add h x0 N).2.1 = h.2.1 + 1 := rfl
            rw [e2] at hat
            by_cases h1 : k < h.2.1
            · have e3 : (jv_addn (jv_add h x0 N) N M).1 k = h.1 k := (hat.1 (by omega)).trans (by show jv_up h.1 h.2.1 _ k = h.1 k; unfold jv_up; rw [if_neg (by omega)])
              rw [e3]
              exact va_at.kept (hR.2.2.1 k _ (jv_ws_get h1)) (f3 (G.1 + k) (by omega))
            · by_cases h2 : k = h.2.1
              · subst h2
                have e3 : (jv_addn (jv_add h x0 N) N M).1 h.2.1 = x0 := (hat.1 (by omega)).trans (by show jv_up h.1 h.2.1 _ h.2.1 = _; unfold jv_up; rw [if_pos rfl])
                rw [e3, ← hx0]
                show F.heap[G.1 + h.2.1]? = some (arrV (dA 6) N (fun j => va_rf ((if j < N then some (h.2.1 + 1 + j) else none : Option Nat).map (jv_ad G))))
                rw [← hsz, f2]
                obtain ⟨o1, o2, o3⟩ := Jvm.Free.Multi.outerC_facts (dA 6) N H.size N
                rw [jv_outer_eq (dA 6) N H.size N]
                refine congrArg some (jv_arrV_of o3 (fun j hj => ?_))
                rw [Jvm.Free.Multi.outerC_slot (dA 6) N H.size N j hj, if_pos hj, if_pos hj]
                show some (Value.ref (H.size + 1 + j)) = some (Value.ref (jv_ad G (h.2.1 + 1 + j)))
                rw [jv_ad_lt (by omega), hsz]
                rw [show G.1 + h.2.1 + 1 + j = G.1 + (h.2.1 + 1 + j) by omega]
              · have e3 := hat.2 (by omega) (by omega)
                rw [e3]
                show F.heap[G.1 + k]? = some (arrV (dA 0) M (fun _ => Value.int 0))
                have e4 := f4 (k - (h.2.1 + 1)) (by omega)
                rw [show H.size + 1 + (k - (h.2.1 + 1)) = G.1 + k by omega] at e4
                rw [e4, ← arrV_new]
                rfl
          · have hat := (jv_addn_at N M (jv_add h x0 N) 1000000).1 (by show 1000000 < h.2.1 + 1 ∨ h.2.1 + 1 + N ≤ 1000000; omega)
            refine hat.trans ?_
            show jv_up h.1 h.2.1 _ 1000000 = _
            unfold jv_up
            rw [if_neg (by omega)]
            exact hR.2.2.2.1
          · have h9 := jv_old_eq ha
            have hat := (jv_addn_at N M (jv_add h x0 N) a).1 (by show a < h.2.1 + 1 ∨ h.2.1 + 1 + N ≤ a; omega)
            refine hat.trans ?_
            show jv_up h.1 h.2.1 _ a = _
            unfold jv_up
            rw [if_neg (by omega)]
            exact hR.2.2.2.2 a ha
        have hS1 : va_S (fun q => G.1 ≤ q) s.heap F.heap (locs ++ (List.range N).map fun j => ⟨T.heap.size, j⟩) := by
          refine ⟨Nat.le_trans hS.1 (by rw [f1]; omega), fun q g1 g2 => ?_, fun q hq => ?_⟩
          · rw [f3 q (Nat.lt_of_lt_of_le g1 hS.1)]
            exact hS.2.1 q g1 g2
          · rcases List.mem_append.mp hq with h8 | h8
            · exact hS.2.2 q h8
            · obtain ⟨z, -, hz⟩ := List.mem_map.mp h8
              rw [← hz]
              show G.1 ≤ T.heap.size
              rw [hT, hsz]
              omega
        obtain ⟨t, a1, b1⟩ := k F.heap _ (cells + 1 + N) (slots + N + N * M) (by rw [ea1]; omega) (by rw [ea2]; omega) hRep hS1 F rfl X1
        refine ⟨t, step t ?_, b1⟩
        have a2 : Steps p.tables e below (F.setTop (F0 m (pc + 4) ls (.ref (jv_ad G h.2.1) :: r.map (jv_vl (jv_ad G))))) t := a1
        rw [hadr] at a2
        rw [hT]
        exact a2
      · cases h0
    · cases h0
  · cases h0
set_option maxHeartbeats 8000000 in
theorem jv_heap_ok (hx : p.tables.exec = Jvm.exec) (hb : c.code = cc) {ow : Nat} {ini : Bool} (hown : s.vm.findClass (jv_own ow) = some m.cls) (hts : ∀ w ∈ jv_T, w.before args s = true) (hK : jv_Kn D dA G adV L xs s) {h h' : jv_H} (hR : jv_Rep D dA G L xs h H) (hS : va_S (fun q => G.1 ≤ q) s.heap H locs) (hini : ini = true → meth.name = "<init>")
    {i : Instr} {len : Nat} {st st' : List Value} (hdg : decode cc pc = .ok (i, len)) (hl : jv_sw i = true ∨ len = jv_len i) (h0 : jv_heap ow ini i st h = some (st', h')) (hm : h'.2.1 ≤ 1000000) (hc : cells + (h'.2.1 - h.2.1) ≤ R.cells) (hs : slots + (h'.2.2 - h.2.2) ≤ R.slots)
    (k : ∀ (H' : Heap) (locs' : List Loc) (cells' slots' : Nat), cells' = cells + (h'.2.1 - h.2.1) → slots' = slots + (h'.2.2 - h.2.2) → jv_Rep D dA G L xs h' H' → va_S (fun q => G.1 ≤ q) s.heap H' locs' → W p l e R s m args below meth c H' locs' cells' slots' Q (F0 m (pc + len) ls (st'.map (jv_vl (jv_ad G))))) :
    W p l e R s m args below meth c H locs cells slots Q (F0 m pc ls (st.map (jv_vl (jv_ad G)))) := by
  have X : jv_Cx p s m args meth c cc ow ini D dA G adV L xs h H locs := ⟨hx, hb, hown, hts, hK, hR, hS, hini⟩
  have h00 := h0
  unfold jv_heap at h0
  split at h0
  · exact jv_h_getfield X hdg hl h00 hm hc hs k
  · exact jv_h_putfield X hdg hl h00 hm hc hs k
  · exact jv_h_iaload X hdg hl h00 hm hc hs k
  · exact jv_h_baload X hdg hl h00 hm hc hs k
  · exact jv_h_aaload X hdg hl h00 hm hc hs k
  · exact jv_h_iastore X hdg hl h00 hm hc hs k
  · exact jv_h_bastore X hdg hl h00 hm hc hs k
  · exact jv_h_aastore X hdg hl h00 hm hc hs k
  · exact jv_h_arraylength X hdg hl h00 hm hc hs k
  · exact jv_h_new X hdg hl h00 hm hc hs k
  · exact jv_h_newarray X hdg hl h00 hm hc hs k
  · exact jv_h_anewarray X hdg hl h00 hm hc hs k
  · exact jv_h_ldc X hdg hl h00 hm hc hs k
  · exact jv_h_ldc2 X hdg hl h00 hm hc hs k
  · exact jv_h_getstatic X hdg hl h00 hm hc hs k
  · exact jv_h_checkcast X hdg hl h00 hm hc hs k
  · exact jv_h_multi X hdg hl h00 hm hc hs k
  · cases h0
end JHQ
