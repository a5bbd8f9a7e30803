/-! THE J MACHINE IS RIGHT: what reads and writes cells -/
/-- the base of the new cells, the script's address, the texts' addresses -/
abbrev jv_G : Type := Nat × Nat × (Nat → Nat)
def jv_ad (G : jv_G) (k : Nat) : Nat := if k < 1000000 then G.1 + k else if k = 1000000 then G.2.1 else G.2.2 (k - 1000001)
theorem jv_ad_lt {G : jv_G} {k : Nat} (h : k < 1000000) : jv_ad G k = G.1 + k := if_pos h
theorem jv_ad_scr {G : jv_G} : jv_ad G 1000000 = G.2.1 := rfl
theorem jv_ad_txt {G : jv_G} (i : Nat) : jv_ad G (1000001 + i) = G.2.2 i := by
  unfold jv_ad
  rw [if_neg (by omega), if_neg (by omega), show 1000001 + i - 1000001 = i by omega]
def jv_ce (dA : Nat → ClassId) (ad : Nat → Nat) (x : jv_E) : va_E := match x with
  | .inl (ty, n, f) => .inl (dA ty, n, .inl f)
  | .inr (.inl (ty, n, f)) => .inl (dA ty, n, .inr (.inr (.inr (.inr (fun j => (f j).map ad)))))
  | .inr (.inr (c, fs)) => .inr (c, fs.map (jv_vl ad))
/-- the J machine's cells as a world of the kit's -/
def jv_ws (dA : Nat → ClassId) (G : jv_G) (h : jv_H) : va_W := (List.range h.2.1).map (fun k => (G.1 + k, jv_ce dA (jv_ad G) (h.1 k)))
theorem jv_ws_get {dA : Nat → ClassId} {G : jv_G} {h : jv_H} {k : Nat} (hk : k < h.2.1) : (jv_ws dA G h)[k]? = some (G.1 + k, jv_ce dA (jv_ad G) (h.1 k)) := by
  simp [jv_ws, hk]
theorem jv_ws_inv {dA : Nat → ClassId} {G : jv_G} {h : jv_H} {k : Nat} {q : Nat × va_E} (hk : (jv_ws dA G h)[k]? = some q) : q.1 = G.1 + k := by
  unfold jv_ws at hk
  rw [List.getElem?_map] at hk
  cases hr : (List.range h.2.1)[k]? with
  | none => rw [hr] at hk; cases hk
  | some j =>
    rw [hr] at hk
    have hj : j = k := by
      have h1 := List.getElem?_eq_some_iff.mp hr
      obtain ⟨h2, h3⟩ := h1
      rw [List.getElem_range] at h3
      exact h3.symm
    subst hj
    cases hk
    rfl
theorem jv_ws_set {dA : Nat → ClassId} {G : jv_G} {h : jv_H} {k : Nat} (x : jv_E) (hk : k < h.2.1) : (jv_ws dA G h).set k (G.1 + k, jv_ce dA (jv_ad G) x) = jv_ws dA G (jv_put h k x) := by
  apply List.ext_getElem?
  intro j
  by_cases hj : k = j
  · subst hj
    rw [List.getElem?_set_self (by simp [jv_ws, hk]), jv_ws_get (h := jv_put h k x) hk]
    simp [jv_put, jv_up]
  · rw [List.getElem?_set_ne hj]
    by_cases hlt : j < h.2.1
    · rw [jv_ws_get hlt, jv_ws_get (h := jv_put h k x) hlt]
      simp [jv_put, jv_up, Ne.symm hj]
    · rw [List.getElem?_eq_none (by simp [jv_ws]; omega), List.getElem?_eq_none (by simp [jv_ws, jv_put]; omega)]
theorem jv_ws_add {dA : Nat → ClassId} {G : jv_G} {h : jv_H} (x : jv_E) (n : Nat) : jv_ws dA G (jv_add h x n) = jv_ws dA G h ++ [(G.1 + h.2.1, jv_ce dA (jv_ad G) x)] := by
  unfold jv_ws jv_add
  simp only [List.range_succ, List.map_append, List.map_cons, List.map_nil]
  congr 1
  · apply List.map_congr_left
    intro k hk
    have h1 := List.mem_range.mp hk
    simp [jv_up, Nat.ne_of_lt h1]
  · simp [jv_up]
theorem jv_ws_D {dA : Nat → ClassId} {G : jv_G} {h : jv_H} : va_D (fun q => G.1 ≤ q) (jv_ws dA G h) := by
  refine ⟨fun i j p q hp hq hpq => ?_, fun k q hk => ?_⟩
  · rw [jv_ws_inv hp, jv_ws_inv hq] at hpq
    omega
  · show G.1 ≤ q.1
    rw [jv_ws_inv hk]
    omega
/-- what never changes: the script -/
def jv_fix (L : Nat) (xs : Nat → Int32) (h : jv_H) : Prop := h.1 1000000 = .inl (9, L, xs)
theorem jv_fix.up {L : Nat} {xs : Nat → Int32} {h h' : jv_H} (hf : jv_fix L xs h) {k : Nat} (hk : k < 1000000) {x : jv_E} (he : h'.1 = jv_up h.1 k x) : jv_fix L xs h' := by
  unfold jv_fix
  rw [he]
  unfold jv_up
  rw [if_neg (by omega)]
  exact hf
def jv_Rep (D : va_G) (dA : Nat → ClassId) (G : jv_G) (L : Nat) (xs : Nat → Int32) (h : jv_H) (H : Heap) : Prop := H.size = G.1 + h.2.1 ∧ h.2.1 ≤ 1000000 ∧ va_P D vwCl (jv_ws dA G h) H ∧ jv_fix L xs h
abbrev jv_tys (dA : Nat → ClassId) : List (ClassId × FieldType) := [(dA 0, .int), (dA 1, .boolean), (dA 2, .object "SeatSwap$Traveller"), (dA 3, .object "SeatSwap$Train")]
/-- what is said of classes, nest mates and the JDK's statics -/
def jv_K2 (G : jv_G) (U : State) : Prop := va_AO "SeatSwap$Traveller" U ∧ va_AO "SeatSwap$Train" U ∧ (∀ w ∈ jv_nests, va_Nw w U) ∧ va_Z "java/lang/String" "COMPACT_STRINGS" "Z" (.int 1) (fun q => G.1 ≤ q) U U.heap ∧
  ∃ v : Value, (v = .null ∨ ∃ a, v = .ref a) ∧ va_Z "jdk/internal/util/Preconditions" "SIOOBE_FORMATTER" "Ljava/util/function/BiFunction;" v (fun q => G.1 ≤ q) U U.heap
/-- what a method knows beside its cells -/
def jv_Kn (D : va_G) (dA : Nat → ClassId) (G : jv_G) (adV : Nat → Nat) (L : Nat) (xs : Nat → Int32) (U : State) : Prop :=
  va_K D vwCl (jv_tys dA) U ∧ va_X G.2.1 L xs U U.heap ∧ G.2.1 < G.1 ∧ G.1 ≤ U.heap.size ∧ vk_S 20 jv_lens jv_byt G.2.2 adV (fun q => G.1 ≤ q) U U.heap ∧ (∀ (i : Nat) (q : String × Nat × String), jv_str[i]? = some q → vk_R q.1 q.2.1 q.2.2 (G.2.2 i) U) ∧ jv_K2 G U
theorem jv_vl_fits (ad : Nat → Nat) (ty : FieldType) (v : Value) : fits ty (jv_vl ad v) = fits ty v := by
  cases v <;> first | rfl | (cases ty <;> rfl)
theorem jv_vl_narrow (ad : Nat → Nat) (ty : FieldType) (v : Value) (h : narrow ty v = v) : narrow ty (jv_vl ad v) = jv_vl ad v := by
  cases v <;> first | exact h | (cases ty <;> rfl)
theorem jv_vl_default (ad : Nat → Nat) (ty : FieldType) : jv_vl ad (defaultValue ty) = defaultValue ty := by
  cases ty <;> rfl
section JHP
variable {p : Program} {l : Launch} {e : Env} {R : Room} {s : State} {m : MethodId} {args : Array Value} {below : List Frame} {meth : Method} {c : Code} {H : Heap} {locs : List Loc} {cells slots : Nat} {Q : State → Prop}
variable {cc : ByteArray} {pc : Nat} {ls : Array Slot} {rest : List Value} {D : va_G} {cl : List vw_C} {A : Nat → Prop} {a : Nat} {tys : List (ClassId × FieldType)} {ws : va_W} {H0 : Heap}
/-- a field is written (a final one: in its class's constructor), and nothing is made -/
theorem jv_putW (hexec : p.tables.exec = Jvm.exec) (hb : c.code = cc) {own C : String} {T : u_T} {N ci index : Nat} {Ts : List Cond} (hts : ∀ w ∈ Ts, w.before args s = true) (hin : ∀ w ∈ u_ws C T N, w ∈ Ts) (ty0 : Nat → FieldType) (hty : ∀ k, k < N → parseFieldDescriptor (T k).2.2.1 = some (ty0 k)) (hnm : ∀ a, a < N → ∀ b, b < N → a ≠ b → (T a).2.1 ≠ (T b).2.1) (hown : s.vm.findClass own = some m.cls)
    (hK : va_K D cl tys s) (hP : va_P D cl ws H) (hD : va_D A ws) (hS0 : va_S A H0 H locs) (q0 : Nat) {fs : List Value} (he : ws[q0]? = some (a, .inr (ci, fs))) (hc : cl[ci]? = some (C, T, N)) (k : Nat) (hk : k < N) (hlink : (Cond.fieldLink own index (T k).1 (T k).2.1 (T k).2.2.1).before args s = true) (hfin : (T k).2.2.2 = false ∨ ((T k).2.2.2 = true ∧ meth.name = "<init>" ∧ (T k).1 = own))
    {v : Value} (hn : narrow (ty0 k) v = v) (hfit : fits (ty0 k) v = true) (hl : k < fs.length) (hdg : decode cc pc = .ok (.putfield index, 3))
    (kk : ∀ (H1 : Heap) (locs1 : List Loc), H1.size = H.size → va_P D cl (ws.set q0 (a, .inr (ci, fs.set k v))) H1 → va_S A H0 H1 locs1 → W p l e R s m args below meth c H1 locs1 cells slots Q (F0 m (pc + 3) ls rest)) : W p l e R s m args below meth c H locs cells slots Q (F0 m pc ls (v :: .ref a :: rest)) := by
  have hap := va_apart (own := own) hts hin ty0 hty hnm hK hc
  obtain ⟨r, h1, cell, q1, q2, q3, q4⟩ := hP q0 _ he
  have hr : r = (C, T, N) := Option.some.inj (h1.symm.trans hc)
  subst hr
  obtain ⟨hS, hfc, kC, hkC, hkind⟩ := hK.1 ci _ hc
  obtain ⟨cf, kf, fi, f, hi, hsl⟩ := hS k hk
  have hst := (u_facts hfc hkC (u_lays hts hin hk) hi).1
  have fin : ∀ H' : Heap, H'[a]? = some (cell.setSlot f.slot v) → (∀ q, q ≠ a → H'[q]? = H[q]?) → va_P D cl (ws.set q0 (a, .inr (ci, fs.set k v))) H' := by
    intro H' e1 e3
    rw [hsl] at e1
    exact hP.set hD he ⟨_, hc, t_OB.to (V := updV (vp_V fs) k v) ⟨_, e1, q2, q3, t_set q4 hap hk v⟩ (fun j _ => vp_updV_set hl v j)⟩ e3
  have hlay := hts _ (hin _ (u_in_lay hk))
  unfold u_lay at hlay
  rcases hfin with hfin | ⟨hfin, hin2, hdecl⟩
  · rw [if_neg (by rw [hfin]; decide)] at hlay
    have h6 := u_store hfc hkC hkind hlay hi (hty k hk) hn hfit
    exact W.putK hexec hb (f := f) ⟨hown, hlink, ⟨_, _, _, hi⟩, hst⟩ (by rw [q2]; exact h6) q1 q3 (by rw [hsl]; exact k2_hasslot (q4 k hk)) rfl rfl hdg fun H' e1 e2 e3 => kk H' _ e2 (fin H' e1 e3) (hS0.put e2 e3 (hD.2 q0 _ he))
  · rw [if_pos hfin] at hlay
    have hcf : m.cls = cf := by
      obtain ⟨_, _, c', _, _, _, -, -, hf', -, -, -, hown2, -⟩ := Cond.laysFinal_spec hlay
      have e1 : c' = cf := by have := hi.symm.trans hf'; simp at this; exact this.1.symm
      rw [hdecl] at hown2
      rw [← e1]; exact Option.some.inj (hown.symm.trans hown2)
    have h6 := u_fits hfc hkC hkind (Or.inr hlay) hi (hty k hk) hn hfit
    exact W.putFinK hexec hb hown hlink hi hst hcf hin2 (by rw [q2]; exact h6) q1 q3 (by rw [hsl]; exact k2_hasslot (q4 k hk)) rfl rfl hdg fun H' e1 e2 e3 => kk H' _ e2 (fin H' e1 e3) (hS0.put e2 e3 (hD.2 q0 _ he))
theorem jv_iastW (hexec : p.tables.exec = Jvm.exec) (hb : c.code = cc) (hK : va_K D cl tys s) (hP : va_P D cl ws H) (hD : va_D A ws) (hS : va_S A H0 H locs) (q0 t0 : Nat) {cA : ClassId} {n : Nat} {f : Nat → Int32} (ha : ws[q0]? = some (a, .inl (cA, n, .inl f))) (ht : tys[t0]? = some (cA, .int)) {i : Int32} {x : Int32} (hin : vp_in i n) (hdg : decode cc pc = .ok (.iastore, 1))
    (kk : ∀ (H1 : Heap) (locs1 : List Loc), H1.size = H.size → va_P D cl (ws.set q0 (a, .inl (cA, n, .inl (upd f i.toNatClampNeg x)))) H1 → va_S A H0 H1 locs1 → W p l e R s m args below meth c H1 locs1 cells slots Q (F0 m (pc + 1) ls rest)) : W p l e R s m args below meth c H locs cells slots Q (F0 m pc ls (.int x :: .int i :: .ref a :: rest)) := by
  refine W.iast hexec hb (hP q0 _ ha) ((hK.2 t0 _ ht).1 n (fun j => .int (f j))) (fun q => by cases q) (by show ¬ (i < 0 ∨ (arrV _ _ _).slots.size ≤ _); rw [arrV_size]; exact hin) rfl rfl hdg fun H1 e z oq => ?_
  refine kk H1 _ z (hP.set hD ha ?_ oq) (hS.put z oq (hD.2 q0 _ ha))
  show H1[a]? = some (vp_cell _ _)
  rw [e, vp_cell_i, vp_cell_i, arrV_store]
  congr 2
  funext q
  by_cases hq : q = i.toNatClampNeg
  · subst hq
    simp [updV, upd]
  · simp [updV, upd, hq]
theorem jv_zastW (hexec : p.tables.exec = Jvm.exec) (hb : c.code = cc) (hK : va_K D cl tys s) (hP : va_P D cl ws H) (hD : va_D A ws) (hS : va_S A H0 H locs) (q0 t0 : Nat) {cA : ClassId} {n : Nat} {f : Nat → Int32} (ha : ws[q0]? = some (a, .inl (cA, n, .inl f))) (ht : tys[t0]? = some (cA, .boolean)) {i : Int32} {x : Int32} (hx1 : x &&& 1 = x) (hin : vp_in i n) (hdg : decode cc pc = .ok (.bastore, 1))
    (kk : ∀ (H1 : Heap) (locs1 : List Loc), H1.size = H.size → va_P D cl (ws.set q0 (a, .inl (cA, n, .inl (upd f i.toNatClampNeg x)))) H1 → va_S A H0 H1 locs1 → W p l e R s m args below meth c H1 locs1 cells slots Q (F0 m (pc + 1) ls rest)) : W p l e R s m args below meth c H locs cells slots Q (F0 m pc ls (.int x :: .int i :: .ref a :: rest)) := by
  refine W.zast hexec hb (hP q0 _ ha) ((hK.2 t0 _ ht).1 n (fun j => .int (f j))) (fun q => by cases q) (by show ¬ (i < 0 ∨ (arrV _ _ _).slots.size ≤ _); rw [arrV_size]; exact hin) rfl rfl hdg fun H1 e z oq => ?_
  refine kk H1 _ z (hP.set hD ha ?_ oq) (hS.put z oq (hD.2 q0 _ ha))
  show H1[a]? = some (vp_cell _ _)
  rw [e, vp_cell_i, vp_cell_i, arrV_store]
  congr 2
  funext q
  by_cases hq : q = i.toNatClampNeg
  · subst hq
    simp [updV, upd, narrow, hx1]
  · simp [updV, upd, hq]
theorem jv_aastW (hexec : p.tables.exec = Jvm.exec) (hb : c.code = cc) (hK : va_K D cl tys s) (hP : va_P D cl ws H) (hD : va_D A ws) (hS : va_S A H0 H locs) (q0 t0 qk ci : Nat) {cA : ClassId} {r : vw_C} {n v : Nat} {vs : List Value} {f : Nat → Option Nat} (ha : ws[q0]? = some (a, .inl (cA, n, .inr (.inr (.inr (.inr f)))))) (ht : tys[t0]? = some (cA, .object r.1)) (hv : ws[qk]? = some (v, .inr (ci, vs))) (hc : cl[ci]? = some r) {i : Int32} (hin : vp_in i n) (hdg : decode cc pc = .ok (.aastore, 1))
    (kk : ∀ (H1 : Heap) (locs1 : List Loc), H1.size = H.size → va_P D cl (ws.set q0 (a, .inl (cA, n, .inr (.inr (.inr (.inr (va_up f i.toNatClampNeg (some v)))))))) H1 → va_S A H0 H1 locs1 → W p l e R s m args below meth c H1 locs1 cells slots Q (F0 m (pc + 1) ls rest)) : W p l e R s m args below meth c H locs cells slots Q (F0 m pc ls (.ref v :: .int i :: .ref a :: rest)) := by
  have hlt : i.toNatClampNeg < n := Nat.not_le.mp fun q => hin (Or.inr q)
  have h0 : ¬ i < 0 := fun q => hin (Or.inl q)
  obtain ⟨r', hr', cellV, g1, g2, g3, -⟩ := hP qk _ hv
  have hcls := (hK.1 ci r hc).2
  obtain ⟨kA, comp, k1, k2, k3, -⟩ := (hK.2 t0 _ ht).2
  have hcomp : comp = D.1 ci := Option.some.inj (k3.symm.trans hcls.1)
  subst hcomp
  obtain ⟨kC, hkC, -⟩ := hcls.2
  refine W.aast hexec hb (hP q0 _ ha) (fun q h => by cases h) (fun h => by cases h) k1 k2 rfl hkC ⟨h0, by show _ < (arrV _ _ _).slots.size; rw [arrV_size]; exact hlt⟩ g1 (fun q h => by rw [g3] at h; cases h) (by rw [g2]; exact hkC) (by rw [g2]; exact va_assign hcls) rfl rfl hdg fun H1 e z oq => ?_
  refine kk H1 _ z (hP.set hD ha ?_ oq) (hS.put z oq (hD.2 q0 _ ha))
  show H1[a]? = some (vp_cell _ _)
  rw [e, vp_cell_q, vp_cell_q, arrV_store]
  congr 2
  funext q
  by_cases hq : q = i.toNatClampNeg
  · subst hq
    simp [updV, va_up, va_rf]
  · simp [updV, va_up, hq]
end JHP
theorem jv_get_eq {ow idx : Nat} {st st' : List Value} {h : jv_H} (h0 : jv_get ow idx st h = some st') : ∃ (a : Nat) (r : List Value) (cx k : Nat) (fs : List Value) (v : Value), st = .ref a :: r ∧ jv_fld ow idx = some (cx, k) ∧ a < h.2.1 ∧ h.1 a = .inr (.inr (cx, fs)) ∧ fs[k]? = some v ∧ st' = v :: r := by
  unfold jv_get at h0
  split at h0
  · rename_i a r
    split at h0
    · rename_i cx k hf
      split at h0
      · rename_i ha
        split at h0
        · rename_i d fs hc
          split at h0
          · rename_i hd
            subst hd
            split at h0
            · rename_i v hv
              cases h0
              exact ⟨a, r, _, k, fs, v, rfl, hf, ha, hc, hv, rfl⟩
            · cases h0
          · cases h0
        · cases h0
      · cases h0
    · cases h0
  · cases h0
theorem jv_set_eq {ow idx : Nat} {ini : Bool} {st st' : List Value} {h h' : jv_H} (h0 : jv_set ow ini idx st h = some (st', h')) : ∃ (v : Value) (a : Nat) (cx k : Nat) (fs : List Value), st = v :: .ref a :: st' ∧ jv_fld ow idx = some (cx, k) ∧ a < h.2.1 ∧ h.1 a = .inr (.inr (cx, fs)) ∧ k < fs.length ∧ narrow (jv_fty cx k) v = v ∧ fits (jv_fty cx k) v = true ∧ ((jv_fT cx k).2.2.2 = false ∨ (ini = true ∧ cx = ow)) ∧ h' = jv_put h a (.inr (.inr (cx, fs.set k v))) := by
  unfold jv_set at h0
  split at h0
  · rename_i v a r
    split at h0
    · rename_i cx k hf
      split at h0
      · rename_i ha
        obtain ⟨ha, hn, hfi, hfin⟩ := ha
        split at h0
        · rename_i d fs hc
          split at h0
          · rename_i hd
            obtain ⟨hd, hk⟩ := hd
            subst hd
            cases h0
            exact ⟨v, a, _, k, fs, rfl, hf, ha, hc, hk, hn, hfi, hfin, rfl⟩
          · cases h0
        · cases h0
      · cases h0
    · cases h0
  · cases h0
section JHQ
variable {p : Program} {l : Launch} {e : Env} {R : Room} {s : State} {m : MethodId} {args : Array Value} {below : List Frame} {meth : Method} {c : Code} {H : Heap} {locs : List Loc} {cells slots : Nat} {Q : State → Prop}
variable {cc : ByteArray} {pc : Nat} {ls : Array Slot} {D : va_G} {dA : Nat → ClassId} {G : jv_G} {adV : Nat → Nat} {L : Nat} {xs : Nat → Int32}
theorem jv_Rep.at {h : jv_H} (hR : jv_Rep D dA G L xs h H) {a : Nat} (ha : a < h.2.1) {x : jv_E} (he : h.1 a = x) : (jv_ws dA G h)[a]? = some (jv_ad G a, jv_ce dA (jv_ad G) x) := by
  have h1 := hR.2.1
  rw [jv_ad_lt (by omega), ← he]
  exact jv_ws_get ha
theorem jv_Rep.put {h : jv_H} {H1 : Heap} (hR : jv_Rep D dA G L xs h H) {a : Nat} (ha : a < h.2.1) {x : jv_E} (hz : H1.size = H.size) (hP : va_P D vwCl ((jv_ws dA G h).set a (jv_ad G a, jv_ce dA (jv_ad G) x)) H1) : jv_Rep D dA G L xs (jv_put h a x) H1 := by
  have h1 := hR.2.1
  refine ⟨hz.trans hR.1, hR.2.1, ?_, hR.2.2.2.up (k := a) (x := x) (by omega) rfl⟩
  rw [jv_ad_lt (by omega), jv_ws_set x ha] at hP
  exact hP
theorem jv_Rep.add {h : jv_H} {H1 : Heap} (hR : jv_Rep D dA G L xs h H) {x : jv_E} {n : Nat} (hm : h.2.1 + 1 ≤ 1000000) (hz : H1.size = H.size + 1) (o1 : ∀ q : Nat, q < H.size → H1[q]? = H[q]?) (hat : va_at D vwCl (G.1 + h.2.1, jv_ce dA (jv_ad G) x) H1) : jv_Rep D dA G L xs (jv_add h x n) H1 := by
  refine ⟨?_, hm, ?_, hR.2.2.2.up (k := h.2.1) (x := x) (by omega) rfl⟩
  · rw [hz, hR.1]
    show G.1 + h.2.1 + 1 = G.1 + (h.2.1 + 1)
    omega
  · rw [jv_ws_add]
    refine (hR.2.2.1.kept (fun k q hk => o1 q.1 ((hR.2.2.1 k q hk).lt))).app (fun k q hk => ?_)
    have hz : k < 1 := (List.getElem?_eq_some_iff.mp hk).1
    rw [show k = 0 by omega] at hk
    cases hk
    exact hat
theorem jv_grow {A : Nat → Prop} {H0 H1 : Heap} (hS : va_S A H0 H locs) (hz : H1.size = H.size + 1) (o1 : ∀ q : Nat, q < H.size → H1[q]? = H[q]?) : va_S A H0 H1 locs :=
  ⟨Nat.le_trans hS.1 (by omega), fun x h1 h2 => (o1 x (Nat.lt_of_lt_of_le h1 hS.1)).trans (hS.2.1 x h1 h2), hS.2.2⟩
/-- what every case of jv_heap_ok has -/
def jv_Cx (p : Program) (s : State) (m : MethodId) (args : Array Value) (meth : Method) (c : Code) (cc : ByteArray) (ow : Nat) (ini : Bool) (D : va_G) (dA : Nat → ClassId) (G : jv_G) (adV : Nat → Nat) (L : Nat) (xs : Nat → Int32) (h : jv_H) (H : Heap) (locs : List Loc) : Prop :=
  p.tables.exec = Jvm.exec ∧ c.code = cc ∧ s.vm.findClass (jv_own ow) = some m.cls ∧ (∀ w ∈ jv_T, w.before args s = true) ∧ jv_Kn D dA G adV L xs s ∧ jv_Rep D dA G L xs h H ∧ va_S (fun q => G.1 ≤ q) s.heap H locs ∧ (ini = true → meth.name = "<init>")
set_option maxHeartbeats 8000000 in
set_option maxRecDepth 100000 in
theorem jv_h_getfield {ow : Nat} {ini : Bool} {h h' : jv_H} (X : jv_Cx p s m args meth c cc ow ini D dA G adV L xs h H locs) {idx : Nat} {len : Nat} {st st' : List Value} (hdg : decode cc pc = .ok (.getfield idx, len)) (hl : jv_sw (.getfield idx) = true ∨ len = jv_len (.getfield idx)) (h0 : jv_heap ow ini (.getfield idx) st h = some (st', h')) (hm : h'.2.1 ≤ 1000000) (hc : cells + (h'.2.1 - h.2.1) ≤ R.cells) (hs : slots + (h'.2.2 - h.2.2) ≤ R.slots)
    (k : ∀ (H' : Heap) (locs' : List Loc) (cells' slots' : Nat), cells' = cells + (h'.2.1 - h.2.1) → slots' = slots + (h'.2.2 - h.2.2) → jv_Rep D dA G L xs h' H' → va_S (fun q => G.1 ≤ q) s.heap H' locs' → W p l e R s m args below meth c H' locs' cells' slots' Q (F0 m (pc + len) ls (st'.map (jv_vl (jv_ad G))))) :
    W p l e R s m args below meth c H locs cells slots Q (F0 m pc ls (st.map (jv_vl (jv_ad G)))) := by
  obtain ⟨hx, hb, hown, hts, hK, hR, hS, hini⟩ := X
  unfold jv_heap at h0
  dsimp only at h0
  have e := jv_len1 hl rfl; subst e
  split at h0
  · rename_i st1 hg
    cases h0
    obtain ⟨a, r, cx, kf, fs, v, rfl, hf, ha, he, hv, rfl⟩ := jv_get_eq hg
    have hck := jv_ckf_ok hf
    simp only [jv_ckf1, Bool.and_eq_true, decide_eq_true_eq] at hck
    obtain ⟨⟨hcx, hkf⟩, hw⟩ := hck
    exact va_get (D := D) (ci := cx) (v := jv_vl (jv_ad G) v) hx hb hts (jv_ws_in cx hcx) hown hK.1 hR.2.2.1 a (hR.at ha he) (jv_cls_ok cx hcx) kf hkf (hts _ (jv_in_ok hw)) (fun _ q => q) (by rw [List.getElem?_map, hv]; rfl) hdg (k H locs cells slots (by omega) (by omega) hR hS)
  · cases h0
set_option maxHeartbeats 8000000 in
set_option maxRecDepth 100000 in
theorem jv_h_putfield {ow : Nat} {ini : Bool} {h h' : jv_H} (X : jv_Cx p s m args meth c cc ow ini D dA G adV L xs h H locs) {idx : Nat} {len : Nat} {st st' : List Value} (hdg : decode cc pc = .ok (.putfield idx, len)) (hl : jv_sw (.putfield idx) = true ∨ len = jv_len (.putfield idx)) (h0 : jv_heap ow ini (.putfield idx) st h = some (st', h')) (hm : h'.2.1 ≤ 1000000) (hc : cells + (h'.2.1 - h.2.1) ≤ R.cells) (hs : slots + (h'.2.2 - h.2.2) ≤ R.slots)
    (k : ∀ (H' : Heap) (locs' : List Loc) (cells' slots' : Nat), cells' = cells + (h'.2.1 - h.2.1) → slots' = slots + (h'.2.2 - h.2.2) → jv_Rep D dA G L xs h' H' → va_S (fun q => G.1 ≤ q) s.heap H' locs' → W p l e R s m args below meth c H' locs' cells' slots' Q (F0 m (pc + len) ls (st'.map (jv_vl (jv_ad G))))) :
    W p l e R s m args below meth c H locs cells slots Q (F0 m pc ls (st.map (jv_vl (jv_ad G)))) := by
  obtain ⟨hx, hb, hown, hts, hK, hR, hS, hini⟩ := X
  unfold jv_heap at h0
  dsimp only at h0
  have e := jv_len1 hl rfl; subst e
  obtain ⟨v, a, cx, kf, fs, rfl, hf, ha, he, hkl, hn, hfi, hfin, rfl⟩ := jv_set_eq h0
  have hck := jv_ckf_ok hf
  simp only [jv_ckf1, Bool.and_eq_true, decide_eq_true_eq] at hck
  obtain ⟨⟨hcx, hkf⟩, hw⟩ := hck
  refine jv_putW (D := D) (ci := cx) (v := jv_vl (jv_ad G) v) hx hb hts (jv_ws_in cx hcx) (jv_fty cx) (jv_ty_ok cx hcx) (jv_nm_ok cx hcx) hown hK.1 hR.2.2.1 jv_ws_D hS a (hR.at ha he) (jv_cls_ok cx hcx) kf hkf (hts _ (jv_in_ok hw)) ?_ (jv_vl_narrow _ _ _ hn) (by rw [jv_vl_fits]; exact hfi) (by rw [List.length_map]; exact hkl) hdg (fun H1 locs1 z hP1 hS1 => ?_)
  · rcases hfin with q | ⟨q1, q2⟩
    · exact Or.inl q
    · by_cases hf2 : (jv_fT cx kf).2.2.2 = true
      · exact Or.inr ⟨hf2, hini q1, by rw [← q2]; exact jv_dcl_ok cx hcx kf hkf⟩
      · exact Or.inl (by simpa using hf2)
  · refine k H1 locs1 cells slots (by show cells = cells + (h.2.1 - h.2.1); omega) (by show slots = slots + (h.2.2 - h.2.2); omega) (hR.put ha z ?_) hS1
    rw [← List.map_set] at hP1
    exact hP1
set_option maxHeartbeats 8000000 in
set_option maxRecDepth 100000 in
theorem jv_h_iaload {ow : Nat} {ini : Bool} {h h' : jv_H} (X : jv_Cx p s m args meth c cc ow ini D dA G adV L xs h H locs)  {len : Nat} {st st' : List Value} (hdg : decode cc pc = .ok (.iaload, len)) (hl : jv_sw (.iaload) = true ∨ len = jv_len (.iaload)) (h0 : jv_heap ow ini (.iaload) st h = some (st', h')) (hm : h'.2.1 ≤ 1000000) (hc : cells + (h'.2.1 - h.2.1) ≤ R.cells) (hs : slots + (h'.2.2 - h.2.2) ≤ R.slots)
    (k : ∀ (H' : Heap) (locs' : List Loc) (cells' slots' : Nat), cells' = cells + (h'.2.1 - h.2.1) → slots' = slots + (h'.2.2 - h.2.2) → jv_Rep D dA G L xs h' H' → va_S (fun q => G.1 ≤ q) s.heap H' locs' → W p l e R s m args below meth c H' locs' cells' slots' Q (F0 m (pc + len) ls (st'.map (jv_vl (jv_ad G))))) :
    W p l e R s m args below meth c H locs cells slots Q (F0 m pc ls (st.map (jv_vl (jv_ad G)))) := by
  obtain ⟨hx, hb, hown, hts, hK, hR, hS, hini⟩ := X
  unfold jv_heap at h0
  dsimp only at h0
  have e := jv_len1 hl rfl; subst e
  split at h0
  · rename_i j a r
    split at h0
    · split at h0
      · rename_i ty n f he
        split at h0
        · rename_i hq
          cases h0
          obtain ⟨h1 | h1, hin⟩ := hq
          · obtain ⟨rfl, ha⟩ := h1
            exact va_iald (D := D) hx hb hK.1 hR.2.2.1 a 0 (hR.at ha he) rfl hin hdg (k H locs cells slots (by omega) (by omega) hR hS)
          · obtain ⟨rfl, rfl⟩ := h1
            rw [show h.1 1000000 = .inl (9, L, xs) from hR.2.2.2] at he
            cases he
            show W p l e R s m args below meth c H locs cells slots Q (F0 m pc ls (.int j :: .ref (jv_ad G 1000000) :: r.map (jv_vl (jv_ad G))))
            rw [jv_ad_scr]
            exact va_sld hx hb hK.2.1 (Nat.lt_of_lt_of_le hK.2.2.1 hK.2.2.2.1) (Nat.not_le.mpr hK.2.2.1) hS hin hdg (k H locs cells slots (by omega) (by omega) hR hS)
        · cases h0
      · cases h0
    · cases h0
  · cases h0
set_option maxHeartbeats 8000000 in
set_option maxRecDepth 100000 in
theorem jv_h_baload {ow : Nat} {ini : Bool} {h h' : jv_H} (X : jv_Cx p s m args meth c cc ow ini D dA G adV L xs h H locs)  {len : Nat} {st st' : List Value} (hdg : decode cc pc = .ok (.baload, len)) (hl : jv_sw (.baload) = true ∨ len = jv_len (.baload)) (h0 : jv_heap ow ini (.baload) st h = some (st', h')) (hm : h'.2.1 ≤ 1000000) (hc : cells + (h'.2.1 - h.2.1) ≤ R.cells) (hs : slots + (h'.2.2 - h.2.2) ≤ R.slots)
    (k : ∀ (H' : Heap) (locs' : List Loc) (cells' slots' : Nat), cells' = cells + (h'.2.1 - h.2.1) → slots' = slots + (h'.2.2 - h.2.2) → jv_Rep D dA G L xs h' H' → va_S (fun q => G.1 ≤ q) s.heap H' locs' → W p l e R s m args below meth c H' locs' cells' slots' Q (F0 m (pc + len) ls (st'.map (jv_vl (jv_ad G))))) :
    W p l e R s m args below meth c H locs cells slots Q (F0 m pc ls (st.map (jv_vl (jv_ad G)))) := by
  obtain ⟨hx, hb, hown, hts, hK, hR, hS, hini⟩ := X
  unfold jv_heap at h0
  dsimp only at h0
  have e := jv_len1 hl rfl; subst e
  split at h0
  · rename_i j a r
    split at h0
    · rename_i ha
      split at h0
      · rename_i ty n f he
        split at h0
        · rename_i hq
          cases h0
          obtain ⟨rfl, hin⟩ := hq
          exact va_zald (D := D) hx hb hK.1 hR.2.2.1 a 1 (hR.at ha he) rfl hin hdg (k H locs cells slots (by omega) (by omega) hR hS)
        · cases h0
      · cases h0
    · cases h0
  · cases h0
set_option maxHeartbeats 8000000 in
set_option maxRecDepth 100000 in
theorem jv_h_aaload {ow : Nat} {ini : Bool} {h h' : jv_H} (X : jv_Cx p s m args meth c cc ow ini D dA G adV L xs h H locs)  {len : Nat} {st st' : List Value} (hdg : decode cc pc = .ok (.aaload, len)) (hl : jv_sw (.aaload) = true ∨ len = jv_len (.aaload)) (h0 : jv_heap ow ini (.aaload) st h = some (st', h')) (hm : h'.2.1 ≤ 1000000) (hc : cells + (h'.2.1 - h.2.1) ≤ R.cells) (hs : slots + (h'.2.2 - h.2.2) ≤ R.slots)
    (k : ∀ (H' : Heap) (locs' : List Loc) (cells' slots' : Nat), cells' = cells + (h'.2.1 - h.2.1) → slots' = slots + (h'.2.2 - h.2.2) → jv_Rep D dA G L xs h' H' → va_S (fun q => G.1 ≤ q) s.heap H' locs' → W p l e R s m args below meth c H' locs' cells' slots' Q (F0 m (pc + len) ls (st'.map (jv_vl (jv_ad G))))) :
    W p l e R s m args below meth c H locs cells slots Q (F0 m pc ls (st.map (jv_vl (jv_ad G)))) := by
  obtain ⟨hx, hb, hown, hts, hK, hR, hS, hini⟩ := X
  unfold jv_heap at h0
  dsimp only at h0
  have e := jv_len1 hl rfl; subst e
  split at h0
  · rename_i j a r
    split at h0
    · rename_i ha
      split at h0
      · rename_i ty n f he
        split at h0
        · rename_i hq
          obtain ⟨hty, hin⟩ := hq
          split at h0
          · rename_i b hfb
            cases h0
            have kk := k H locs cells slots (by omega) (by omega) hR hS
            rcases hty with rfl | rfl
            · refine va_aldq (D := D) hx hb hK.1 hR.2.2.1 a 2 (hR.at ha he) rfl hin hdg ?_
              rw [hfb]
              exact kk
            · refine va_aldq (D := D) hx hb hK.1 hR.2.2.1 a 3 (hR.at ha he) rfl hin hdg ?_
              rw [hfb]
              exact kk
          · cases h0
        · cases h0
      · cases h0
    · cases h0
  · cases h0
set_option maxHeartbeats 8000000 in
set_option maxRecDepth 100000 in
theorem jv_h_iastore {ow : Nat} {ini : Bool} {h h' : jv_H} (X : jv_Cx p s m args meth c cc ow ini D dA G adV L xs h H locs)  {len : Nat} {st st' : List Value} (hdg : decode cc pc = .ok (.iastore, len)) (hl : jv_sw (.iastore) = true ∨ len = jv_len (.iastore)) (h0 : jv_heap ow ini (.iastore) st h = some (st', h')) (hm : h'.2.1 ≤ 1000000) (hc : cells + (h'.2.1 - h.2.1) ≤ R.cells) (hs : slots + (h'.2.2 - h.2.2) ≤ R.slots)
    (k : ∀ (H' : Heap) (locs' : List Loc) (cells' slots' : Nat), cells' = cells + (h'.2.1 - h.2.1) → slots' = slots + (h'.2.2 - h.2.2) → jv_Rep D dA G L xs h' H' → va_S (fun q => G.1 ≤ q) s.heap H' locs' → W p l e R s m args below meth c H' locs' cells' slots' Q (F0 m (pc + len) ls (st'.map (jv_vl (jv_ad G))))) :
    W p l e R s m args below meth c H locs cells slots Q (F0 m pc ls (st.map (jv_vl (jv_ad G)))) := by
  obtain ⟨hx, hb, hown, hts, hK, hR, hS, hini⟩ := X
  unfold jv_heap at h0
  dsimp only at h0
  have e := jv_len1 hl rfl; subst e
  split at h0
  · rename_i x j a r
    split at h0
    · rename_i ha
      split at h0
      · rename_i ty n f he
        split at h0
        · rename_i hq
          obtain ⟨rfl, hin⟩ := hq
          cases h0
          exact jv_iastW (D := D) hx hb hK.1 hR.2.2.1 jv_ws_D hS a 0 (hR.at ha he) rfl hin hdg (fun H1 locs1 z hP1 hS1 => k H1 locs1 cells slots (by show cells = cells + (h.2.1 - h.2.1); omega) (by show slots = slots + (h.2.2 - h.2.2); omega) (hR.put ha z hP1) hS1)
        · cases h0
      · cases h0
    · cases h0
  · cases h0
set_option maxHeartbeats 8000000 in
set_option maxRecDepth 100000 in
theorem jv_h_bastore {ow : Nat} {ini : Bool} {h h' : jv_H} (X : jv_Cx p s m args meth c cc ow ini D dA G adV L xs h H locs)  {len : Nat} {st st' : List Value} (hdg : decode cc pc = .ok (.bastore, len)) (hl : jv_sw (.bastore) = true ∨ len = jv_len (.bastore)) (h0 : jv_heap ow ini (.bastore) st h = some (st', h')) (hm : h'.2.1 ≤ 1000000) (hc : cells + (h'.2.1 - h.2.1) ≤ R.cells) (hs : slots + (h'.2.2 - h.2.2) ≤ R.slots)
    (k : ∀ (H' : Heap) (locs' : List Loc) (cells' slots' : Nat), cells' = cells + (h'.2.1 - h.2.1) → slots' = slots + (h'.2.2 - h.2.2) → jv_Rep D dA G L xs h' H' → va_S (fun q => G.1 ≤ q) s.heap H' locs' → W p l e R s m args below meth c H' locs' cells' slots' Q (F0 m (pc + len) ls (st'.map (jv_vl (jv_ad G))))) :
    W p l e R s m args below meth c H locs cells slots Q (F0 m pc ls (st.map (jv_vl (jv_ad G)))) := by
  obtain ⟨hx, hb, hown, hts, hK, hR, hS, hini⟩ := X
  unfold jv_heap at h0
  dsimp only at h0
  have e := jv_len1 hl rfl; subst e
  split at h0
  · rename_i x j a r
    split at h0
    · rename_i ha
      obtain ⟨ha, hx1⟩ := ha
      split at h0
      · rename_i ty n f he
        split at h0
        · rename_i hq
          obtain ⟨rfl, hin⟩ := hq
          cases h0
          exact jv_zastW (D := D) hx hb hK.1 hR.2.2.1 jv_ws_D hS a 1 (hR.at ha he) rfl hx1 hin hdg (fun H1 locs1 z hP1 hS1 => k H1 locs1 cells slots (by show cells = cells + (h.2.1 - h.2.1); omega) (by show slots = slots + (h.2.2 - h.2.2); omega) (hR.put ha z hP1) hS1)
        · cases h0
      · cases h0
    · cases h0
  · cases h0
set_option maxHeartbeats 8000000 in
set_option maxRecDepth 100000 in
theorem jv_h_aastore {ow : Nat} {ini : Bool} {h h' : jv_H} (X : jv_Cx p s m args meth c cc ow ini D dA G adV L xs h H locs)  {len : Nat} {st st' : List Value} (hdg : decode cc pc = .ok (.aastore, len)) (hl : jv_sw (.aastore) = true ∨ len = jv_len (.aastore)) (h0 : jv_heap ow ini (.aastore) st h = some (st', h')) (hm : h'.2.1 ≤ 1000000) (hc : cells + (h'.2.1 - h.2.1) ≤ R.cells) (hs : slots + (h'.2.2 - h.2.2) ≤ R.slots)
    (k : ∀ (H' : Heap) (locs' : List Loc) (cells' slots' : Nat), cells' = cells + (h'.2.1 - h.2.1) → slots' = slots + (h'.2.2 - h.2.2) → jv_Rep D dA G L xs h' H' → va_S (fun q => G.1 ≤ q) s.heap H' locs' → W p l e R s m args below meth c H' locs' cells' slots' Q (F0 m (pc + len) ls (st'.map (jv_vl (jv_ad G))))) :
    W p l e R s m args below meth c H locs cells slots Q (F0 m pc ls (st.map (jv_vl (jv_ad G)))) := by
  obtain ⟨hx, hb, hown, hts, hK, hR, hS, hini⟩ := X
  unfold jv_heap at h0
  dsimp only at h0
  have e := jv_len1 hl rfl; subst e
  split at h0
  · rename_i b j a r
    split at h0
    · rename_i ha
      obtain ⟨ha, hb1⟩ := ha
      split at h0
      · rename_i ty n f d vs he heb
        split at h0
        · rename_i hq
          obtain ⟨hty, hin⟩ := hq
          cases h0
          have hup : (fun q => ((va_up f j.toNatClampNeg (some b)) q).map (jv_ad G)) = va_up (fun q => (f q).map (jv_ad G)) j.toNatClampNeg (some (jv_ad G b)) := by
            funext q
            unfold va_up
            split <;> rfl
          have fin : ∀ (H1 : Heap) (locs1 : List Loc), H1.size = H.size → va_P D vwCl ((jv_ws dA G h).set a (jv_ad G a, .inl (dA ty, n, .inr (.inr (.inr (.inr (va_up (fun q => (f q).map (jv_ad G)) j.toNatClampNeg (some (jv_ad G b))))))))) H1 → va_S (fun q => G.1 ≤ q) s.heap H1 locs1 → W p l e R s m args below meth c H1 locs1 cells slots Q (F0 m (pc + 1) ls (st'.map (jv_vl (jv_ad G)))) := by
            intro H1 locs1 z hP1 hS1
            rw [← hup] at hP1
            exact k H1 locs1 cells slots (by show cells = cells + (h.2.1 - h.2.1); omega) (by show slots = slots + (h.2.2 - h.2.2); omega) (hR.put (x := .inr (.inl (ty, n, va_up f j.toNatClampNeg (some b)))) ha z hP1) hS1
          rcases hty with ⟨rfl, rfl⟩ | ⟨rfl, rfl⟩
          · exact jv_aastW (D := D) (r := (jv_own 6, jv_fT 6, jv_fn 6)) hx hb hK.1 hR.2.2.1 jv_ws_D hS a 2 b 6 (hR.at ha he) rfl (hR.at hb1 heb) (jv_cls_ok 6 (by decide)) hin hdg fin
          · exact jv_aastW (D := D) (r := (jv_own 5, jv_fT 5, jv_fn 5)) hx hb hK.1 hR.2.2.1 jv_ws_D hS a 3 b 5 (hR.at ha he) rfl (hR.at hb1 heb) (jv_cls_ok 5 (by decide)) hin hdg fin
        · cases h0
      · cases h0
    · cases h0
  · cases h0
set_option maxHeartbeats 8000000 in
set_option maxRecDepth 100000 in
theorem jv_h_arraylength {ow : Nat} {ini : Bool} {h h' : jv_H} (X : jv_Cx p s m args meth c cc ow ini D dA G adV L xs h H locs)  {len : Nat} {st st' : List Value} (hdg : decode cc pc = .ok (.arraylength, len)) (hl : jv_sw (.arraylength) = true ∨ len = jv_len (.arraylength)) (h0 : jv_heap ow ini (.arraylength) st h = some (st', h')) (hm : h'.2.1 ≤ 1000000) (hc : cells + (h'.2.1 - h.2.1) ≤ R.cells) (hs : slots + (h'.2.2 - h.2.2) ≤ R.slots)
    (k : ∀ (H' : Heap) (locs' : List Loc) (cells' slots' : Nat), cells' = cells + (h'.2.1 - h.2.1) → slots' = slots + (h'.2.2 - h.2.2) → jv_Rep D dA G L xs h' H' → va_S (fun q => G.1 ≤ q) s.heap H' locs' → W p l e R s m args below meth c H' locs' cells' slots' Q (F0 m (pc + len) ls (st'.map (jv_vl (jv_ad G))))) :
    W p l e R s m args below meth c H locs cells slots Q (F0 m pc ls (st.map (jv_vl (jv_ad G)))) := by
  obtain ⟨hx, hb, hown, hts, hK, hR, hS, hini⟩ := X
  unfold jv_heap at h0
  dsimp only at h0
  have e := jv_len1 hl rfl; subst e
  split at h0
  · rename_i a r
    split at h0
    · split at h0
      · rename_i ty n f he
        split at h0
        · rename_i hq
          cases h0
          have kk := k H locs cells slots (by omega) (by omega) hR hS
          rcases hq with ⟨hty, ha⟩ | ⟨rfl, rfl⟩
          · match ty, hty with
            | 0, _ => exact va_alen (D := D) hx hb hK.1 hR.2.2.1 a 0 (hR.at ha he) rfl rfl hdg kk
            | 1, _ => exact va_alen (D := D) hx hb hK.1 hR.2.2.1 a 1 (hR.at ha he) rfl rfl hdg kk
            | q + 2, hq => omega
          · rw [show h.1 1000000 = .inl (9, L, xs) from hR.2.2.2] at he
            cases he
            show W p l e R s m args below meth c H locs cells slots Q (F0 m pc ls (.ref (jv_ad G 1000000) :: r.map (jv_vl (jv_ad G))))
            rw [jv_ad_scr]
            exact va_slen hx hb hK.2.1 (Nat.lt_of_lt_of_le hK.2.2.1 hK.2.2.2.1) (Nat.not_le.mpr hK.2.2.1) hS hdg kk
        · cases h0
      · rename_i ty n f he
        split at h0
        · rename_i hq
          cases h0
          obtain ⟨hty, ha⟩ := hq
          have kk := k H locs cells slots (by omega) (by omega) hR hS
          rcases hty with rfl | rfl
          · exact va_alen (D := D) hx hb hK.1 hR.2.2.1 a 2 (hR.at ha he) rfl rfl hdg kk
          · exact va_alen (D := D) hx hb hK.1 hR.2.2.1 a 3 (hR.at ha he) rfl rfl hdg kk
        · cases h0
      · cases h0
    · cases h0
  · cases h0
set_option maxHeartbeats 8000000 in
set_option maxRecDepth 100000 in
theorem jv_h_new {ow : Nat} {ini : Bool} {h h' : jv_H} (X : jv_Cx p s m args meth c cc ow ini D dA G adV L xs h H locs) {idx : Nat} {len : Nat} {st st' : List Value} (hdg : decode cc pc = .ok (.new idx, len)) (hl : jv_sw (.new idx) = true ∨ len = jv_len (.new idx)) (h0 : jv_heap ow ini (.new idx) st h = some (st', h')) (hm : h'.2.1 ≤ 1000000) (hc : cells + (h'.2.1 - h.2.1) ≤ R.cells) (hs : slots + (h'.2.2 - h.2.2) ≤ R.slots)
    (k : ∀ (H' : Heap) (locs' : List Loc) (cells' slots' : Nat), cells' = cells + (h'.2.1 - h.2.1) → slots' = slots + (h'.2.2 - h.2.2) → jv_Rep D dA G L xs h' H' → va_S (fun q => G.1 ≤ q) s.heap H' locs' → W p l e R s m args below meth c H' locs' cells' slots' Q (F0 m (pc + len) ls (st'.map (jv_vl (jv_ad G))))) :
    W p l e R s m args below meth c H locs cells slots Q (F0 m pc ls (st.map (jv_vl (jv_ad G)))) := by
  obtain ⟨hx, hb, hown, hts, hK, hR, hS, hini⟩ := X
  unfold jv_heap at h0
  dsimp only at h0
  have e := jv_len1 hl rfl; subst e
  split at h0
  · rename_i cx hn
    cases h0
    have hck := jv_ckn_ok hn
    simp only [jv_ckn1, Bool.and_eq_true, decide_eq_true_eq] at hck
    obtain ⟨hcx, hw⟩ := hck
    have hKn := hK.1.1 cx _ (jv_cls_ok cx hcx)
    have hi := jv_inst_ok cx hcx
    have hsz := hR.1
    have hc1 : cells + 1 ≤ R.cells := by
      have : (h.2.1 + 1) - h.2.1 = 1 := by omega
      have h9 : cells + ((h.2.1 + 1) - h.2.1) ≤ R.cells := hc
      omega
    have hs1 : slots + jv_fn cx ≤ R.slots := by
      have h9 : slots + ((h.2.2 + jv_fn cx) - h.2.2) ≤ R.slots := hs
      omega
    refine W.newcK (n := jv_fn cx) hx hb hown (hts _ (jv_in_ok hw)) (hts _ (jv_in_ok hi.1)) (hts _ (jv_in_ok hi.2)) rfl hdg hc1 hs1 hKn.2.1 rfl fun H1 kC hkC e1 z1 o1 => ?_
    have hadr : jv_ad G h.2.1 = H.size := by rw [hsz]; exact jv_ad_lt (Nat.lt_of_lt_of_le (Nat.lt_succ_self _) hm)
    have kk := k H1 locs (cells + 1) (slots + jv_fn cx) (by show cells + 1 = cells + ((h.2.1 + 1) - h.2.1); omega) (by show slots + jv_fn cx = slots + ((h.2.2 + jv_fn cx) - h.2.2); omega) (hR.add hm z1 o1 ?_) (jv_grow hS z1 o1)
    · have kk2 : W p l e R s m args below meth c H1 locs (cells + 1) (slots + jv_fn cx) Q (F0 m (pc + 3) ls (.ref (jv_ad G h.2.1) :: st.map (jv_vl (jv_ad G)))) := kk
      rw [hadr] at kk2
      exact kk2
    · rw [← hsz]
      refine ⟨_, jv_cls_ok cx hcx, (u_born (jv_fty cx) hts (jv_ws_in cx hcx) hKn hkC e1 (jv_ty_ok cx hcx)).to ?_⟩
      intro j hj
      simp [vp_V, List.getD_eq_getElem?_getD, show j < jv_fn cx from hj, jv_vl_default]
  · cases h0
set_option maxHeartbeats 8000000 in
set_option maxRecDepth 100000 in
theorem jv_h_newarray {ow : Nat} {ini : Bool} {h h' : jv_H} (X : jv_Cx p s m args meth c cc ow ini D dA G adV L xs h H locs) {t : ArrayType} {len : Nat} {st st' : List Value} (hdg : decode cc pc = .ok (.newarray t, len)) (hl : jv_sw (.newarray t) = true ∨ len = jv_len (.newarray t)) (h0 : jv_heap ow ini (.newarray t) st h = some (st', h')) (hm : h'.2.1 ≤ 1000000) (hc : cells + (h'.2.1 - h.2.1) ≤ R.cells) (hs : slots + (h'.2.2 - h.2.2) ≤ R.slots)
    (k : ∀ (H' : Heap) (locs' : List Loc) (cells' slots' : Nat), cells' = cells + (h'.2.1 - h.2.1) → slots' = slots + (h'.2.2 - h.2.2) → jv_Rep D dA G L xs h' H' → va_S (fun q => G.1 ≤ q) s.heap H' locs' → W p l e R s m args below meth c H' locs' cells' slots' Q (F0 m (pc + len) ls (st'.map (jv_vl (jv_ad G))))) :
    W p l e R s m args below meth c H locs cells slots Q (F0 m pc ls (st.map (jv_vl (jv_ad G)))) := by
  obtain ⟨hx, hb, hown, hts, hK, hR, hS, hini⟩ := X
  unfold jv_heap at h0
  dsimp only at h0
  have e := jv_len1 hl rfl; subst e
  split at h0
  · rename_i n r
    split at h0
    · rename_i hn
      obtain ⟨hn0, hn1⟩ := hn
      have hsz := hR.1
      split at h0
      · cases h0
        have hc1 : cells + 1 ≤ R.cells := by
          have h9 : cells + ((h.2.1 + 1) - h.2.1) ≤ R.cells := hc
          omega
        have hs1 : slots + n.toNatClampNeg ≤ R.slots := by
          have h9 : slots + ((h.2.2 + n.toNatClampNeg) - h.2.2) ≤ R.slots := hs
          omega
        refine va_newaK hx hb (hts _ (jv_in_ok jv_arrI)) rfl hdg rfl hn0 rfl (by show n.toNatClampNeg * 4 ≤ 536870912; omega) hc1 hs1 rfl fun H1 cA e1 z1 o1 hAr hNm => ?_
        have hadr : jv_ad G h.2.1 = H.size := by rw [hsz]; exact jv_ad_lt (Nat.lt_of_lt_of_le (Nat.lt_succ_self _) hm)
        have hcA : cA = dA 0 := Option.some.inj (hNm.symm.trans (hK.1.2 0 _ rfl).2)
        subst hcA
        have kk := k H1 locs (cells + 1) (slots + n.toNatClampNeg) (by show cells + 1 = cells + ((h.2.1 + 1) - h.2.1); omega) (by show slots + n.toNatClampNeg = slots + ((h.2.2 + n.toNatClampNeg) - h.2.2); omega) (hR.add hm z1 o1 (by rw [← hsz]; exact e1)) (jv_grow hS z1 o1)
        have kk2 : W p l e R s m args below meth c H1 locs (cells + 1) (slots + n.toNatClampNeg) Q (F0 m (pc + 2) ls (.ref (jv_ad G h.2.1) :: r.map (jv_vl (jv_ad G)))) := kk
        rw [hadr] at kk2
        exact kk2
      · cases h0
        have hc1 : cells + 1 ≤ R.cells := by
          have h9 : cells + ((h.2.1 + 1) - h.2.1) ≤ R.cells := hc
          omega
        have hs1 : slots + n.toNatClampNeg ≤ R.slots := by
          have h9 : slots + ((h.2.2 + n.toNatClampNeg) - h.2.2) ≤ R.slots := hs
          omega
        refine va_newaK hx hb (hts _ (jv_in_ok jv_arrZ)) rfl hdg rfl hn0 rfl (by show n.toNatClampNeg * 1 ≤ 536870912; omega) hc1 hs1 rfl fun H1 cA e1 z1 o1 hAr hNm => ?_
        have hadr : jv_ad G h.2.1 = H.size := by rw [hsz]; exact jv_ad_lt (Nat.lt_of_lt_of_le (Nat.lt_succ_self _) hm)
        have hcA : cA = dA 1 := Option.some.inj (hNm.symm.trans (hK.1.2 1 _ rfl).2)
        subst hcA
        have kk := k H1 locs (cells + 1) (slots + n.toNatClampNeg) (by show cells + 1 = cells + ((h.2.1 + 1) - h.2.1); omega) (by show slots + n.toNatClampNeg = slots + ((h.2.2 + n.toNatClampNeg) - h.2.2); omega) (hR.add hm z1 o1 (by rw [← hsz]; exact e1)) (jv_grow hS z1 o1)
        have kk2 : W p l e R s m args below meth c H1 locs (cells + 1) (slots + n.toNatClampNeg) Q (F0 m (pc + 2) ls (.ref (jv_ad G h.2.1) :: r.map (jv_vl (jv_ad G)))) := kk
        rw [hadr] at kk2
        exact kk2
      · cases h0
    · cases h0
  · cases h0
set_option maxHeartbeats 8000000 in
set_option maxRecDepth 100000 in
theorem jv_h_anewarray {ow : Nat} {ini : Bool} {h h' : jv_H} (X : jv_Cx p s m args meth c cc ow ini D dA G adV L xs h H locs) {idx : Nat} {len : Nat} {st st' : List Value} (hdg : decode cc pc = .ok (.anewarray idx, len)) (hl : jv_sw (.anewarray idx) = true ∨ len = jv_len (.anewarray idx)) (h0 : jv_heap ow ini (.anewarray idx) st h = some (st', h')) (hm : h'.2.1 ≤ 1000000) (hc : cells + (h'.2.1 - h.2.1) ≤ R.cells) (hs : slots + (h'.2.2 - h.2.2) ≤ R.slots)
    (k : ∀ (H' : Heap) (locs' : List Loc) (cells' slots' : Nat), cells' = cells + (h'.2.1 - h.2.1) → slots' = slots + (h'.2.2 - h.2.2) → jv_Rep D dA G L xs h' H' → va_S (fun q => G.1 ≤ q) s.heap H' locs' → W p l e R s m args below meth c H' locs' cells' slots' Q (F0 m (pc + len) ls (st'.map (jv_vl (jv_ad G))))) :
    W p l e R s m args below meth c H locs cells slots Q (F0 m pc ls (st.map (jv_vl (jv_ad G)))) := by
  obtain ⟨hx, hb, hown, hts, hK, hR, hS, hini⟩ := X
  unfold jv_heap at h0
  dsimp only at h0
  have e := jv_len1 hl rfl; subst e
  split at h0
  · rename_i n r
    split at h0
    · rename_i hn
      obtain ⟨hn0, hn1⟩ := hn
      have hsz := hR.1
      split at h0
      · rename_i cx hnw
        have hck := jv_ckn_ok hnw
        simp only [jv_ckn1, Bool.and_eq_true, decide_eq_true_eq] at hck
        obtain ⟨hcx, hw⟩ := hck
        have key : ∀ (t0 : Nat) (C : String), jv_own cx = C → (jv_tys dA)[t0]? = some (dA t0, .object C) → (Cond.arrayOver (.object C)).before args s = true → some (.ref h.2.1 :: r, jv_add h (.inr (.inl (t0, n.toNatClampNeg, fun _ => none))) n.toNatClampNeg) = some (st', h') → W p l e R s m args below meth c H locs cells slots Q (F0 m pc ls (.int n :: r.map (jv_vl (jv_ad G)))) := by
          intro t0 C hC ht hover h0
          subst hC
          cases h0
          have hc1 : cells + 1 ≤ R.cells := by
            have h9 : cells + ((h.2.1 + 1) - h.2.1) ≤ R.cells := hc
            omega
          have hs1 : slots + n.toNatClampNeg ≤ R.slots := by
            have h9 : slots + ((h.2.2 + n.toNatClampNeg) - h.2.2) ≤ R.slots := hs
            omega
          refine W.anew hx hb hown (hts _ (jv_in_ok hw)) hover rfl hdg rfl hn0 (by omega) hc1 hs1 fun cA kA comp f1 f2 f3 f4 => ?_
          generalize hH1 : H.push ({ cls := cA, slots := Array.replicate n.toNatClampNeg .null, vm := .none } : Cell) = H1
          have z1 : H1.size = H.size + 1 := by rw [← hH1, Array.size_push]
          have e1 : H1[H.size]? = some (arrV cA n.toNatClampNeg (fun _ => .null)) := by rw [← hH1, Array.getElem?_push_size, ← arrV_new]
          have o1 : ∀ q : Nat, q < H.size → H1[q]? = H[q]? := fun q hq => by rw [← hH1, Array.getElem?_push, if_neg (Nat.ne_of_lt hq)]
          have hadr : jv_ad G h.2.1 = H.size := by rw [hsz]; exact jv_ad_lt (Nat.lt_of_lt_of_le (Nat.lt_succ_self _) hm)
          obtain ⟨kA2, comp2, g1, g2, g3, g4⟩ := (hK.1.2 t0 _ ht).2
          have hcA : cA = dA t0 := Option.some.inj (f1.symm.trans g4)
          subst hcA
          have kk := k H1 locs (cells + 1) (slots + n.toNatClampNeg) (by show cells + 1 = cells + ((h.2.1 + 1) - h.2.1); omega) (by show slots + n.toNatClampNeg = slots + ((h.2.2 + n.toNatClampNeg) - h.2.2); omega) (hR.add hm z1 o1 (by rw [← hsz]; exact e1)) (jv_grow hS z1 o1)
          have kk2 : W p l e R s m args below meth c H1 locs (cells + 1) (slots + n.toNatClampNeg) Q (F0 m (pc + 3) ls (.ref (jv_ad G h.2.1) :: r.map (jv_vl (jv_ad G)))) := kk
          rw [hadr] at kk2
          exact kk2
        split at h0
        · rename_i h6
          subst h6
          exact key 2 _ rfl rfl (va_AO.use hK.2.2.2.2.2.2.1) h0
        · split at h0
          · rename_i h5
            subst h5
            exact key 3 _ rfl rfl (va_AO.use hK.2.2.2.2.2.2.2.1) h0
          · cases h0
      · cases h0
    · cases h0
  · cases h0
set_option maxHeartbeats 8000000 in
set_option maxRecDepth 100000 in
theorem jv_h_ldc {ow : Nat} {ini : Bool} {h h' : jv_H} (X : jv_Cx p s m args meth c cc ow ini D dA G adV L xs h H locs) {idx : Nat} {len : Nat} {st st' : List Value} (hdg : decode cc pc = .ok (.ldc idx, len)) (hl : jv_sw (.ldc idx) = true ∨ len = jv_len (.ldc idx)) (h0 : jv_heap ow ini (.ldc idx) st h = some (st', h')) (hm : h'.2.1 ≤ 1000000) (hc : cells + (h'.2.1 - h.2.1) ≤ R.cells) (hs : slots + (h'.2.2 - h.2.2) ≤ R.slots)
    (k : ∀ (H' : Heap) (locs' : List Loc) (cells' slots' : Nat), cells' = cells + (h'.2.1 - h.2.1) → slots' = slots + (h'.2.2 - h.2.2) → jv_Rep D dA G L xs h' H' → va_S (fun q => G.1 ≤ q) s.heap H' locs' → W p l e R s m args below meth c H' locs' cells' slots' Q (F0 m (pc + len) ls (st'.map (jv_vl (jv_ad G))))) :
    W p l e R s m args below meth c H locs cells slots Q (F0 m pc ls (st.map (jv_vl (jv_ad G)))) := by
  obtain ⟨hx, hb, hown, hts, hK, hR, hS, hini⟩ := X
  unfold jv_heap at h0
  dsimp only at h0
  have e := jv_len1 hl rfl; subst e
  split at h0
  · rename_i v hv
    cases h0
    have kk := k H locs cells slots (by omega) (by omega) hR hS
    have hck := jv_ckl_ok hv
    cases v with
    | int x => exact W.ldc hx hb hown (hts _ (jv_in_ok hck)) rfl hdg kk
    | ref a =>
      unfold jv_ckl1 at hck
      dsimp only at hck
      cases htx : jv_tix a with
      | none => rw [htx] at hck; cases hck
      | some ix =>
        rw [htx] at hck
        dsimp only at hck
        obtain ⟨hi20, rfl⟩ := jv_tix_eq htx
        cases hst : jv_str[ix]? with
        | none => rw [hst] at hck; cases hck
        | some q =>
          obtain ⟨own, idx2, tx⟩ := q
          rw [hst] at hck
          dsimp only at hck
          obtain ⟨h4, h5⟩ := of_decide_eq_true hck
          subst h4
          subst h5
          have hvk := hK.2.2.2.2.2.1 _ _ hst
          have kk2 : W p l e R s m args below meth c H locs cells slots Q (F0 m (pc + 2) ls (.ref (jv_ad G (1000001 + ix)) :: st.map (jv_vl (jv_ad G)))) := kk
          rw [jv_ad_txt] at kk2
          exact va_ldcS hx hb hown hvk hdg kk2
    | long x => cases hck
    | float x => cases hck
    | double x => cases hck
    | null => cases hck
    | retAddr x => cases hck
  · cases h0
set_option maxHeartbeats 8000000 in
theorem jv_heap_ok (hx : p.tables.exec = Jvm.exec) (hb : c.code = cc) {ow : Nat} {ini : Bool} (hown : s.vm.findClass (jv_own ow) = some m.cls) (hts : ∀ w ∈ jv_T, w.before args s = true) (hK : jv_Kn D dA G adV L xs s) {h h' : jv_H} (hR : jv_Rep D dA G L xs h H) (hS : va_S (fun q => G.1 ≤ q) s.heap H locs) (hini : ini = true → meth.name = "<init>")
    {i : Instr} {len : Nat} {st st' : List Value} (hdg : decode cc pc = .ok (i, len)) (hl : jv_sw i = true ∨ len = jv_len i) (h0 : jv_heap ow ini i st h = some (st', h')) (hm : h'.2.1 ≤ 1000000) (hc : cells + (h'.2.1 - h.2.1) ≤ R.cells) (hs : slots + (h'.2.2 - h.2.2) ≤ R.slots)
    (k : ∀ (H' : Heap) (locs' : List Loc) (cells' slots' : Nat), cells' = cells + (h'.2.1 - h.2.1) → slots' = slots + (h'.2.2 - h.2.2) → jv_Rep D dA G L xs h' H' → va_S (fun q => G.1 ≤ q) s.heap H' locs' → W p l e R s m args below meth c H' locs' cells' slots' Q (F0 m (pc + len) ls (st'.map (jv_vl (jv_ad G))))) :
    W p l e R s m args below meth c H locs cells slots Q (F0 m pc ls (st.map (jv_vl (jv_ad G)))) := by
  have X : jv_Cx p s m args meth c cc ow ini D dA G adV L xs h H locs := ⟨hx, hb, hown, hts, hK, hR, hS, hini⟩
  have h00 := h0
  unfold jv_heap at h0
  split at h0
  · exact jv_h_getfield X hdg hl h00 hm hc hs k
  · exact jv_h_putfield X hdg hl h00 hm hc hs k
  · exact jv_h_iaload X hdg hl h00 hm hc hs k
  · exact jv_h_baload X hdg hl h00 hm hc hs k
  · exact jv_h_aaload X hdg hl h00 hm hc hs k
  · exact jv_h_iastore X hdg hl h00 hm hc hs k
  · exact jv_h_bastore X hdg hl h00 hm hc hs k
  · exact jv_h_aastore X hdg hl h00 hm hc hs k
  · exact jv_h_arraylength X hdg hl h00 hm hc hs k
  · exact jv_h_new X hdg hl h00 hm hc hs k
  · exact jv_h_newarray X hdg hl h00 hm hc hs k
  · exact jv_h_anewarray X hdg hl h00 hm hc hs k
  · exact jv_h_ldc X hdg hl h00 hm hc hs k
  · cases h0
end JHQ
