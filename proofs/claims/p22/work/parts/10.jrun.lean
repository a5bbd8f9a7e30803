/-! THE J MACHINE IS RIGHT: methods, calls, by induction on the fuel -/
theorem jv_heap_mono {ow : Nat} {ini : Bool} {i : Instr} {st st' : List Value} {h h' : jv_H} (h0 : jv_heap ow ini i st h = some (st', h')) : h.2.1 ≤ h'.2.1 ∧ h.2.2 ≤ h'.2.2 := by
  unfold jv_heap at h0
  split at h0
  case h_2 =>
    obtain ⟨v, a, cx, kf, fs, rfl, hf, ha, he, hkl, hn, hfi, hfin, rfl⟩ := jv_set_eq h0
    exact ⟨Nat.le_refl _, Nat.le_refl _⟩
  all_goals (repeat' split at h0)
  all_goals first
    | (cases h0; done)
    | (cases h0; exact ⟨Nat.le_refl _, Nat.le_refl _⟩)
    | (cases h0; exact ⟨Nat.le_succ _, Nat.le_add_right _ _⟩)
theorem jv_step_mono {ow : Nat} {ini : Bool} {i : Instr} {len pc pc' : Nat} {L L' : List (Option Value)} {st st' : List Value} {h h' : jv_H} (h0 : jv_step ow ini i len pc L st h = some (pc', L', st', h')) : h.2.1 ≤ h'.2.1 ∧ h.2.2 ≤ h'.2.2 := by
  unfold jv_step at h0
  split at h0
  · cases h0; exact ⟨Nat.le_refl _, Nat.le_refl _⟩
  · split at h0
    · cases h0; exact ⟨Nat.le_refl _, Nat.le_refl _⟩
    · split at h0
      · cases h0; exact ⟨Nat.le_refl _, Nat.le_refl _⟩
      · split at h0
        · cases h0; exact ⟨Nat.le_refl _, Nat.le_refl _⟩
        · split at h0
          · rename_i hh
            cases h0; exact jv_heap_mono hh
          · cases h0
/-- the J machine's one step, what it can be -/
theorem jv_run_inv {n y pc : Nat} {L : List (Option Value)} {st : List Value} {h h' : jv_H} {r : Option Value} (h0 : jv_run (n + 1) y pc L st h = some (r, h')) :
    ∃ (ow kd na mL fr lo : Nat) (i : Instr) (len : Nat), jv_inf y = some (ow, kd, na, mL, fr, lo) ∧ jv_code y pc = some (i, len) ∧
      ((jv_ret (jv_ym y).2.2 i st = some r ∧ h' = h) ∨
       (∃ (pc' : Nat) (L' : List (Option Value)) (st' : List Value) (h1 : jv_H), jv_step ow (decide (kd = 2)) i len pc L st h = some (pc', L', st', h1) ∧ jv_run n y pc' L' st' h1 = some (r, h')) ∨
       (∃ (ck idx z na' ne : Nat), jv_isC i = some (ck, idx) ∧ jv_cal ow idx = some (z, na', ne) ∧
         ((z = 900 ∧ ∃ (a : Nat) (rst : List Value), st = .ref a :: rst ∧ ck = 2 ∧ 1 ≤ fr ∧ jv_wd rst + 12 ≤ lo ∧ jv_run n y (pc + 3) L rst h = some (r, h')) ∨
          (z = 901 ∧ ∃ st' : List Value, jv_strlen st = some st' ∧ ck = 1 ∧ 2 ≤ fr ∧ 40 ≤ lo ∧ jv_wd (st.drop 1) ≤ 8 ∧ jv_run n y (pc + 3) L st' h = some (r, h')) ∨
          (z = 902 ∧ ∃ st' : List Value, jv_strat st = some st' ∧ ck = 1 ∧ 6 ≤ fr ∧ 120 ≤ lo ∧ jv_wd (st.drop 2) ≤ 8 ∧ jv_run n y (pc + 3) L st' h = some (r, h')) ∨
          (z ≠ 900 ∧ z ≠ 901 ∧ z ≠ 902 ∧ ∃ (q : Nat × Nat × Nat × Nat × Nat × Nat) (r1 : Option Value) (h1 : jv_H), jv_inf z = some q ∧ jv_may ck fr lo q na' st h = true ∧
            jv_run n z 0 ((st.take na').reverse.map some ++ List.replicate (q.2.2.2.1 - na') none) [] h = some (r1, h1) ∧ jv_run n y (pc + 3) L (r1.toList ++ st.drop na') h1 = some (r, h'))))) := by
  unfold jv_run at h0
  split at h0
  · cases h0
  · rename_i ow kd na mL fr lo hinf
    split at h0
    · cases h0
    · rename_i i len hcode
      refine ⟨ow, kd, na, mL, fr, lo, i, len, hinf, hcode, ?_⟩
      split at h0
      · rename_i r0 hr
        cases h0
        exact Or.inl ⟨hr, rfl⟩
      · split at h0
        · split at h0
          · rename_i hs
            exact Or.inr (Or.inl ⟨_, _, _, _, hs, h0⟩)
          · cases h0
        · rename_i ck idx hc
          split at h0
          · cases h0
          · rename_i z na' ne hcal
            refine Or.inr (Or.inr ⟨ck, idx, z, na', ne, hc, hcal, ?_⟩)
            split at h0
            · rename_i hz
              split at h0
              · split at h0
                · rename_i hq
                  exact Or.inl ⟨hz, _, _, rfl, hq.1, hq.2.1, hq.2.2, h0⟩
                · cases h0
              · cases h0
            · rename_i hz0
              split at h0
              · rename_i hz
                split at h0
                · rename_i st' hst
                  split at h0
                  · rename_i hq
                    exact Or.inr (Or.inl ⟨hz, st', hst, hq.1, hq.2.1, hq.2.2.1, hq.2.2.2, h0⟩)
                  · cases h0
                · cases h0
              · rename_i hz1
                split at h0
                · rename_i hz
                  split at h0
                  · rename_i st' hst
                    split at h0
                    · rename_i hq
                      exact Or.inr (Or.inr (Or.inl ⟨hz, st', hst, hq.1, hq.2.1, hq.2.2.1, hq.2.2.2, h0⟩))
                    · cases h0
                  · cases h0
                · rename_i hz2
                  split at h0
                  · cases h0
                  · rename_i q hq
                    split at h0
                    · rename_i hmay
                      split at h0
                      · rename_i r1 h1 hrun
                        exact Or.inr (Or.inr (Or.inr ⟨hz0, hz1, hz2, q, r1, h1, hq, hmay, hrun, h0⟩))
                      · cases h0
                    · cases h0
theorem jv_run_mono : ∀ (n : Nat) {y pc : Nat} {L : List (Option Value)} {st : List Value} {h h' : jv_H} {r : Option Value}, jv_run n y pc L st h = some (r, h') → h.2.1 ≤ h'.2.1 ∧ h.2.2 ≤ h'.2.2
  | 0, _, _, _, _, _, _, _, h0 => by cases h0
  | n + 1, y, pc, L, st, h, h', r, h0 => by
    obtain ⟨ow, kd, na, mL, fr, lo, i, len, -, -, ⟨-, rfl⟩ | ⟨pc', L', st', h1, hs, hr⟩ | ⟨ck, idx, z, na', ne, -, -, hz⟩⟩ := jv_run_inv h0
    · exact ⟨Nat.le_refl _, Nat.le_refl _⟩
    · have a := jv_step_mono hs
      have b := jv_run_mono n hr
      omega
    · rcases hz with ⟨-, a, rst, -, -, -, -, hr⟩ | ⟨-, st', -, -, -, -, -, hr⟩ | ⟨-, st', -, -, -, -, -, hr⟩ | ⟨-, -, -, q, r1, h1, -, -, hr1, hr⟩
      · exact jv_run_mono n hr
      · exact jv_run_mono n hr
      · exact jv_run_mono n hr
      · have a := jv_run_mono n hr1
        have b := jv_run_mono n hr
        omega
def jv_Pc (D : va_G) (dA : Nat → ClassId) (G : jv_G) (adV : Nat → Nat) (L : Nat) (xs : Nat → Int32) (a : List Value) (h : jv_H) : Array Value → State → Prop := fun v U => v = (a.map (jv_vl (jv_ad G))).toArray ∧ jv_Rep D dA G L xs h U.heap ∧ jv_Kn D dA G adV L xs U
def jv_Qc (D : va_G) (dA : Nat → ClassId) (G : jv_G) (L : Nat) (xs : Nat → Int32) (r : Option Value) (h' : jv_H) : Array Value → State → Outcome → State → Prop := fun _ st o t => o = .returned (r.map (jv_vl (jv_ad G))) ∧ jv_Rep D dA G L xs h' t.heap ∧ va_F (fun q => G.1 ≤ q) st t
theorem jv_nests_warm {s U : State} (hW : s.WarmedH U.vm) : ∀ w ∈ jv_nests, va_Nw w s → va_Nw w U := by
  intro w hw h
  simp only [jv_nests, List.mem_cons, List.not_mem_nil, or_false] at hw
  rcases hw with rfl | rfl | rfl | rfl | rfl <;> exact va_Nw.warmM hW h
theorem jv_nests_same {u U : State} (hv : u.vm = U.vm) : ∀ w ∈ jv_nests, va_Nw w u → va_Nw w U := by
  intro w hw h
  simp only [jv_nests, List.mem_cons, List.not_mem_nil, or_false] at hw
  rcases hw with rfl | rfl | rfl | rfl | rfl <;> exact va_Nw.same rfl hv h
theorem jv_Kn.same {D : va_G} {dA : Nat → ClassId} {G : jv_G} {adV : Nat → Nat} {L : Nat} {xs : Nat → Int32} {u U : State} (hv : U.vm = u.vm) (hh : U.heap = u.heap) (h : jv_Kn D dA G adV L xs u) : jv_Kn D dA G adV L xs U := by
  obtain ⟨h1, h2, h3, h4, h5, h6, k1, k2, k3, k4, v, hv0, k5⟩ := h
  have ha : u.vm.Alike U.vm := by rw [hv]; exact Vm.Alike.refl u.vm
  refine ⟨va_K.moved ha h1, ?_, h3, by rw [hh]; exact h4, ?_, fun i q hq => vk_R.same hv (h6 i q hq), k1.moved ha, k2.moved ha, fun w hw => jv_nests_same hv.symm w hw (k3 w hw), ?_, v, hv0, ?_⟩
  · rw [hh]; exact va_X.moved ha h2
  · rw [hh]; exact vk_S.moved ha h5
  · rw [hh]; exact va_Z.moved ha k4
  · rw [hh]; exact va_Z.moved ha k5
theorem jv_Kn.next {D : va_G} {dA : Nat → ClassId} {G : jv_G} {adV : Nat → Nat} {L : Nat} {xs : Nat → Int32} {s U : State} {locs : List Loc} (h : jv_Kn D dA G adV L xs s) (hS : va_S (fun q => G.1 ≤ q) s.heap U.heap locs) (hW : s.WarmedH U.vm) : jv_Kn D dA G adV L xs U := by
  obtain ⟨h1, h2, h3, h4, h5, h6, k1, k2, k3, k4, v, hv0, k5⟩ := h
  exact ⟨va_K.moved hW.alike h1, (h2.kept (hS.2.1 G.2.1 (Nat.lt_of_lt_of_le h3 h4) (Nat.not_le.mpr h3))).moved hW.alike, h3, Nat.le_trans h4 hS.1, (h5.kept hS.2.1).moved hW.alike, fun i q hq => vk_R.warm hW (h6 i q hq), k1.moved hW.alike, k2.moved hW.alike, fun w hw => jv_nests_warm hW w hw (k3 w hw), (k4.kept hS.2.1).moved hW.alike, v, hv0, (k5.kept hS.2.1).moved hW.alike⟩
theorem jv_blind {D : va_G} {dA : Nat → ClassId} {G : jv_G} {adV : Nat → Nat} {L : Nat} {xs : Nat → Int32} {a : List Value} {h : jv_H} : FrameBlind (jv_Pc D dA G adV L xs a h) := by
  intro v U g mk hp
  exact ⟨hp.1, hp.2.1, jv_Kn.same (u := U) (U := U.calling g mk v) rfl rfl hp.2.2⟩
theorem jv_wd_map (ad : Nat → Nat) (st : List Value) : ((st.map (jv_vl ad)).map fun v => v.category).sum = jv_wd st := by
  unfold jv_wd
  rw [List.map_map]
  congr 1
  apply List.map_congr_left
  intro v _
  exact jv_vl_cat ad v
theorem jv_wd_one : ∀ (u : List Value), jv_wd u = u.length → ∀ v ∈ u, v.category = 1
  | [], _, v, hv => by cases hv
  | w :: u, h, v, hv => by
    have hge : ∀ u : List Value, u.length ≤ jv_wd u := by
      intro u
      induction u with
      | nil => exact Nat.le_refl _
      | cons x t ih =>
        have h2 : jv_wd (x :: t) = x.category + jv_wd t := by simp [jv_wd]
        rcases lv_cat x with h3 | h3 <;> simp only [List.length_cons] <;> omega
    have h1 : jv_wd (w :: u) = w.category + jv_wd u := by simp [jv_wd]
    have h2 := hge u
    simp only [List.length_cons] at h
    rcases lv_cat w with h3 | h3
    · rcases List.mem_cons.mp hv with rfl | hv
      · exact h3
      · exact jv_wd_one u (by omega) v hv
    · omega
theorem jv_sl : ∀ (vs : List Value), (∀ v ∈ vs, v.category = 1) → lg_sl vs = vs.map Slot.val
  | [], _ => rfl
  | v :: vs, h => by
    have h1 : ¬ v.category = 2 := by rw [h v List.mem_cons_self]; decide
    have h2 := jv_sl vs (fun w hw => h w (List.mem_cons_of_mem _ hw))
    unfold lg_sl at h2 ⊢
    rw [List.flatMap_cons, h2, if_neg h1]
    rfl
theorem jv_args_mem : ∀ (vs : List Value) (k i : Nat) (v : Value), (∀ w ∈ vs, w.category = 1) → vs[i]? = some v → (k + i, v) ∈ lv_args k vs
  | [], k, i, v, _, h => by simp at h
  | w :: vs, k, i, v, hc, h => by
    have h1 : ¬ w.category = 2 := by rw [hc w List.mem_cons_self]; decide
    unfold lv_args
    rw [if_neg h1]
    cases i with
    | zero =>
      rw [List.getElem?_cons_zero] at h
      cases h
      exact List.mem_cons_self
    | succ i =>
      rw [List.getElem?_cons_succ] at h
      have h2 := jv_args_mem vs (k + 1) i v (fun x hx => hc x (List.mem_cons_of_mem _ hx)) h
      rw [show k + (i + 1) = k + 1 + i by omega]
      exact List.mem_cons_of_mem _ h2
/-- a method's first locals -/
theorem jv_entry (ad : Nat → Nat) (a : List Value) (mL : Nat) (hc : ∀ v ∈ a, v.category = 1) (hn : a.length ≤ mL) : jv_Lc ad ((lg_sl (a.map (jv_vl ad)) ++ List.replicate (mL - (lg_sl (a.map (jv_vl ad))).length) Slot.unset).toArray) mL (a.map some ++ List.replicate (mL - a.length) none) := by
  have hc2 : ∀ v ∈ a.map (jv_vl ad), v.category = 1 := by
    intro v hv
    obtain ⟨w, hw, rfl⟩ := List.mem_map.mp hv
    rw [jv_vl_cat]
    exact hc w hw
  have hsl := jv_sl _ hc2
  have hlen : (lg_sl (a.map (jv_vl ad))).length = a.length := by rw [hsl]; simp
  have hE := lv_entry (a.map (jv_vl ad)) (n := mL) (by omega)
  refine ⟨hE.1, by simp; omega, hE.2.1, fun i v hv => ?_⟩
  have hi : a[i]? = some v := by
    by_cases hlt : i < a.length
    · rw [List.getElem?_append_left (by simpa using hlt), List.getElem?_map] at hv
      cases ha : a[i]? with
      | none => rw [ha] at hv; cases hv
      | some w => rw [ha] at hv; cases hv; rfl
    · rw [List.getElem?_append_right (by simp; omega)] at hv
      have h3 := List.mem_of_getElem? hv
      have h4 := List.eq_of_mem_replicate h3
      cases h4
  have h5 := jv_args_mem (a.map (jv_vl ad)) 0 i (jv_vl ad v) hc2 (by rw [List.getElem?_map, hi]; rfl)
  rw [Nat.zero_add] at h5
  exact hE.2.2 (i, jv_vl ad v) h5
