/-! ROWS FOR BYTES: new ones, stores, copies -/
section JB
variable {y pc : Nat} {i : Instr} {len : Nat} {Lv : List (Option Value)} {st r : List Value} {h : jv_H} {K : jK}
theorem jx_newb {n : Int32} {k : Nat} (hy : y < 272) (hcode : jv_code y pc = some (.newarray .byte, 2)) (hn : n.toNatClampNeg = k ∧ ¬ n < 0 ∧ k ≤ 100000) (hg : jE y (pc + 2) Lv (.ref h.2.1 :: r) (jv_add h (.inl (4, k, fun _ => 0)) k) K) : jE y pc Lv (.int n :: r) h K := by
  obtain ⟨rfl, h1, h2⟩ := hn
  exact jx_heap hy hcode rfl rfl rfl rfl rfl rfl (if_pos ⟨h1, h2⟩) hg
theorem jx_bast {a n : Nat} {f : Nat → Int32} {x v : Int32} (hy : y < 272) (hcode : jv_code y pc = some (.bastore, 1)) (ha : a < h.2.1) (hc : h.1 a = .inl (4, n, f)) (hv : v.toInt8.toInt32 = v) (hx : ¬ (x < 0 ∨ n ≤ x.toNatClampNeg)) (hg : jE y (pc + 1) Lv r (jv_put h a (.inl (4, n, upd f x.toNatClampNeg v))) K) : jE y pc Lv (.int v :: .int x :: .ref a :: r) h K := by
  refine jx_heap hy hcode rfl rfl rfl rfl rfl rfl (st' := r) (h1 := jv_put h a (.inl (4, n, upd f x.toNatClampNeg v))) ?_ hg
  show (if a < h.2.1 then match h.1 a with
      | .inl (ty, n, f) => if (ty = 1 ∧ vp_nar .boolean v = v ∨ ty = 4 ∧ v.toInt8.toInt32 = v) ∧ ¬ (x < 0 ∨ n ≤ x.toNatClampNeg) then some (r, jv_put h a (.inl (ty, n, upd f x.toNatClampNeg v))) else none
      | _ => none else none) = _
  rw [if_pos ha, hc]
  exact if_pos ⟨Or.inr ⟨rfl, hv⟩, hx⟩
def jx_chkA (y pc : Nat) : Bool := match jv_code y pc, jv_inf y with
  | some (i, 3), some (o1, _, _, _, fr, lo) => match jv_isC i with
    | some (ck, idx) => decide (ck = 0 ∧ (jv_cal o1 idx).map (fun q => q.1) = some 904 ∧ 1 ≤ fr ∧ 40 ≤ lo)
    | none => false
  | _, _ => false
theorem jx_acpy {s d m k : Nat} {f g : Nat → Int32} {n dp sp : Int32} (hD : jx_chkA y pc = true) (hs : s < h.2.1 ∨ jv_old s = true) (hd : d < h.2.1) (hne : s ≠ d) (es : h.1 s = .inl (4, m, f)) (ed : h.1 d = .inl (4, k, g)) (h0 : ¬ n < 0 ∧ ¬ dp < 0 ∧ ¬ sp < 0) (h1 : sp.toNatClampNeg + n.toNatClampNeg ≤ m) (h2 : dp.toNatClampNeg + n.toNatClampNeg ≤ k) (hf : ∀ i, i < n.toNatClampNeg → fits .byte (.int (f (sp.toNatClampNeg + i))) = true) (hw : jv_wd r ≤ 8)
    (hg : jE y (pc + 3) Lv r (jv_put h d (.inl (4, k, va_cpy f g sp.toNatClampNeg dp.toNatClampNeg n.toNatClampNeg))) K) : jE y pc Lv (.int n :: .int dp :: .ref d :: .int sp :: .ref s :: r) h K := by
  unfold jx_chkA at hD
  split at hD
  · rename_i i o1 _ _ _ fr lo hcode hinf
    split at hD
    · rename_i ck idx hC
      obtain ⟨rfl, hcal, hfr, hlo⟩ := of_decide_eq_true hD
      cases hcal2 : jv_cal o1 idx with
      | none => rw [hcal2] at hcal; cases hcal
      | some q =>
        obtain ⟨z', na', ne⟩ := q
        rw [hcal2] at hcal
        cases hcal
        obtain ⟨r2, h', e, k9⟩ := hg
        refine ⟨r2, h', jv_ev_step (fun m => ?_) e, k9⟩
        have e2 : jv_acpy (.int n :: .int dp :: .ref d :: .int sp :: .ref s :: r) h = some (r, jv_put h d (.inl (4, k, va_cpy f g sp.toNatClampNeg dp.toNatClampNeg n.toNatClampNeg))) := by
          unfold jv_acpy
          simp only []
          rw [if_pos ⟨hs, hd, hne⟩, es, ed]
          exact if_pos ⟨h0, h1, h2, List.all_eq_true.mpr (fun i hi => hf i (List.mem_range.mp hi))⟩
        rw [jv_run]
        simp only [hinf, hcode, jv_ret_no (jv_isC_noR hC), hC, hcal2, e2]
        rw [if_neg (by decide), if_neg (by decide), if_pos trivial, if_pos ⟨trivial, hfr, hlo, hw⟩]
    · cases hD
  · cases hD
end JB
/-! A BUILDER -/
/-- letters -/
def jLt (w : List Int32) : Prop := ∀ c ∈ w, 0 ≤ c ∧ c < 128
/-- at q stands a builder of the letters w, in the row of m bytes at v -/
def jSB (h : jv_H) (q v m : Nat) (w : List Int32) : Prop := (q < h.2.1 ∧ v < h.2.1 ∧ q ≠ v) ∧ (∃ ml, h.1 q = .inr (.inr (9, [.ref v, .int 0, ml, .int (Int32.ofNat w.length)]))) ∧ (∃ g, h.1 v = .inl (4, m, g) ∧ (∀ j, j < w.length → g j = w.getD j 0) ∧ ∀ j, j < m → fits .byte (.int (g j)) = true) ∧ (w.length ≤ m ∧ w.length ≤ 4000 ∧ m ≤ 8002) ∧ jLt w
/-- what a builder's call leaves as it was -/
def jFr (h h' : jv_H) (q v : Nat) : Prop := ∀ b, b < h.2.1 ∨ h'.2.1 ≤ b → b ≠ q → b ≠ v → h'.1 b = h.1 b
theorem jFr.rf {h : jv_H} {q v : Nat} : jFr h h q v := fun _ _ _ _ => rfl
