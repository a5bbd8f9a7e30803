/-! THE LAW'S SETUP: the text of the SeatSwap's setup -/
theorem xH.same2 {B : Nat} {σ : gS} {H H' : jv_H} (hx : xH B σ H) (e : ∀ a, (B ≤ a ∧ a < B + 323) ∨ 1000000 ≤ a → H'.1 a = H.1 a) (hl : B + 323 ≤ H'.2.1) (hm : H'.2.1 ≤ 1000000) : xH B σ H' := by
  obtain ⟨hB, h, hr, hd, hS⟩ := hx
  have h323 : h.2.1 = 323 := hr.1
  refine ⟨hl, h, hr, hd, ?_, ⟨by rw [h323]; omega, fun a ha => ?_, hS.2.1.2.2⟩, hm⟩
  · intro a ha
    rcases hS.1 a ha with q | q
    · left
      rw [e]
      · exact q
      · unfold jm_p
        rcases ha with h1 | h1 | h1
        · rw [if_pos (by omega)]
          left
          constructor
          · show B ≤ a + B
            omega
          · show a + B < B + 323
            omega
        · rw [if_neg (by omega)]
          right
          omega
        · have := jv_old_eq h1
          rw [if_neg (by omega)]
          right
          omega
    · exact Or.inr q
  · show a + B < H'.2.1
    omega
section S191
variable {y pc B n n' c s b q : Nat} {ρ ρ' : gS} {h0 h : jv_H} {w : List Int32} {Lv : List (Option Value)} {st r : List Value} {K : jK}
theorem XP.same2 {H' : jv_H} (hx : XP B n ρ h) (e : ∀ a, (B ≤ a ∧ a < B + 323) ∨ 1000000 ≤ a → H'.1 a = h.1 a) (hl : B + 323 ≤ H'.2.1) (hm : H'.2.1 ≤ 1000000) : XP B n ρ H' := by
  obtain ⟨h1, σ, h2, h3, h4⟩ := hx
  exact ⟨h1, σ, h2.same2 e hl hm, h3, h4⟩
/-- a class call, all beside unchanged -/
theorem xp_call {z na mL : Nat} {v : Value} {L : gL} (is : List Int32) (hD : jx_chk y pc z na mL 1 7 = true) (hx : XP B n ρ h) (hr : XRV z L n ρ v n' ρ') (hn : n' ≤ 9000) (hL : L = some (.ref 0) :: ((is.map Value.int).reverse.map some ++ List.replicate (mL - na) none)) (hna : na = is.length + 1) (hv : ∀ f, jm_v f v = v) (hw1 : jv_wd r ≤ 8)
    (hg : ∀ h', XP B n' ρ' h' → h'.2 = h.2 → (∀ a, a < B ∨ B + 323 ≤ a → h'.1 a = h.1 a) → jE y (pc + 3) Lv (v :: r) h' K) : jE y pc Lv (is.map Value.int ++ .ref B :: r) h K := by
  obtain ⟨x1, σ, x2, x3, x4⟩ := hx
  have hw2 : jv_wd (is.map Value.int ++ [Value.ref B]) = na := by
    rw [hna]
    unfold jv_wd
    rw [List.map_append, List.sum_append, List.map_map]
    have e : (is.map ((fun v : Value => v.category) ∘ Value.int)).sum = is.length := by
      clear hL hna hg
      induction is with
      | nil => rfl
      | cons a t ih =>
        show 1 + (t.map _).sum = t.length + 1
        rw [ih, Nat.add_comm]
    rw [e]
    rfl
  have hg1 := hr x1 σ x3 x4
  rw [hL] at hg1
  refine jx_x (as := is.map Value.int) hD x2 (by rw [List.length_map]; exact hna) hw1 hw2 hg1 (fun w hw => ?_) (fun r0 σ' h' hk x5 xf => ?_)
  · obtain ⟨i, -, e⟩ := List.mem_map.mp hw
    exact ⟨i, e.symm⟩
  · obtain ⟨rfl, τ, t1, t2, t3⟩ := hk
    have e : ((some v : Option Value).map (jm_v (fun a => a + B))).toList ++ r = v :: r := by
      show [jm_v _ v] ++ r = _
      rw [hv]
      rfl
    rw [e]
    exact hg h' ⟨hn, τ, x5.ph t1, t2, t3⟩ xf.1 xf.2
/-- a builder beside a SeatSwap -/
def BX (B n : Nat) (ρ : gS) (c s : Nat) (h0 h : jv_H) (q : Nat) (w : List Int32) (b : Nat) : Prop := XP B n ρ h ∧ ∃ h1, h1.2 = h0.2 ∧ (∀ a, a < B ∨ B + 323 ≤ a → h1.1 a = h0.1 a) ∧ BS [] c s h1 h q w b ∧ B + 323 ≤ h0.2.1
theorem BX.cls {h' : jv_H} (hx : BX B n ρ c s h0 h q w b) (x : XP B n' ρ' h') (e2 : h'.2 = h.2) (e1 : ∀ a, a < B ∨ B + 323 ≤ a → h'.1 a = h.1 a) : BX B n' ρ' c s h0 h' q w b := by
  obtain ⟨-, h1, y2, y1, hs, hB⟩ := hx
  obtain ⟨v, m, s1, s2, s3, s4, s5, s6, s7, s8⟩ := hs
  have z0 : h1.2.1 = h0.2.1 := by rw [y2]
  obtain ⟨⟨q1, q2, q3⟩, ⟨ml, f1⟩, ⟨g, f2, f3⟩, l, hl⟩ := s1
  refine ⟨x, (fun a => if B ≤ a ∧ a < B + 323 then h'.1 a else h1.1 a, h1.2), y2, fun a ha => ?_, ⟨v, m, ⟨⟨by rw [e2]; exact q1, by rw [e2]; exact q2, q3⟩, ⟨ml, ?_⟩, ⟨g, ?_, f3⟩, l, hl⟩, s2, s3, fun a ha => ?_, fun x hx => (by cases hx), by rw [e2]; exact s6, fun a ha => ?_, s8⟩, hB⟩
  · show (if B ≤ a ∧ a < B + 323 then h'.1 a else h1.1 a) = _
    rw [if_neg (by omega)]
    exact y1 a ha
  · rw [e1 q (by omega)]
    exact f1
  · rw [e1 v (by omega)]
    exact f2
  · show h'.1 a = (if B ≤ a ∧ a < B + 323 then h'.1 a else h1.1 a)
    by_cases z : B ≤ a ∧ a < B + 323
    · rw [if_pos z]
    · rw [if_neg z, e1 a (by omega)]
      exact s4 a ha
  · have := jv_old_eq ha
    show (if B ≤ a ∧ a < B + 323 then h'.1 a else h1.1 a) = _
    by_cases z : B ≤ a ∧ a < B + 323
    · have := x.lt
      have q9 := x.2
      obtain ⟨σ, hh, -⟩ := q9
      obtain ⟨g1, g2, g3, g4, hS⟩ := hh
      have := hS.2.2
      omega
    · rw [if_neg z]
      exact s7 a ha
theorem bxx_ac {x : Int32} (hD : jx_chk y pc 161 2 2 1 9 = true) (hx : BX B n ρ c s h0 h q w b) (hi : 0 ≤ x ∧ x < 128) (hb : b + 1 ≤ 4000) (hw1 : jv_wd r ≤ 8) (hg : ∀ h', BX B n ρ c s h0 h' q (w ++ [x]) (b + 1) → jE y (pc + 3) Lv (.ref q :: r) h' K) : jE y pc Lv (.int x :: .ref q :: r) h K := by
  obtain ⟨x1, h1, y2, y1, hs, hB⟩ := hx
  have z0 : h1.2.1 = h0.2.1 := by rw [y2]
  refine bx_ac hD hs hi hb hw1 (fun h' t => hg h' ⟨x1.same2 (fun a ha => ?_) ?_ ?_, h1, y2, y1, t, hB⟩)
  · have hb := hs.fix.2.1
    have hl := x1.lt
    obtain ⟨v, m, s1, s2, s3, s4, s5⟩ := hs
    obtain ⟨v', m', t1, t2, t3, t4, t5⟩ := t
    rw [t4 a (by omega), s4 a (by omega)]
  · obtain ⟨v', m', t1, t2, t3, t4, t5, t6, t7⟩ := t
    omega
  · have := t.fix.2.1
    omega
theorem i2c_7 {x : Int32} (hx : 0 ≤ x ∧ x < 128) : (x.toUInt32 % 65536).toInt32 = x := by
  have h : ∀ k, k < 128 → ((Int32.ofNat k).toUInt32 % 65536).toInt32 = Int32.ofNat k := by decide
  have := nat_lt (d := 128) hx (by decide)
  rw [← this.2]
  exact h _ this.1
theorem su_lp {u : List Int32} {N : Nat} (hN : u.length = N) (hN4 : N ≤ 3900) (hlt : jLt u) (hu : ∀ k, k < N → XR 146 [some (.ref 0), some (.int (iN k))] n ρ (u.getD k 0) n ρ) (T : ∀ (h1 : jv_H) (k : Int32), BX B n ρ c s h0 h1 q u N → jE 191 37 [some (.ref B), some (.ref q), some (.int (iN N)), some (.int k)] [] h1 K) :
    ∀ (d k : Nat) {h : jv_H}, k + d = N → BX B n ρ c s h0 h q (u.take k) k → jE 191 15 [some (.ref B), some (.ref q), some (.int (iN N)), some (.int (iN k))] [] h K := by
  intro d
  induction d with
  | zero =>
    intro k h hk hx
    have : k = N := by omega
    subst this
    refine jx_blk (by decide) [(.iload_n 3, 1), (.iload_n 2, 1)] (pc' := 17) (Lv' := [some (.ref B), some (.ref q), some (.int (iN k)), some (.int (iN k))]) (st' := [.int (iN k), .int (iN k)]) (by decide +kernel) rfl ?_
    refine jx_ic_ge (off := 20) (b := 37) (by decide) (by decide +kernel) (by decide) (fun _ => ?_) (fun e => absurd ((iN_lt (by omega) (by omega)).mp e) (Nat.lt_irrefl _))
    rw [← hN, List.take_length] at hx
    rw [hN] at hx
    exact T _ _ hx
  | succ d ih =>
    intro k h hk hx
    have hkN : k < N := by omega
    refine jx_blk (by decide) [(.iload_n 3, 1), (.iload_n 2, 1)] (pc' := 17) (Lv' := [some (.ref B), some (.ref q), some (.int (iN N)), some (.int (iN k))]) (st' := [.int (iN N), .int (iN k)]) (by decide +kernel) rfl ?_
    refine jx_ic_ge (off := 20) (b := 37) (by decide) (by decide +kernel) (by decide) (fun e => absurd ((iN_lt (by omega) (by omega)).mpr hkN) e) (fun _ => ?_)
    refine jx_blk (by decide) [(.aload_n 1, 1), (.aload_n 0, 1), (.iload_n 3, 1)] (pc' := 23) (Lv' := [some (.ref B), some (.ref q), some (.int (iN N)), some (.int (iN k))]) (st' := [.int (iN k), .ref B, .ref q]) (by decide +kernel) rfl ?_
    refine xp_call (z := 146) (na := 2) (mL := 2) (v := .int (u.getD k 0)) (ρ' := ρ) (r := [.ref q]) [iN k] (by decide +kernel) hx.1 (hu k hkN) hx.1.1 rfl rfl (fun _ => rfl) (Nat.le_of_ble_eq_true rfl) (fun h1 x1 e2 e1 => ?_)
    refine jx_blk (by decide) [(.i2c, 1)] (pc' := 27) (Lv' := [some (.ref B), some (.ref q), some (.int (iN N)), some (.int (iN k))]) (st' := [.int ((u.getD k 0).toUInt32 % 65536).toInt32, .ref q]) (by decide +kernel) rfl ?_
    rw [i2c_7 (hlt _ (getD_mem (by omega)))]
    refine bxx_ac (by decide +kernel) (hx.cls x1 e2 e1) (hlt _ (getD_mem (by omega))) (by omega) (Nat.le_of_ble_eq_true rfl) (fun h2 x2 => ?_)
    refine jx_blk (by decide) [(.pop, 1), (.iinc 3 1, 3)] (pc' := 34) (Lv' := [some (.ref B), some (.ref q), some (.int (iN N)), some (.int ((iN k) + 1))]) (st' := []) (by decide +kernel) rfl ?_
    refine jx_goto (off := (-19)) (b := 15) (by decide) (by decide +kernel) (by decide) ?_
    rw [iN_one]
    refine ih (k + 1) (by omega) ?_
    have et : u.take (k + 1) = u.take k ++ [u.getD k 0] := by
      rw [List.take_succ, List.getD_eq_getElem?_getD, List.getElem?_eq_getElem (by omega)]
      rfl
    rw [et]
    exact x2
end S191
