/-! THE LAW, WHOLE -/
section LTX
variable {B n c s b zz : Nat} {ρ : gS} {h0 h : jv_H} {K : jK} {f : Nat → Int32} {i : Int32} {o : Int64} {r5 r6 r7 r8 r9 r10 : Option Value}
theorem lw_end (hK : K (some (.int 1)) h) : jE 271 591 [some (.ref 1000000), some (.ref zz), some (.ref B), some (.int 1), some (.int 4), r5, r6, r7, r8, r9, r10] [] h K := by
  refine jx_blk (by decide) [(.iinc 4 2, 3)] (pc' := 594) (Lv' := [some (.ref 1000000), some (.ref zz), some (.ref B), some (.int 1), some (.int (4 + 2)), r5, r6, r7, r8, r9, r10]) (st' := []) (by decide +kernel) rfl ?_
  refine jx_goto (off := (-473)) (b := 121) (by decide) (by decide +kernel) (by decide) ?_
  refine jx_blk (by decide) [(.iload 4, 2), (.iconst 1, 1), (.iadd, 1), (.bipush 6, 2)] (pc' := 127) (Lv' := [some (.ref 1000000), some (.ref zz), some (.ref B), some (.int 1), some (.int (4 + 2)), r5, r6, r7, r8, r9, r10]) (st' := [.int 6, .int ((4 + 2) + 1)]) (by decide +kernel) rfl ?_
  refine jx_ic_ge (off := 470) (b := 597) (by decide) (by decide +kernel) (by decide) (fun _ => ?_) (fun e => absurd e (by decide))
  refine jx_blk (by decide) [(.iload_n 3, 1)] (pc' := 598) (Lv' := [some (.ref 1000000), some (.ref zz), some (.ref B), some (.int 1), some (.int (4 + 2)), r5, r6, r7, r8, r9, r10]) (st' := [.int 1]) (by decide +kernel) rfl ?_
  exact jx_iret .boolean (by decide) (by decide +kernel) (by decide +kernel) rfl hK
theorem suT_ok (q : RI ρ) (si : SI (ρ 324)) (sy : SY (ρ 324)) (rj : RJ (ρ 324)) : jLt (suT (ρ 324)) ∧ (suT (ρ 324)).length ≤ 3900 := by
  have l20 := q.n.2
  obtain ⟨-, -, -, ⟨l, u⟩, hF, hT, hN⟩ := q
  refine suT_b l20 ⟨Int32.le_trans (by decide) l, si.2.2.2.1⟩ (fun t ht => ?_)
  obtain ⟨t1, t0, t2⟩ := hT t ht
  obtain ⟨f3, f4, f5, f6⟩ := hF t ht
  exact ⟨t0.1, ⟨t2.1, f5.1⟩, f6.1, rj.1 t ht, Int32.le_trans (by decide) (sy t ht).1.1, f3, f4⟩
theorem jT.mv {B2 a m : Nat} {h' : jv_H} {g : Nat → Int32} (ht : jT B h a m g) (e : ∀ x, (x < h.2.1 ∨ 1000000 ≤ x) → (x < B ∨ B + 323 ≤ x) → h'.1 x = h.1 x) (hl : h.2.1 ≤ B2) (hB2 : B2 + 323 ≤ 1000000) (hB3 : B2 + 323 ≤ h'.2.1) : jT B2 h' a m g := by
  obtain ⟨⟨a1, a2⟩, v, tl, c1, ⟨v1, v2⟩, k, c2, c3⟩ := ht
  have q : ∀ {x}, (x < h.2.1 ∨ jv_old x = true) → (x < h.2.1 ∨ 1000000 ≤ x) ∧ (x < h'.2.1 ∨ jv_old x = true) ∧ (x < B2 ∨ B2 + 323 ≤ x) := by
    intro x hx
    rcases hx with z | z
    · exact ⟨Or.inl z, Or.inl (by omega), Or.inl (by omega)⟩
    · have := jv_old_eq z
      exact ⟨Or.inr (by omega), Or.inr z, Or.inr (by omega)⟩
  obtain ⟨x1, x2, x3⟩ := q a1
  obtain ⟨y1, y2, y3⟩ := q v1
  exact ⟨⟨x2, x3⟩, v, tl, (e a x1 a2).trans c1, ⟨y2, y3⟩, k, (e v y1 v2).trans c2, c3⟩
theorem sw_lp {a : Nat} (h3 : 0 ≤ ρ 324 3 ∧ ρ 324 3 ≤ 20) (T : ∀ (e : Int32) (h1 : jv_H), (e = 0 ∨ e = 1) → (e = 0 → ∀ j, j < nM (ρ 324) → fld (ρ 324) j 7 ≤ 99) → LX B n ρ [] c s h0 h1 → jE 271 494 [some (.ref 1000000), some (.ref zz), some (.ref B), some (.int 1), some (.int i), some (.long o), none, some (.int (iN (nM (ρ 324)))), some (.ref a), some (.int e), some (.int (iN (nM (ρ 324))))] [] h1 K) :
    ∀ (d t : Nat) (e : Int32) (h : jv_H), t + d = nM (ρ 324) → (e = 0 ∨ e = 1) → (e = 0 → ∀ j, j < t → fld (ρ 324) j 7 ≤ 99) → LX B n ρ [] c s h0 h → jE 271 456 [some (.ref 1000000), some (.ref zz), some (.ref B), some (.int 1), some (.int i), some (.long o), none, some (.int (iN (nM (ρ 324)))), some (.ref a), some (.int e), some (.int (iN t))] [] h K := by
  have l20 := (nM_of h3).2
  intro d
  induction d with
  | zero =>
    intro t e h ht he hf hx
    have e1 : t = nM (ρ 324) := by omega
    rw [e1] at hf ⊢
    refine jx_blk (by decide) [(.iload 10, 2), (.iload 7, 2)] (pc' := 460) (Lv' := [some (.ref 1000000), some (.ref zz), some (.ref B), some (.int 1), some (.int i), some (.long o), none, some (.int (iN (nM (ρ 324)))), some (.ref a), some (.int e), some (.int (iN (nM (ρ 324))))]) (st' := [.int (iN (nM (ρ 324))), .int (iN (nM (ρ 324)))]) (by decide +kernel) rfl ?_
    refine jx_ic_ge (off := 34) (b := 494) (by decide) (by decide +kernel) (by decide) (fun _ => T e h he hf hx) (fun z => ?_)
    have := (iN_lt (by omega) (by omega)).mp z
    omega
  | succ d ih =>
    intro t e h ht he hf hx
    have lt : iN t < iN (nM (ρ 324)) := (iN_lt (by omega) (by omega)).mpr (by omega)
    refine jx_blk (by decide) [(.iload 10, 2), (.iload 7, 2)] (pc' := 460) (Lv' := [some (.ref 1000000), some (.ref zz), some (.ref B), some (.int 1), some (.int i), some (.long o), none, some (.int (iN (nM (ρ 324)))), some (.ref a), some (.int e), some (.int (iN t))]) (st' := [.int (iN (nM (ρ 324))), .int (iN t)]) (by decide +kernel) rfl ?_
    refine jx_ic_ge (off := 34) (b := 494) (by decide) (by decide +kernel) (by decide) (fun z => absurd lt z) (fun _ => ?_)
    rcases he with rfl | rfl
    · refine jx_blk (by decide) [(.iload 9, 2)] (pc' := 465) (Lv' := [some (.ref 1000000), some (.ref zz), some (.ref B), some (.int 1), some (.int i), some (.long o), none, some (.int (iN (nM (ρ 324)))), some (.ref a), some (.int 0), some (.int (iN t))]) (st' := [.int 0]) (by decide +kernel) rfl ?_
      refine jx_if_ne (off := 16) (b := 481) (by decide) (by decide +kernel) (by decide) (fun e => absurd e (by decide)) (fun _ => ?_)
      refine jx_blk (by decide) [(.aload_n 2, 1), (.iload 10, 2), (.bipush 7, 2)] (pc' := 473) (Lv' := [some (.ref 1000000), some (.ref zz), some (.ref B), some (.int 1), some (.int i), some (.long o), none, some (.int (iN (nM (ρ 324)))), some (.ref a), some (.int 0), some (.int (iN t))]) (st' := [.int 7, .int (iN t), .ref B]) (by decide +kernel) rfl ?_
      refine lx_call (z := 124) (na := 3) (mL := 4) (v := .int (vO (ρ 324) (iN t) 7)) (ρ' := ρ) (r := []) [7, iN t] (by decide +kernel) hx xr_o7 hx.1.1 rfl rfl (fun _ => rfl) (Nat.le_of_ble_eq_true rfl) (fun h1 hx1 => ?_)
      rw [vO_i h3 (by omega) (by decide)]
      refine jx_blk (by decide) [(.bipush 99, 2)] (pc' := 478) (Lv' := [some (.ref 1000000), some (.ref zz), some (.ref B), some (.int 1), some (.int i), some (.long o), none, some (.int (iN (nM (ρ 324)))), some (.ref a), some (.int 0), some (.int (iN t))]) (st' := [.int 99, .int (fld (ρ 324) t 7)]) (by decide +kernel) rfl ?_
      refine jx_ic_le (off := 7) (b := 485) (by decide) (by decide +kernel) (by decide) (fun z => ?_) (fun _ => ?_)
      · refine jx_blk (by decide) [(.iconst 0, 1), (.istore 9, 2), (.iinc 10 1, 3)] (pc' := 491) (Lv' := [some (.ref 1000000), some (.ref zz), some (.ref B), some (.int 1), some (.int i), some (.long o), none, some (.int (iN (nM (ρ 324)))), some (.ref a), some (.int 0), some (.int ((iN t) + 1))]) (st' := []) (by decide +kernel) rfl ?_
        refine jx_goto (off := (-35)) (b := 456) (by decide) (by decide +kernel) (by decide) ?_
        rw [iN_one]
        refine ih (t + 1) 0 h1 (by omega) (Or.inl rfl) (fun _ j hj => ?_) hx1
        by_cases q : j = t
        · rw [q]
          exact Int32.not_lt.mp z
        · exact hf rfl j (by omega)
      · refine jx_blk (by decide) [(.iconst 1, 1)] (pc' := 482) (Lv' := [some (.ref 1000000), some (.ref zz), some (.ref B), some (.int 1), some (.int i), some (.long o), none, some (.int (iN (nM (ρ 324)))), some (.ref a), some (.int 0), some (.int (iN t))]) (st' := [.int 1]) (by decide +kernel) rfl ?_
        refine jx_goto (off := 4) (b := 486) (by decide) (by decide +kernel) (by decide) ?_
        refine jx_blk (by decide) [(.istore 9, 2), (.iinc 10 1, 3)] (pc' := 491) (Lv' := [some (.ref 1000000), some (.ref zz), some (.ref B), some (.int 1), some (.int i), some (.long o), none, some (.int (iN (nM (ρ 324)))), some (.ref a), some (.int 1), some (.int ((iN t) + 1))]) (st' := []) (by decide +kernel) rfl ?_
        refine jx_goto (off := (-35)) (b := 456) (by decide) (by decide +kernel) (by decide) ?_
        rw [iN_one]
        exact ih (t + 1) 1 h1 (by omega) (Or.inr rfl) (fun z => absurd z (by decide)) hx1
    · refine jx_blk (by decide) [(.iload 9, 2)] (pc' := 465) (Lv' := [some (.ref 1000000), some (.ref zz), some (.ref B), some (.int 1), some (.int i), some (.long o), none, some (.int (iN (nM (ρ 324)))), some (.ref a), some (.int 1), some (.int (iN t))]) (st' := [.int 1]) (by decide +kernel) rfl ?_
      refine jx_if_ne (off := 16) (b := 481) (by decide) (by decide +kernel) (by decide) (fun _ => ?_) (fun e => absurd e (by decide))
      refine jx_blk (by decide) [(.iconst 1, 1)] (pc' := 482) (Lv' := [some (.ref 1000000), some (.ref zz), some (.ref B), some (.int 1), some (.int i), some (.long o), none, some (.int (iN (nM (ρ 324)))), some (.ref a), some (.int 1), some (.int (iN t))]) (st' := [.int 1]) (by decide +kernel) rfl ?_
      refine jx_goto (off := 4) (b := 486) (by decide) (by decide +kernel) (by decide) ?_
      refine jx_blk (by decide) [(.istore 9, 2), (.iinc 10 1, 3)] (pc' := 491) (Lv' := [some (.ref 1000000), some (.ref zz), some (.ref B), some (.int 1), some (.int i), some (.long o), none, some (.int (iN (nM (ρ 324)))), some (.ref a), some (.int 1), some (.int ((iN t) + 1))]) (st' := []) (by decide +kernel) rfl ?_
      refine jx_goto (off := (-35)) (b := 456) (by decide) (by decide +kernel) (by decide) ?_
      rw [iN_one]
      exact ih (t + 1) 1 h (by omega) (Or.inr rfl) (fun z => absurd z (by decide)) hx
theorem wS_8 : wS 323 8 = 0 := by decide +kernel
set_option maxRecDepth 100000 in
theorem lw_494 {a : Nat} {e : Int32} {h1 h2 : jv_H} (hS : SQ (RWp b) ρ) (he : e = 0 ∨ e = 1) (hf : e = 0 → ∀ j, j < nM (ρ 324) → fld (ρ 324) j 7 ≤ 99) (hx : LX B n ρ [] (c + 400) (s + 6400) h1 h2) (tx : jT B h1 a (suT (ρ 324)).length (fun j => (suT (ρ 324)).getD j 0)) (hlt : jLt (suT (ρ 324))) (hlen : (suT (ρ 324)).length ≤ 990) (T : ∀ (r5 r6 r7 r8 r9 r10 : Option Value) (h' : jv_H), bud h' 0 0 → jE 271 591 [some (.ref 1000000), some (.ref zz), some (.ref B), some (.int 1), some (.int i), r5, r6, r7, r8, r9, r10] [] h' K) : jE 271 494 [some (.ref 1000000), some (.ref zz), some (.ref B), some (.int 1), some (.int i), some (.long o), none, some (.int (iN (nM (ρ 324)))), some (.ref a), some (.int e), some (.int (iN (nM (ρ 324))))] [] h2 K := by
  have inf := hx.inf
  obtain ⟨e3, l20⟩ := inf.n
  have si := hS.1.1.1.1
  have sy := hS.1.1.2.2
  have rj := hx.1.rj
  obtain ⟨m, F, e0, e1, hm, hFm⟩ := row_m inf si
  obtain ⟨hb1, hb2⟩ := hx.2.2.2.1
  obtain ⟨hB1, hl1, hfr⟩ := hx.2.2.2.2
  have hl2 := hx.1.lt
  refine jx_newx (idx := 18) (by decide) (by decide +kernel) (by decide +kernel) (by decide +kernel) (by decide +kernel) (fun q hq => hx.1.old hq) (by omega) (Nat.le_of_ble_eq_true rfl) (fun h3 x3 b1 b2 b3 => ?_)
  have y3 : LX h2.2.1 0 wS [] (c + 51) (s + 255) h3 h3 := LX.start x3 ⟨by omega, by omega⟩
  have tx3 := tx.mv (B2 := h2.2.1) (h' := h3) (fun x hx1 hx2 => by rw [b3 x (by omega), hfr x hx1 hx2]) hl1 (by omega) (by omega)
  rcases he with rfl | rfl
  · have tk := tok_of inf sy rj (hf rfl)
    have ok := txo_of e0 e1 hm hFm l20 si sy tk
    refine jx_blk (by decide) [(.astore 10, 2), (.iload 9, 2)] (pc' := 505) (Lv' := [some (.ref 1000000), some (.ref zz), some (.ref B), some (.int 1), some (.int i), some (.long o), none, some (.int (iN (nM (ρ 324)))), some (.ref a), some (.int 0), some (.ref h2.2.1)]) (st' := [.int 0]) (by decide +kernel) rfl ?_
    refine jx_if_ne (off := 86) (b := 591) (by decide) (by decide +kernel) (by decide) (fun e => absurd e (by decide)) (fun _ => ?_)
    refine jx_blk (by decide) [(.aload 10, 2), (.aload 8, 2)] (pc' := 512) (Lv' := [some (.ref 1000000), some (.ref zz), some (.ref B), some (.int 1), some (.int i), some (.long o), none, some (.int (iN (nM (ρ 324)))), some (.ref a), some (.int 0), some (.ref h2.2.1)]) (st' := [.ref a, .ref h2.2.1]) (by decide +kernel) rfl ?_
    refine lx_feeds (m := (suT (ρ 324)).length) (f := fun j => (suT (ρ 324)).getD j 0) (l := fun j => ((suT (ρ 324)).getD j 0).toNatClampNeg) (by decide +kernel) y3 (by omega) tx3 hlt.nat wS_8 (Nat.le_of_ble_eq_true rfl) (fun h4 τ fd hx4 => ?_)
    refine jx_if_eq (off := 74) (b := 589) (by decide) (by decide +kernel) (by decide) (fun e => absurd e (by decide)) (fun _ => ?_)
    refine jx_blk (by decide) [(.aload 10, 2)] (pc' := 520) (Lv' := [some (.ref 1000000), some (.ref zz), some (.ref B), some (.int 1), some (.int i), some (.long o), none, some (.int (iN (nM (ρ 324)))), some (.ref a), some (.int 0), some (.ref h2.2.1)]) (st' := [.ref h2.2.1]) (by decide +kernel) rfl ?_
    have ont := fd.on (by omega)
    rw [suT_txt e0 e1 hm.2 (by omega) tk] at ont
    refine lx_callE (z := 110) (na := 1) (mL := 3) (by decide +kernel) hx4 (xe_load ok ont) hx4.1.1 rfl rfl (fun _ => rfl) (Nat.le_of_ble_eq_true rfl) (fun h5 κ ld hx5 => ?_)
    obtain ⟨g1, g2, g3, g4⟩ := ld.tell e0 e1 e3 tk
    refine jx_blk (by decide) [(.iload 7, 2)] (pc' := 525) (Lv' := [some (.ref 1000000), some (.ref zz), some (.ref B), some (.int 1), some (.int i), some (.long o), none, some (.int (iN (nM (ρ 324)))), some (.ref a), some (.int 0), some (.ref h2.2.1)]) (st' := [.int (iN (nM (ρ 324))), .int (iN (tvL (ρ 324) (nM (ρ 324)) 0).length)]) (by decide +kernel) rfl ?_
    refine jx_ic_ne (off := 64) (b := 589) (by decide) (by decide +kernel) (by decide) (fun e => absurd (congrArg iN (tvL_len _ _ _)) e) (fun _ => ?_)
    refine jx_blk (by decide) [(.aload 10, 2)] (pc' := 530) (Lv' := [some (.ref 1000000), some (.ref zz), some (.ref B), some (.int 1), some (.int i), some (.long o), none, some (.int (iN (nM (ρ 324)))), some (.ref a), some (.int 0), some (.ref h2.2.1)]) (st' := [.ref h2.2.1]) (by decide +kernel) rfl ?_
    refine lx_call (z := 145) (na := 1) (mL := 1) (v := .int (iN (suT (κ 324)).length)) (ρ' := κ) (r := []) [] (by decide +kernel) hx5 xr_slen hx5.1.1 rfl rfl (fun _ => rfl) (Nat.le_of_ble_eq_true rfl) (fun h6 hx6 => ?_)
    refine jx_blk (by decide) [(.aload 8, 2)] (pc' := 535) (Lv' := [some (.ref 1000000), some (.ref zz), some (.ref B), some (.int 1), some (.int i), some (.long o), none, some (.int (iN (nM (ρ 324)))), some (.ref a), some (.int 0), some (.ref h2.2.1)]) (st' := [.ref a, .int (iN (suT (κ 324)).length)]) (by decide +kernel) rfl ?_
    refine lx_len (m := (suT (ρ 324)).length) (f := fun j => (suT (ρ 324)).getD j 0) (by decide +kernel) hx6 tx3 (Nat.le_of_ble_eq_true rfl) ?_
    refine jx_ic_ne (off := 51) (b := 589) (by decide) (by decide +kernel) (by decide) (fun e => absurd (by rw [g1]) e) (fun _ => ?_)
    refine jx_blk (by decide) [(.aload 10, 2), (.iconst 5, 1)] (pc' := 544) (Lv' := [some (.ref 1000000), some (.ref zz), some (.ref B), some (.int 1), some (.int i), some (.long o), none, some (.int (iN (nM (ρ 324)))), some (.ref a), some (.int 0), some (.ref h2.2.1)]) (st' := [.int 5, .ref h2.2.1]) (by decide +kernel) rfl ?_
    obtain ⟨b61, b62⟩ := hx6.2.2.2.1
    obtain ⟨-, f61, f62⟩ := hx6.2.2.2.2
    have xa6 : XP B n ρ h6 := hx.1.same2 (fun a ha => by rw [f62 a (by omega) (by omega), b3 a (by omega)]) (by omega) (by omega)
    refine xp_call (z := 123) (na := 2) (mL := 2) (v := .int (fJa (κ 324) + 10000)) (ρ' := κ) (r := []) [5] (by decide +kernel) hx6.1 xr_v5 (hx6.1).1 rfl rfl (fun _ => rfl) (Nat.le_of_ble_eq_true rfl) (fun h7 xb7 q7 p7 => ?_)
    rw [Prod.ext_iff] at q7
    have xa7 : XP B n ρ h7 := xa6.same2 (fun a ha => p7 a (by omega)) (by omega) (by omega)
    refine jx_blk (by decide) [(.aload_n 2, 1), (.iconst 5, 1)] (pc' := 549) (Lv' := [some (.ref 1000000), some (.ref zz), some (.ref B), some (.int 1), some (.int i), some (.long o), none, some (.int (iN (nM (ρ 324)))), some (.ref a), some (.int 0), some (.ref h2.2.1)]) (st' := [.int 5, .ref B, .int (fJa (κ 324) + 10000)]) (by decide +kernel) rfl ?_
    refine xp_call (z := 123) (na := 2) (mL := 2) (v := .int (fJa (ρ 324) + 10000)) (ρ' := ρ) (r := [.int (fJa (κ 324) + 10000)]) [5] (by decide +kernel) xa7 xr_v5 xa7.1 rfl rfl (fun _ => rfl) (Nat.le_of_ble_eq_true rfl) (fun h8 xa8 q8 p8 => ?_)
    rw [Prod.ext_iff] at q8
    have xb8 : XP h2.2.1 0 κ h8 := xb7.same2 (fun a ha => p8 a (by omega)) (by omega) (by omega)
    refine jx_ic_ne (off := 37) (b := 589) (by decide) (by decide +kernel) (by decide) (fun e => absurd (by rw [g2]) e) (fun _ => ?_)
    refine jx_blk (by decide) [(.aload 10, 2), (.bipush 7, 2)] (pc' := 559) (Lv' := [some (.ref 1000000), some (.ref zz), some (.ref B), some (.int 1), some (.int i), some (.long o), none, some (.int (iN (nM (ρ 324)))), some (.ref a), some (.int 0), some (.ref h2.2.1)]) (st' := [.int 7, .ref h2.2.1]) (by decide +kernel) rfl ?_
    refine xp_call (z := 123) (na := 2) (mL := 2) (v := .int (fSw (κ 324))) (ρ' := κ) (r := []) [7] (by decide +kernel) xb8 xr_v7 (xb8).1 rfl rfl (fun _ => rfl) (Nat.le_of_ble_eq_true rfl) (fun h9 xb9 q9 p9 => ?_)
    rw [Prod.ext_iff] at q9
    have xa9 : XP B n ρ h9 := xa8.same2 (fun a ha => p9 a (by omega)) (by omega) (by omega)
    refine jx_blk (by decide) [(.aload_n 2, 1), (.bipush 7, 2)] (pc' := 565) (Lv' := [some (.ref 1000000), some (.ref zz), some (.ref B), some (.int 1), some (.int i), some (.long o), none, some (.int (iN (nM (ρ 324)))), some (.ref a), some (.int 0), some (.ref h2.2.1)]) (st' := [.int 7, .ref B, .int (fSw (κ 324))]) (by decide +kernel) rfl ?_
    refine xp_call (z := 123) (na := 2) (mL := 2) (v := .int (fSw (ρ 324))) (ρ' := ρ) (r := [.int (fSw (κ 324))]) [7] (by decide +kernel) xa9 xr_v7 xa9.1 rfl rfl (fun _ => rfl) (Nat.le_of_ble_eq_true rfl) (fun h10 xa10 q10 p10 => ?_)
    rw [Prod.ext_iff] at q10
    have xb10 : XP h2.2.1 0 κ h10 := xb9.same2 (fun a ha => p10 a (by omega)) (by omega) (by omega)
    refine jx_ic_ne (off := 21) (b := 589) (by decide) (by decide +kernel) (by decide) (fun e => absurd g3 e) (fun _ => ?_)
    refine jx_blk (by decide) [(.aload 10, 2), (.iconst 1, 1)] (pc' := 574) (Lv' := [some (.ref 1000000), some (.ref zz), some (.ref B), some (.int 1), some (.int i), some (.long o), none, some (.int (iN (nM (ρ 324)))), some (.ref a), some (.int 0), some (.ref h2.2.1)]) (st' := [.int 1, .ref h2.2.1]) (by decide +kernel) rfl ?_
    refine xp_call (z := 123) (na := 2) (mL := 2) (v := .int (κ 324 1)) (ρ' := κ) (r := []) [1] (by decide +kernel) xb10 xr_v1 (xb10).1 rfl rfl (fun _ => rfl) (Nat.le_of_ble_eq_true rfl) (fun h11 xb11 q11 p11 => ?_)
    rw [Prod.ext_iff] at q11
    have xa11 : XP B n ρ h11 := xa10.same2 (fun a ha => p11 a (by omega)) (by omega) (by omega)
    refine jx_blk (by decide) [(.aload_n 2, 1), (.iconst 1, 1)] (pc' := 579) (Lv' := [some (.ref 1000000), some (.ref zz), some (.ref B), some (.int 1), some (.int i), some (.long o), none, some (.int (iN (nM (ρ 324)))), some (.ref a), some (.int 0), some (.ref h2.2.1)]) (st' := [.int 1, .ref B, .int (κ 324 1)]) (by decide +kernel) rfl ?_
    refine xp_call (z := 123) (na := 2) (mL := 2) (v := .int (ρ 324 1)) (ρ' := ρ) (r := [.int (κ 324 1)]) [1] (by decide +kernel) xa11 xr_v1 xa11.1 rfl rfl (fun _ => rfl) (Nat.le_of_ble_eq_true rfl) (fun h12 xa12 q12 p12 => ?_)
    rw [Prod.ext_iff] at q12
    have xb12 : XP h2.2.1 0 κ h12 := xb11.same2 (fun a ha => p12 a (by omega)) (by omega) (by omega)
    refine jx_ic_ne (off := 7) (b := 589) (by decide) (by decide +kernel) (by decide) (fun e => absurd g4 e) (fun _ => ?_)
    refine jx_blk (by decide) [(.iconst 1, 1)] (pc' := 586) (Lv' := [some (.ref 1000000), some (.ref zz), some (.ref B), some (.int 1), some (.int i), some (.long o), none, some (.int (iN (nM (ρ 324)))), some (.ref a), some (.int 0), some (.ref h2.2.1)]) (st' := [.int 1]) (by decide +kernel) rfl ?_
    refine jx_goto (off := 4) (b := 590) (by decide) (by decide +kernel) (by decide) ?_
    refine jx_blk (by decide) [(.istore_n 3, 1)] (pc' := 591) (Lv' := [some (.ref 1000000), some (.ref zz), some (.ref B), some (.int 1), some (.int i), some (.long o), none, some (.int (iN (nM (ρ 324)))), some (.ref a), some (.int 0), some (.ref h2.2.1)]) (st' := []) (by decide +kernel) rfl ?_
    exact T _ _ _ _ _ _ h12 ⟨by omega, by omega⟩
  · refine jx_blk (by decide) [(.astore 10, 2), (.iload 9, 2)] (pc' := 505) (Lv' := [some (.ref 1000000), some (.ref zz), some (.ref B), some (.int 1), some (.int i), some (.long o), none, some (.int (iN (nM (ρ 324)))), some (.ref a), some (.int 1), some (.ref h2.2.1)]) (st' := [.int 1]) (by decide +kernel) rfl ?_
    refine jx_if_ne (off := 86) (b := 591) (by decide) (by decide +kernel) (by decide) (fun _ => ?_) (fun e => absurd e (by decide))
    exact T _ _ _ _ _ _ h3 ⟨by omega, by omega⟩
set_option maxRecDepth 100000 in
theorem lw_430 (hS : SQ (RWp b) ρ) (hx : LX B n ρ [] (c + 9000) (s + 30000) h0 h) (T : ∀ (r5 r6 r7 r8 r9 r10 : Option Value) (h' : jv_H), bud h' 0 0 → jE 271 591 [some (.ref 1000000), some (.ref zz), some (.ref B), some (.int 1), some (.int i), r5, r6, r7, r8, r9, r10] [] h' K) : jE 271 430 [some (.ref 1000000), some (.ref zz), some (.ref B), some (.int 1), some (.int i), some (.long o), none, some (.int (iN (nM (ρ 324)))), r8, r9, r10] [] h K := by
  have inf := hx.inf
  obtain ⟨e3, l20⟩ := inf.n
  have h3 := inf.1.1.1
  obtain ⟨sj, sl⟩ := suT_ok inf hS.1.1.1.1 hS.1.1.2.2 hx.1.rj
  obtain ⟨hb1, hb2⟩ := hx.2.2.2.1
  have y0 : LX B n ρ [] ((c + 960) + 8040) ((s + 9900) + 20100) h h := LX.start hx.1 ⟨by omega, by omega⟩
  refine jx_blk (by decide) [(.aload_n 2, 1)] (pc' := 431) (Lv' := [some (.ref 1000000), some (.ref zz), some (.ref B), some (.int 1), some (.int i), some (.long o), none, some (.int (iN (nM (ρ 324)))), r8, r9, r10]) (st' := [.ref B]) (by decide +kernel) rfl ?_
  refine jx_call (z := 191) (na := 1) (mL := 4) (ck := 0) (ow := 10) (by decide +kernel) (by show 1 ≤ 1; decide) (Nat.le_of_ble_eq_true rfl) rfl (Or.inl rfl) ?_
  refine lm_setup sl sj y0 (fun a h1 tx hx1 => ?_)
  show jE 271 434 [some (.ref 1000000), some (.ref zz), some (.ref B), some (.int 1), some (.int i), some (.long o), none, some (.int (iN (nM (ρ 324)))), r8, r9, r10] [.ref a] h1 K
  refine jx_blk (by decide) [(.astore 8, 2), (.aload 8, 2)] (pc' := 438) (Lv' := [some (.ref 1000000), some (.ref zz), some (.ref B), some (.int 1), some (.int i), some (.long o), none, some (.int (iN (nM (ρ 324)))), some (.ref a), r9, r10]) (st' := [.ref a]) (by decide +kernel) rfl ?_
  have y1 : LX B n ρ [] (c + 960) (s + 9900) h1 h1 := LX.start hx1.1 hx1.2.2.2.1
  refine lx_len (m := (suT (ρ 324)).length) (f := fun j => (suT (ρ 324)).getD j 0) (by decide +kernel) y1 tx (Nat.le_of_ble_eq_true rfl) ?_
  refine jx_blk (by decide) [(.sipush 990, 3)] (pc' := 444) (Lv' := [some (.ref 1000000), some (.ref zz), some (.ref B), some (.int 1), some (.int i), some (.long o), none, some (.int (iN (nM (ρ 324)))), some (.ref a), r9, r10]) (st' := [.int 990, .int (iN (suT (ρ 324)).length)]) (by decide +kernel) rfl ?_
  refine jx_ic_le (off := 6) (b := 450) (by decide) (by decide +kernel) (by decide) (fun z => ?_) (fun _ => ?_)
  · refine jx_blk (by decide) [(.iconst 0, 1), (.istore 9, 2), (.iconst 0, 1), (.istore 10, 2)] (pc' := 456) (Lv' := [some (.ref 1000000), some (.ref zz), some (.ref B), some (.int 1), some (.int i), some (.long o), none, some (.int (iN (nM (ρ 324)))), some (.ref a), some (.int 0), some (.int 0)]) (st' := []) (by decide +kernel) rfl ?_
    have z : (suT (ρ 324)).length ≤ 990 := by
      have z := Int32.not_lt.mp z
      exact (iN_le (m := 990) (by omega) (by decide)).mp z
    exact sw_lp h3 (fun e h2 he hf hx2 => lw_494 (c := c) (s := s) hS he hf (hx2.le (by omega) (by omega)) tx sj z T) (nM (ρ 324)) 0 0 h1 (Nat.zero_add _) (Or.inl rfl) (fun _ j hj => absurd hj (Nat.not_lt_zero _)) y1
  · refine jx_goto (off := 144) (b := 591) (by decide) (by decide +kernel) (by decide) ?_
    obtain ⟨k1, k2⟩ := hx1.2.2.2.1
    exact T _ _ _ _ _ _ h1 ⟨by omega, by omega⟩
theorem pass4 (hz : jZ B h0 zz f) (hK : ∀ h', bud h' 0 0 → K (some (.int 1)) h') (hn : n + 7 ≤ 9000) (h8 : ρ 323 8 = 0) (hx : LX B n ρ [] (c + 40000) (s + 150000) h0 h) : jE 271 121 (LW zz B 4 [r5, r6, r7, r8, r9, r10]) [] h K := by
  refine lw_121 hz hx ⟨fun z => absurd (by decide) z, fun _ => ⟨fun z => absurd z (by decide), fun _ h1 hx1 => ?_⟩⟩
  refine lw_140 (p := 4) (c := c + 31000) (s := s + 121000) hz (by decide) (by decide) (by decide) (by decide) (by decide) h8 (hx1.le (by omega) (by omega)) (fun τ h2 hS h8 hx2 => ?_)
  refine lp_190 (c := c + 10000) (s := s + 31000) (b := 0) hz ⟨⟨by decide, by decide⟩, by decide, by decide⟩ hn (by decide) hS h8 (hx2.le (by omega) (by omega)) (fun n' ρ' o x8 h3 hn' hS' h8' hx3 => ?_)
  refine lw_417 hz hx3 ⟨fun z => absurd z (by decide), fun _ h4 hx4 => ?_⟩
  exact lw_430 (c := c) (s := s) hS' (hx4.le (by omega) (by omega)) (fun _ _ _ _ _ _ h5 hb => lw_end (hK h5 hb))
theorem pass2 (hz : jZ B h0 zz f) (hK : ∀ h', bud h' 0 0 → K (some (.int 1)) h') (hn : n + 20 ≤ 9000) (hS : SQ (RWp 24) ρ) (h8 : ρ 323 8 = 0) (hx : LX B n ρ [] (c + 62000) (s + 250000) h0 h) : jE 271 121 (LW zz B 2 [r5, r6, r7, r8, r9, r10]) [] h K := by
  refine lw_121 hz hx ⟨fun z => absurd (by decide) z, fun _ => ⟨fun _ h1 hx1 => ?_, fun z => absurd rfl z⟩⟩
  refine lp_190 (c := c + 40000) (s := s + 150000) (b := 24) hz ⟨⟨by decide, by decide⟩, by decide, by decide⟩ (by omega) (by decide) hS h8 (hx1.le (by omega) (by omega)) (fun n' ρ' o x8 h3 hn' hS' h8' hx3 => ?_)
  refine lw_417 hz hx3 ⟨fun _ h4 hx4 => ?_, fun z => absurd (by decide) z⟩
  refine lw_591 hz hx4 (fun h5 hx5 => ?_)
  have e : (2 + 2 : Int32) = 4 := by decide
  rw [e]
  exact pass4 hz hK (by omega) h8' hx5
theorem pass0 (hz : jZ B h0 zz f) (hK : ∀ h', bud h' 0 0 → K (some (.int 1)) h') (hn : n + 40 ≤ 9000) (h8 : ρ 323 8 = 0) (hx : LX B n ρ [] (c + 95000) (s + 400000) h0 h) : jE 271 121 (LW zz B 0 [r5, r6, r7, r8, r9, r10]) [] h K := by
  refine lw_121 hz hx ⟨fun z => absurd (by decide) z, fun _ => ⟨fun z => absurd z (by decide), fun _ h1 hx1 => ?_⟩⟩
  refine lw_140 (p := 0) (c := c + 84000) (s := s + 341000) hz (by decide) (by decide) (by decide) (by decide) (by decide) h8 (hx1.le (by omega) (by omega)) (fun τ h2 hS h8 hx2 => ?_)
  refine lp_190 (c := c + 62000) (s := s + 250000) (b := 0) hz ⟨⟨by decide, by decide⟩, by decide, by decide⟩ (by omega) (by decide) hS h8 (hx2.le (by omega) (by omega)) (fun n' ρ' o x8 h3 hn' hS' h8' hx3 => ?_)
  refine lw_417 hz hx3 ⟨fun _ h4 hx4 => ?_, fun z => absurd (by decide) z⟩
  refine lw_591 hz hx4 (fun h5 hx5 => ?_)
  have e : (0 + 2 : Int32) = 2 := by decide
  rw [e]
  exact pass2 hz hK (by omega) hS' h8' hx5
end LTX
theorem wS_6 : wS 323 6 = 0 := by decide +kernel
theorem wS_SP : SP wS := by
  refine ⟨⟨⟨fun t ht => ?_, fun t o ht => ?_, fun t ht => ?_, by decide +kernel⟩, by rw [wS_nR]; decide⟩, fun u hu => ?_, fun s hs z => ?_⟩
  · rw [wS_nR] at ht
    exact absurd ht (Nat.not_lt_zero _)
  · rw [wS_nR] at ht
    exact absurd ht (Nat.not_lt_zero _)
  · rw [wS_nR] at ht
    exact absurd ht (Nat.not_lt_zero _)
  · rw [wS_6] at hu
    exact absurd hu (Nat.not_lt_zero _)
  · have q : s = 0 ∨ s = 1 := by omega
    rcases q with rfl | rfl
    · exact absurd (by decide +kernel) z
    · exact absurd (by decide +kernel) z
theorem wS_fSt : fSt 99 (wS 324) = (0, wS 324) := by
  refine fSt_lt ?_
  unfold fBest
  rw [wS_nR]
  exact (by decide : ((-2 : Int32) < 0))
theorem wS_op : hOp (hUn wS) (gStl ((hUn wS) 324)) (nStl ((hUn wS) 324)) = wS := by
  have u : hUn wS = wS := hUn_0 wS_6
  rw [u]
  exact hOp_f (fun z => z (by rw [wS_fSt]))
set_option maxRecDepth 100000 in
theorem law_jE {L : Nat} {xs : Nat → Int32} (hL : L ≤ 260) : jE 271 0 jv_L0 [] (jv_h0 L xs) (fun r h' => r = some (.int 1) ∧ h'.2.1 ≤ 600000 ∧ h'.2.2 ≤ 7302250) := by
  show jE 271 0 [some (.ref 1000000), none, none, none, none, none, none, none, none, none, none] [] (jv_h0 L xs) _
  refine jx_blk (by decide) [(.bipush 6, 2)] (pc' := 2) (Lv' := [some (.ref 1000000), none, none, none, none, none, none, none, none, none, none]) (st' := [.int 6]) (by decide +kernel) rfl ?_
  refine jx_newi (k := 6) (by decide) (by decide +kernel) ⟨by decide, by decide, by decide⟩ ?_
  obtain ⟨h1, hh1⟩ : ∃ h1, h1 = jv_add (jv_h0 L xs) (.inl (0, 6, fun _ => 0)) 6 := ⟨_, rfl⟩
  rw [← hh1]
  have u1 : h1.2.1 = 1 := by rw [hh1]; rfl
  have u2 : h1.2.2 = 6 := by rw [hh1]; rfl
  have ia : jIa h1 0 6 (fun _ => 0) := by rw [hh1]; exact jIa.new
  have hc : h1.1 1000000 = .inl (9, L, xs) := by rw [hh1]; rfl
  have hF : jFix h1 := by
    intro a ha
    have h9 := jv_old_eq ha
    rw [hh1]
    show jv_up (jv_h0 L xs).1 0 _ a = _
    unfold jv_up
    rw [if_neg (by omega)]
    exact if_neg (by omega)
  show jE 271 4 [some (.ref 1000000), none, none, none, none, none, none, none, none, none, none] [.ref 0] h1 _
  refine jx_blk (by decide) [(.astore_n 1, 1), (.iconst 0, 1), (.istore_n 2, 1)] (pc' := 7) (Lv' := [some (.ref 1000000), some (.ref 0), some (.int 0), none, none, none, none, none, none, none, none]) (st' := []) (by decide +kernel) rfl ?_
  refine l0_lp (h := h1) (by omega) (by decide) (fun h2 f k ia2 hF2 e2 => ?_) 6 0 (fun _ => 0) h1 rfl ia hc hF rfl
  have e21 : h2.2.1 = 1 := by rw [e2]; exact u1
  have e22 : h2.2.2 = 6 := by rw [e2]; exact u2
  refine jx_newx (idx := 18) (by decide) (by decide +kernel) (by decide +kernel) (by decide +kernel) (by decide +kernel) hF2 (by omega) (Nat.le_of_ble_eq_true rfl) (fun h3 x3 b1 b2 b3 => ?_)
  refine jx_blk (by decide) [(.astore_n 2, 1)] (pc' := 42) (Lv' := [some (.ref 1000000), some (.ref 0), some (.ref h2.2.1), none, none, none, none, none, none, none, none]) (st' := []) (by decide +kernel) rfl ?_
  have hz : jZ h2.2.1 h3 0 f := ⟨by omega, ia2.fr (b3 0 (by omega)) (by omega)⟩
  have hx : LX h2.2.1 0 wS [] ((0 + 95000) + 12) ((0 + 400000) + 104) h3 h3 := LX.start x3 ⟨by omega, by omega⟩
  refine lw_42 hz (by rw [wS_op]; exact wS_SP) hx ?_
  rw [wS_op, show hUn wS = wS from hUn_0 wS_6]
  refine ⟨if_pos wS_6, by decide +kernel, by decide +kernel, by decide +kernel, ?_, ?_, ?_, fun h4 hx4 => ?_⟩
  · unfold fJa
    rw [wS_nR]
    rfl
  · unfold aStl
    exact if_pos (by rw [wS_fSt])
  · unfold fRi
    rw [wS_nR]
    rfl
  refine lw_118 hz hx4 (fun h5 hx5 => ?_)
  exact pass0 hz (fun h' hb => ⟨rfl, hb.1, hb.2⟩) (by decide) wS_8 hx5
theorem jv_law_ok : jv_law 260 := by
  intro L xs hL
  obtain ⟨r, h', ⟨N, hN⟩, rfl, k1, k2⟩ := law_jE (xs := xs) hL
  exact ⟨N, h', hN N (Nat.le_refl _), k1, k2⟩
