/-! TEXTS beside a SeatSwap -/
/-- at a stands a text of the n letters f, beside the SeatSwap at B -/
def jT (B : Nat) (h : jv_H) (a n : Nat) (f : Nat → Int32) : Prop := ((a < h.2.1 ∨ jv_old a = true) ∧ (a < B ∨ B + 323 ≤ a)) ∧ ∃ (v : Nat) (tl : List Value), h.1 a = .inr (.inr (8, .ref v :: .int 0 :: tl)) ∧ ((v < h.2.1 ∨ jv_old v = true) ∧ (v < B ∨ B + 323 ≤ v)) ∧ ∃ g, h.1 v = .inl (4, n, g) ∧ ∀ j, j < n → g j = f j
theorem jT.x {B a n : Nat} {f : Nat → Int32} {h0 h : jv_H} (ht : jT B h0 a n f) (hf : fr B h0 h) : jTx h a n f := by
  obtain ⟨⟨a1, a2⟩, v, tl, e1, ⟨v1, v2⟩, g, e2, e3⟩ := ht
  obtain ⟨f1, f2, f3⟩ := hf
  have lo : ∀ q, q < h0.2.1 ∨ jv_old q = true → q < h0.2.1 ∨ 1000000 ≤ q := fun q hq => hq.imp id (fun z => by have := jv_old_eq z; omega)
  have u1 : a < h.2.1 ∨ jv_old a = true := a1.elim (fun z => Or.inl (by omega)) Or.inr
  have u2 : v < h.2.1 ∨ jv_old v = true := v1.elim (fun z => Or.inl (by omega)) Or.inr
  refine ⟨u1, v, tl, ?_, u2, n, g, ?_, rfl, e3⟩
  · rw [f3 a (lo a a1) a2]
    exact e1
  · rw [f3 v (lo v v1) v2]
    exact e2
section TXR
variable {y pc B n c s : Nat} {ρ : gS} {A : jAs} {h0 h : jv_H} {Lv : List (Option Value)} {r : List Value} {K : jK} {a m : Nat} {f : Nat → Int32}
theorem jTx.cell (ht : jTx h a m f) : (a < h.2.1 ∨ jv_old a = true) ∧ ∃ fs, h.1 a = .inr (.inr (8, fs)) := by
  obtain ⟨h1, v, tl, e, -⟩ := ht
  exact ⟨h1, _, e⟩
theorem lx_len (hD : jx_chk y pc 152 1 1 1 8 = true) (hx : LX B n ρ A c s h0 h) (ht : jT B h0 a m f) (hw1 : jv_wd r ≤ 8) (hg : jE y (pc + 3) Lv (.int (iN m) :: r) h K) : jE y pc Lv (.ref a :: r) h K := by
  have t := ht.x hx.2.2.2.2
  obtain ⟨t1, fs, t2⟩ := t.cell
  refine jx_call (z := 152) (na := 1) (mL := 1) (ck := 1) (ow := 8) hD (by show 1 ≤ r.length + 1; omega) hw1 rfl (Or.inr ⟨a, 8, fs, rfl, t1.imp id (fun q => ⟨q, rfl⟩), t2, rfl⟩) ?_
  exact js_len t hg
theorem lx_at {x : Int32} (hD : jx_chk y pc 153 2 2 1 8 = true) (hx : LX B n ρ A c s h0 h) (ht : jT B h0 a m f) (hm : m < 2147483648) (hi : 0 ≤ x ∧ x < iN m) (hw1 : jv_wd r ≤ 8) (hg : jE y (pc + 3) Lv (.int (f x.toNatClampNeg &&& 255) :: r) h K) : jE y pc Lv (.int x :: .ref a :: r) h K := by
  have t := ht.x hx.2.2.2.2
  obtain ⟨t1, fs, t2⟩ := t.cell
  refine jx_call (z := 153) (na := 2) (mL := 2) (ck := 1) (ow := 8) hD (by show 2 ≤ r.length + 2; omega) hw1 rfl (Or.inr ⟨a, 8, fs, rfl, t1.imp id (fun q => ⟨q, rfl⟩), t2, rfl⟩) ?_
  exact js_at t hm hi hg
end TXR
theorem fd_0 {B n c s : Nat} {ρ : gS} {h0 h : jv_H} {K : jK} {a : Nat} (hx : LX B n ρ [] c s h0 h) (T : (∀ h1, LX B n ρ [] c s h0 h1 → jE 189 4 [some (.ref B), some (.ref a), some (.int 1), some (.int 0), none, none] [] h1 K)) : jE 189 0 [some (.ref B), some (.ref a), none, none, none, none] [] h K := by
  refine jx_blk (by decide) [(.iconst 1, 1), (.istore_n 2, 1), (.iconst 0, 1), (.istore_n 3, 1)] (pc' := 4) (Lv' := [some (.ref B), some (.ref a), some (.int 1), some (.int 0), none, none]) (st' := []) (by decide +kernel) rfl ?_
  exact T _ hx

theorem fd_4 {B n c s : Nat} {ρ : gS} {h0 h : jv_H} {K : jK} {a m : Nat} {f : Nat → Int32} (ht : jT B h0 a m f) (hm : m < 2147483648) {p : Int32} {r4 r5 : Option Value} (hx : LX B n ρ [] (c + 1) (s + 5) h0 h) (T : ((¬ p < (iN m) → ((if gTru (ρ 323 8) (p - (iN m)) then ρ 323 8 - (p - (iN m)) else -1) = (iN m) ∧ (∀ h1, LX B n (hTr ρ (p - (iN m))) [] c s h0 h1 → K (some (.int 1)) h1))) ∧ (p < (iN m) → (∀ q8 : Nat, (∀ h1, LX B n ρ [(q8, 5, fun _ => 0)] c s h0 h1 → jE 189 20 [some (.ref B), some (.ref a), some (.int 1), some (.int p), some (.ref q8), some (.int 0)] [] h1 K))))) : jE 189 4 [some (.ref B), some (.ref a), some (.int 1), some (.int p), r4, r5] [] h K := by
  refine jx_blk (by decide) [(.iload_n 3, 1), (.aload_n 1, 1)] (pc' := 6) (Lv' := [some (.ref B), some (.ref a), some (.int 1), some (.int p), r4, r5]) (st' := [.ref a, .int p]) (by decide +kernel) rfl ?_
  refine lx_len (r := [.int p]) (by decide +kernel) hx ht (Nat.le_of_ble_eq_true rfl) ?_
  refine jx_ic_ge (off := 114) (b := 123) (by decide) (by decide +kernel) (by decide) (fun e1 => ?_) (fun e1 => ?_)
  · have t2 := T.1 e1
    refine jx_blk (by decide) [(.iload_n 2, 1)] (pc' := 124) (Lv' := [some (.ref B), some (.ref a), some (.int 1), some (.int p), r4, r5]) (st' := [.int 1]) (by decide +kernel) rfl ?_
    refine jx_if_eq (off := 24) (b := 148) (by decide) (by decide +kernel) (by decide) (fun e => absurd e (by decide)) (fun _ => ?_)
    refine jx_blk (by decide) [(.aload_n 0, 1), (.iload_n 3, 1), (.aload_n 1, 1)] (pc' := 130) (Lv' := [some (.ref B), some (.ref a), some (.int 1), some (.int p), r4, r5]) (st' := [.ref a, .int p, .ref B]) (by decide +kernel) rfl ?_
    refine lx_len (r := [.int p, .ref B]) (by decide +kernel) hx ht (Nat.le_of_ble_eq_true rfl) ?_
    refine jx_blk (by decide) [(.isub, 1)] (pc' := 134) (Lv' := [some (.ref B), some (.ref a), some (.int 1), some (.int p), r4, r5]) (st' := [.int (p - (iN m)), .ref B]) (by decide +kernel) rfl ?_
    refine lx_call (z := 109) (na := 2) (mL := 2) (v := .int (if gTru (ρ 323 8) (p - (iN m)) then ρ 323 8 - (p - (iN m)) else -1)) (ρ' := (hTr ρ (p - (iN m)))) (r := []) [(p - (iN m))] (by decide +kernel) hx xr_truncate hx.1.1 rfl rfl (fun _ => rfl) (Nat.le_of_ble_eq_true rfl) (fun h4 hx5 => ?_)
    refine jx_blk (by decide) [(.aload_n 1, 1)] (pc' := 138) (Lv' := [some (.ref B), some (.ref a), some (.int 1), some (.int p), r4, r5]) (st' := [.ref a, .int (if gTru (ρ 323 8) (p - (iN m)) then ρ 323 8 - (p - (iN m)) else -1)]) (by decide +kernel) rfl ?_
    refine lx_len (r := [.int (if gTru (ρ 323 8) (p - (iN m)) then ρ 323 8 - (p - (iN m)) else -1)]) (by decide +kernel) hx5 ht (Nat.le_of_ble_eq_true rfl) ?_
    refine jx_ic_ne (off := 7) (b := 148) (by decide) (by decide +kernel) (by decide) (fun e => absurd t2.1 e) (fun _ => ?_)
    have t7 := t2.2
    refine jx_blk (by decide) [(.iconst 1, 1)] (pc' := 145) (Lv' := [some (.ref B), some (.ref a), some (.int 1), some (.int p), r4, r5]) (st' := [.int 1]) (by decide +kernel) rfl ?_
    refine jx_goto (off := 4) (b := 149) (by decide) (by decide +kernel) (by decide) ?_
    exact jx_zret (by decide) (by decide +kernel) (by decide +kernel) (Or.inr rfl) (t7 _ (hx5.le (by omega) (by omega)))
  · have t3 := T.2 e1
    refine jx_blk (by decide) [(.iconst 5, 1)] (pc' := 13) (Lv' := [some (.ref B), some (.ref a), some (.int 1), some (.int p), r4, r5]) (st' := [.int 5]) (by decide +kernel) rfl ?_
    refine lx_newi (k := 5) (by decide) (by decide +kernel) (by decide) hx (fun q8 h9 hx10 => ?_)
    have t11 := t3 q8
    refine jx_blk (by decide) [(.astore 4, 2), (.iconst 0, 1), (.istore 5, 2)] (pc' := 20) (Lv' := [some (.ref B), some (.ref a), some (.int 1), some (.int p), some (.ref q8), some (.int 0)]) (st' := []) (by decide +kernel) rfl ?_
    exact t11 _ hx10

theorem fd_20 {B n c s : Nat} {ρ : gS} {h0 h : jv_H} {K : jK} {a m : Nat} {f : Nat → Int32} (ht : jT B h0 a m f) (hm : m < 2147483648) {p k : Int32} {q : Nat} {g : Nat → Int32} (hx : LX B n ρ [(q, 5, g)] c s h0 h) (T : ((¬ k < 20 → (∀ h1, LX B n ρ [(q, 5, g)] c s h0 h1 → jE 189 79 [some (.ref B), some (.ref a), some (.int 1), some (.int p), some (.ref q), some (.int k)] [] h1 K)) ∧ (k < 20 → ((0 ≤ (k / 4) ∧ (k / 4).toNatClampNeg < 5) ∧ ((¬ (p + k) < (iN m) → (∀ h1, LX B n ρ [(q, 5, g)] c s h0 h1 → jE 189 71 [some (.ref B), some (.ref a), some (.int 1), some (.int p), some (.ref q), some (.int k)] [.int 32, .int ((g (k / 4).toNatClampNeg) <<< ((8 : Int32) &&& 31)), .int (k / 4), .ref q] h1 K)) ∧ ((p + k) < (iN m) → ((0 ≤ (p + k) ∧ (p + k) < iN m) ∧ (∀ h1, LX B n ρ [(q, 5, g)] c s h0 h1 → jE 189 71 [some (.ref B), some (.ref a), some (.int 1), some (.int p), some (.ref q), some (.int k)] [.int ((f (p + k).toNatClampNeg &&& 255) &&& 255), .int ((g (k / 4).toNatClampNeg) <<< ((8 : Int32) &&& 31)), .int (k / 4), .ref q] h1 K)))))))) : jE 189 20 [some (.ref B), some (.ref a), some (.int 1), some (.int p), some (.ref q), some (.int k)] [] h K := by
  refine jx_blk (by decide) [(.iload 5, 2), (.bipush 20, 2)] (pc' := 24) (Lv' := [some (.ref B), some (.ref a), some (.int 1), some (.int p), some (.ref q), some (.int k)]) (st' := [.int 20, .int k]) (by decide +kernel) rfl ?_
  refine jx_ic_ge (off := 55) (b := 79) (by decide) (by decide +kernel) (by decide) (fun e1 => ?_) (fun e1 => ?_)
  · have t2 := T.1 e1
    exact t2 _ hx
  · have t3 := T.2 e1
    refine jx_blk (by decide) [(.aload 4, 2), (.iload 5, 2), (.iconst 4, 1), (.idiv, 1), (.aload 4, 2), (.iload 5, 2), (.iconst 4, 1), (.idiv, 1)] (pc' := 39) (Lv' := [some (.ref B), some (.ref a), some (.int 1), some (.int p), some (.ref q), some (.int k)]) (st' := [.int (k / 4), .ref q, .int (k / 4), .ref q]) (by decide +kernel) rfl ?_
    obtain ⟨et4, t4⟩ := t3
    refine lx_ld (j := ((k / 4).toNatClampNeg)) (by decide) (by decide +kernel) hx (i := 0) rfl ⟨rfl, et4.1⟩ et4.2 ?_
    show jE 189 40 [some (.ref B), some (.ref a), some (.int 1), some (.int p), some (.ref q), some (.int k)] [.int (g (k / 4).toNatClampNeg), .int (k / 4), .ref q] _ K
    refine jx_blk (by decide) [(.bipush 8, 2), (.ishl, 1), (.iload_n 3, 1), (.iload 5, 2), (.iadd, 1), (.aload_n 1, 1)] (pc' := 48) (Lv' := [some (.ref B), some (.ref a), some (.int 1), some (.int p), some (.ref q), some (.int k)]) (st' := [.ref a, .int (p + k), .int ((g (k / 4).toNatClampNeg) <<< ((8 : Int32) &&& 31)), .int (k / 4), .ref q]) (by decide +kernel) rfl ?_
    refine lx_len (r := [.int (p + k), .int ((g (k / 4).toNatClampNeg) <<< ((8 : Int32) &&& 31)), .int (k / 4), .ref q]) (by decide +kernel) hx ht (Nat.le_of_ble_eq_true rfl) ?_
    refine jx_ic_ge (off := 18) (b := 69) (by decide) (by decide +kernel) (by decide) (fun e5 => ?_) (fun e5 => ?_)
    · have t6 := t4.1 e5
      refine jx_blk (by decide) [(.bipush 32, 2)] (pc' := 71) (Lv' := [some (.ref B), some (.ref a), some (.int 1), some (.int p), some (.ref q), some (.int k)]) (st' := [.int 32, .int ((g (k / 4).toNatClampNeg) <<< ((8 : Int32) &&& 31)), .int (k / 4), .ref q]) (by decide +kernel) rfl ?_
      exact t6 _ hx
    · have t7 := t4.2 e5
      refine jx_blk (by decide) [(.aload_n 1, 1), (.iload_n 3, 1), (.iload 5, 2), (.iadd, 1)] (pc' := 59) (Lv' := [some (.ref B), some (.ref a), some (.int 1), some (.int p), some (.ref q), some (.int k)]) (st' := [.int (p + k), .ref a, .int ((g (k / 4).toNatClampNeg) <<< ((8 : Int32) &&& 31)), .int (k / 4), .ref q]) (by decide +kernel) rfl ?_
      obtain ⟨et8, t8⟩ := t7
      refine lx_at (r := [.int ((g (k / 4).toNatClampNeg) <<< ((8 : Int32) &&& 31)), .int (k / 4), .ref q]) (by decide +kernel) hx ht hm et8 (Nat.le_of_ble_eq_true rfl) ?_
      refine jx_blk (by decide) [(.sipush 255, 3), (.iand, 1)] (pc' := 66) (Lv' := [some (.ref B), some (.ref a), some (.int 1), some (.int p), some (.ref q), some (.int k)]) (st' := [.int ((f (p + k).toNatClampNeg &&& 255) &&& 255), .int ((g (k / 4).toNatClampNeg) <<< ((8 : Int32) &&& 31)), .int (k / 4), .ref q]) (by decide +kernel) rfl ?_
      refine jx_goto (off := 5) (b := 71) (by decide) (by decide +kernel) (by decide) ?_
      exact t8 _ hx

theorem fd_71 {B n c s : Nat} {ρ : gS} {h0 h : jv_H} {K : jK} {a : Nat} {p k y z v : Int32} {q : Nat} {g : Nat → Int32} (hx : LX B n ρ [(q, 5, g)] c s h0 h) (T : ((0 ≤ v ∧ v.toNatClampNeg < 5) ∧ (∀ h1, LX B n ρ [(q, 5, (upd g v.toNatClampNeg (z ||| y)))] c s h0 h1 → jE 189 20 [some (.ref B), some (.ref a), some (.int 1), some (.int p), some (.ref q), some (.int (k + 1))] [] h1 K))) : jE 189 71 [some (.ref B), some (.ref a), some (.int 1), some (.int p), some (.ref q), some (.int k)] [.int y, .int z, .int v, .ref q] h K := by
  refine jx_blk (by decide) [(.ior, 1)] (pc' := 72) (Lv' := [some (.ref B), some (.ref a), some (.int 1), some (.int p), some (.ref q), some (.int k)]) (st' := [.int (z ||| y), .int v, .ref q]) (by decide +kernel) rfl ?_
  obtain ⟨et1, t1⟩ := T
  refine lx_st (j := v.toNatClampNeg) (by decide) (by decide +kernel) hx (i := 0) rfl ⟨rfl, et1.1⟩ et1.2 (A' := [(q, 5, (upd g v.toNatClampNeg (z ||| y)))]) rfl (fun h2 hx3 => ?_)
  refine jx_blk (by decide) [(.iinc 5 1, 3)] (pc' := 76) (Lv' := [some (.ref B), some (.ref a), some (.int 1), some (.int p), some (.ref q), some (.int (k + 1))]) (st' := []) (by decide +kernel) rfl ?_
  refine jx_goto (off := (-56)) (b := 20) (by decide) (by decide +kernel) (by decide) ?_
  exact t1 _ hx3

theorem fd_79 {B n c s : Nat} {ρ : gS} {h0 h : jv_H} {K : jK} {a : Nat} {p : Int32} {q : Nat} {g : Nat → Int32} {r5 : Option Value} (hx : LX B n ρ [(q, 5, g)] c s h0 h) (T : ((if 1000 < ρ 323 8 + 20 then -1 else ρ 323 8 + 20) = (p + 20) ∧ (∀ h1, LX B n (hAp ρ (byt (g 0) (g 1) (g 2) (g 3) (g 4))) [] c s h0 h1 → jE 189 4 [some (.ref B), some (.ref a), some (.int 1), some (.int (p + 20)), some (.ref q), r5] [] h1 K))) : jE 189 79 [some (.ref B), some (.ref a), some (.int 1), some (.int p), some (.ref q), r5] [] h K := by
  refine jx_blk (by decide) [(.iinc 3 20, 3), (.iload_n 2, 1)] (pc' := 83) (Lv' := [some (.ref B), some (.ref a), some (.int 1), some (.int (p + 20)), some (.ref q), r5]) (st' := [.int 1]) (by decide +kernel) rfl ?_
  refine jx_if_eq (off := 35) (b := 118) (by decide) (by decide +kernel) (by decide) (fun e => absurd e (by decide)) (fun _ => ?_)
  refine jx_blk (by decide) [(.aload_n 0, 1), (.aload 4, 2), (.iconst 0, 1)] (pc' := 90) (Lv' := [some (.ref B), some (.ref a), some (.int 1), some (.int (p + 20)), some (.ref q), r5]) (st' := [.int 0, .ref q, .ref B]) (by decide +kernel) rfl ?_
  refine lx_ld (j := 0) (by decide) (by decide +kernel) hx (i := 0) rfl (by decide) (by decide) ?_
  show jE 189 91 [some (.ref B), some (.ref a), some (.int 1), some (.int (p + 20)), some (.ref q), r5] [.int (g 0), .ref B] _ K
  refine jx_blk (by decide) [(.aload 4, 2), (.iconst 1, 1)] (pc' := 94) (Lv' := [some (.ref B), some (.ref a), some (.int 1), some (.int (p + 20)), some (.ref q), r5]) (st' := [.int 1, .ref q, .int (g 0), .ref B]) (by decide +kernel) rfl ?_
  refine lx_ld (j := 1) (by decide) (by decide +kernel) hx (i := 0) rfl (by decide) (by decide) ?_
  show jE 189 95 [some (.ref B), some (.ref a), some (.int 1), some (.int (p + 20)), some (.ref q), r5] [.int (g 1), .int (g 0), .ref B] _ K
  refine jx_blk (by decide) [(.aload 4, 2), (.iconst 2, 1)] (pc' := 98) (Lv' := [some (.ref B), some (.ref a), some (.int 1), some (.int (p + 20)), some (.ref q), r5]) (st' := [.int 2, .ref q, .int (g 1), .int (g 0), .ref B]) (by decide +kernel) rfl ?_
  refine lx_ld (j := 2) (by decide) (by decide +kernel) hx (i := 0) rfl (by decide) (by decide) ?_
  show jE 189 99 [some (.ref B), some (.ref a), some (.int 1), some (.int (p + 20)), some (.ref q), r5] [.int (g 2), .int (g 1), .int (g 0), .ref B] _ K
  refine jx_blk (by decide) [(.aload 4, 2), (.iconst 3, 1)] (pc' := 102) (Lv' := [some (.ref B), some (.ref a), some (.int 1), some (.int (p + 20)), some (.ref q), r5]) (st' := [.int 3, .ref q, .int (g 2), .int (g 1), .int (g 0), .ref B]) (by decide +kernel) rfl ?_
  refine lx_ld (j := 3) (by decide) (by decide +kernel) hx (i := 0) rfl (by decide) (by decide) ?_
  show jE 189 103 [some (.ref B), some (.ref a), some (.int 1), some (.int (p + 20)), some (.ref q), r5] [.int (g 3), .int (g 2), .int (g 1), .int (g 0), .ref B] _ K
  refine jx_blk (by decide) [(.aload 4, 2), (.iconst 4, 1)] (pc' := 106) (Lv' := [some (.ref B), some (.ref a), some (.int 1), some (.int (p + 20)), some (.ref q), r5]) (st' := [.int 4, .ref q, .int (g 3), .int (g 2), .int (g 1), .int (g 0), .ref B]) (by decide +kernel) rfl ?_
  refine lx_ld (j := 4) (by decide) (by decide +kernel) hx (i := 0) rfl (by decide) (by decide) ?_
  show jE 189 107 [some (.ref B), some (.ref a), some (.int 1), some (.int (p + 20)), some (.ref q), r5] [.int (g 4), .int (g 3), .int (g 2), .int (g 1), .int (g 0), .ref B] _ K
  refine lx_call (z := 108) (na := 6) (mL := 6) (v := .int (if 1000 < ρ 323 8 + 20 then -1 else ρ 323 8 + 20)) (ρ' := (hAp ρ (byt (g 0) (g 1) (g 2) (g 3) (g 4)))) (r := []) [(g 4), (g 3), (g 2), (g 1), (g 0)] (by decide +kernel) hx xr_append hx.1.1 rfl rfl (fun _ => rfl) (Nat.le_of_ble_eq_true rfl) (fun h1 hx2 => ?_)
  refine jx_blk (by decide) [(.iload_n 3, 1)] (pc' := 111) (Lv' := [some (.ref B), some (.ref a), some (.int 1), some (.int (p + 20)), some (.ref q), r5]) (st' := [.int (p + 20), .int (if 1000 < ρ 323 8 + 20 then -1 else ρ 323 8 + 20)]) (by decide +kernel) rfl ?_
  refine jx_ic_ne (off := 7) (b := 118) (by decide) (by decide +kernel) (by decide) (fun e => absurd T.1 e) (fun _ => ?_)
  have t4 := T.2
  refine jx_blk (by decide) [(.iconst 1, 1)] (pc' := 115) (Lv' := [some (.ref B), some (.ref a), some (.int 1), some (.int (p + 20)), some (.ref q), r5]) (st' := [.int 1]) (by decide +kernel) rfl ?_
  refine jx_goto (off := 4) (b := 119) (by decide) (by decide +kernel) (by decide) ?_
  refine jx_blk (by decide) [(.istore_n 2, 1)] (pc' := 120) (Lv' := [some (.ref B), some (.ref a), some (.int 1), some (.int (p + 20)), some (.ref q), r5]) (st' := []) (by decide +kernel) rfl ?_
  refine jx_goto (off := (-116)) (b := 4) (by decide) (by decide +kernel) (by decide) ?_
  exact t4 _ (hx2.nil)
/-- behind feeding: the tape holds the n letters f -/
def FdT (n : Nat) (f : Nat → Int32) (ρ τ : gS) : Prop := (τ 324 = ρ 324 ∧ τ 327 = ρ 327 ∧ τ 328 = ρ 328 ∧ τ 329 = ρ 329) ∧ (∀ j, ¬ j = 8 → τ 323 j = ρ 323 j) ∧ τ 323 8 = iN n ∧ ∀ i, i < n → τ 330 i = f i
theorem sh_or {x y : Nat} (h : x * 256 + y < 2147483648) (hy : y < 256) : (iN x <<< ((8 : Int32) &&& 31)) ||| iN y = iN (x * 256 + y) := by
  have e8 : ((8 : Int32) &&& 31) = iN 8 := by decide
  have e1 : iN x <<< iN 8 = iN (x * 256) := by
    apply Int32.toBitVec_inj.mp
    show (BitVec.ofNat 32 x) <<< (((BitVec.ofNat 32 8).smod 32).toNat) = BitVec.ofNat 32 (x * 256)
    rw [show ((BitVec.ofNat 32 8).smod 32).toNat = 8 from by decide]
    apply BitVec.eq_of_toNat_eq
    rw [BitVec.toNat_shiftLeft, BitVec.toNat_ofNat, BitVec.toNat_ofNat, Nat.mod_eq_of_lt (show x < 2 ^ 32 by omega), Nat.shiftLeft_eq]
  rw [e8, e1, iN_or]
  congr 1
  have := Nat.shiftLeft_add_eq_or_of_lt (i := 8) (b := y) (by omega) x
  rw [Nat.shiftLeft_eq] at this
  rw [← this]
/-- the byte j of what is appended at p -/
def btN (m : Nat) (l : Nat → Nat) (p j : Nat) : Nat := if p + j < m then l (p + j) else 32
theorem btN_lt {m : Nat} {l : Nat → Nat} (hl : ∀ i, i < m → l i < 128) (p j : Nat) : btN m l p j < 128 := by
  unfold btN
  split
  · exact hl _ (by assumption)
  · decide
def wdN (b : Nat → Nat) (i : Nat) : Nat := ((b (4 * i) * 256 + b (4 * i + 1)) * 256 + b (4 * i + 2)) * 256 + b (4 * i + 3)
/-- the five words behind k bytes -/
def gkW (b : Nat → Nat) : Nat → Nat → Int32
  | 0 => fun _ => 0
  | k + 1 => upd (gkW b k) (k / 4) ((gkW b k (k / 4) <<< ((8 : Int32) &&& 31)) ||| iN (b k))
theorem sh4 {b0 b1 b2 b3 : Nat} (h0 : b0 < 128) (h1 : b1 < 128) (h2 : b2 < 128) (h3 : b3 < 128) : ((((((((0 : Int32) <<< ((8 : Int32) &&& 31)) ||| iN b0) <<< ((8 : Int32) &&& 31)) ||| iN b1) <<< ((8 : Int32) &&& 31)) ||| iN b2) <<< ((8 : Int32) &&& 31)) ||| iN b3 = iN (((b0 * 256 + b1) * 256 + b2) * 256 + b3) := by
  rw [show (0 : Int32) = iN 0 from rfl, sh_or (by omega) (by omega), sh_or (by omega) (by omega), sh_or (by omega) (by omega), sh_or (by omega) (by omega), Nat.zero_mul, Nat.zero_add]
theorem gkW_20 {b : Nat → Nat} (hb : ∀ j, b j < 128) : ∀ i, i < 5 → gkW b 20 i = iN (wdN b i) := by
  intro i hi
  have hi5 : i = 0 ∨ i = 1 ∨ i = 2 ∨ i = 3 ∨ i = 4 := by omega
  rcases hi5 with rfl | rfl | rfl | rfl | rfl
  · exact sh4 (hb 0) (hb 1) (hb 2) (hb 3)
  · exact sh4 (hb 4) (hb 5) (hb 6) (hb 7)
  · exact sh4 (hb 8) (hb 9) (hb 10) (hb 11)
  · exact sh4 (hb 12) (hb 13) (hb 14) (hb 15)
  · exact sh4 (hb 16) (hb 17) (hb 18) (hb 19)
theorem shr_o {N s : Nat} (hN : N < 2147483648) (hs : ((iN s).toBitVec.smod 32).toNat = s) : iN N >>> iN s = iN (N >>> s) := by
  apply Int32.toInt_inj.1
  have e : (iN N >>> iN s).toInt = ((iN N).toBitVec.sshiftRight ((iN s).toBitVec.smod 32).toNat).toInt := rfl
  have l : N >>> s ≤ N := by rw [Nat.shiftRight_eq_div_pow]; exact Nat.div_le_self _ _
  rw [e, hs, BitVec.toInt_sshiftRight, Int32.toInt_toBitVec, iN_int hN, iN_int (by omega)]
  rfl
theorem an255 (N : Nat) : iN N &&& 255 = iN (N % 256) := by
  apply Int32.toBitVec_inj.mp
  rw [Int32.toBitVec_and]
  apply BitVec.eq_of_toNat_eq
  rw [BitVec.toNat_and, show (iN N).toBitVec = BitVec.ofNat 32 N from rfl, show (255 : Int32).toBitVec = BitVec.ofNat 32 255 from rfl, show (iN (N % 256)).toBitVec = BitVec.ofNat 32 (N % 256) from rfl, BitVec.toNat_ofNat, BitVec.toNat_ofNat, BitVec.toNat_ofNat]
  have e := Nat.and_two_pow_sub_one_eq_mod (N % 2 ^ 32) 8
  have e2 : (2 : Nat) ^ 8 - 1 = 255 % 2 ^ 32 := by decide
  rw [e2] at e
  rw [e]
  have e3 : (2 : Nat) ^ 32 = 4294967296 := by decide
  have e4 : (2 : Nat) ^ 8 = 256 := by decide
  rw [e3, e4]
  omega
theorem byt4 {b0 b1 b2 b3 : Nat} (h0 : b0 < 128) (h1 : b1 < 128) (h2 : b2 < 128) (h3 : b3 < 128) : ∀ j, j < 4 → iN (((b0 * 256 + b1) * 256 + b2) * 256 + b3) >>> iN (24 - 8 * j) &&& 255 = iN (if j = 0 then b0 else if j = 1 then b1 else if j = 2 then b2 else b3) := by
  intro j hj
  obtain ⟨N, hN⟩ : ∃ N, ((b0 * 256 + b1) * 256 + b2) * 256 + b3 = N := ⟨_, rfl⟩
  rw [hN]
  have lN : N < 2147483648 := by omega
  have hj4 : j = 0 ∨ j = 1 ∨ j = 2 ∨ j = 3 := by omega
  rcases hj4 with rfl | rfl | rfl | rfl
  · rw [show 24 - 8 * 0 = 24 by decide, shr_o lN (by decide), an255, Nat.shiftRight_eq_div_pow, if_pos rfl, show (2 : Nat) ^ 24 = 16777216 by decide]
    congr 1
    omega
  · rw [show 24 - 8 * 1 = 16 by decide, shr_o lN (by decide), an255, Nat.shiftRight_eq_div_pow, if_neg (by decide), if_pos rfl, show (2 : Nat) ^ 16 = 65536 by decide]
    congr 1
    omega
  · rw [show 24 - 8 * 2 = 8 by decide, shr_o lN (by decide), an255, Nat.shiftRight_eq_div_pow, if_neg (by decide), if_neg (by decide), if_pos rfl, show (2 : Nat) ^ 8 = 256 by decide]
    congr 1
    omega
  · rw [show 24 - 8 * 3 = 0 by decide, shr_o lN (by decide), an255, Nat.shiftRight_eq_div_pow, if_neg (by decide), if_neg (by decide), if_neg (by decide), show (2 : Nat) ^ 0 = 1 by decide]
    congr 1
    omega
theorem byt_20 {b : Nat → Nat} (hb : ∀ j, b j < 128) {j : Nat} (hj : j < 20) : byt (gkW b 20 0) (gkW b 20 1) (gkW b 20 2) (gkW b 20 3) (gkW b 20 4) j = iN (b j) := by
  have ew : wrd (gkW b 20 0) (gkW b 20 1) (gkW b 20 2) (gkW b 20 3) (gkW b 20 4) j = iN (wdN b (j / 4)) := by
    rw [gkW_20 hb 0 (by decide), gkW_20 hb 1 (by decide), gkW_20 hb 2 (by decide), gkW_20 hb 3 (by decide), gkW_20 hb 4 (by decide)]
    unfold wrd
    by_cases q0 : j < 4
    · rw [if_pos q0, show j / 4 = 0 by omega]
    · rw [if_neg q0]
      by_cases q1 : j < 8
      · rw [if_pos q1, show j / 4 = 1 by omega]
      · rw [if_neg q1]
        by_cases q2 : j < 12
        · rw [if_pos q2, show j / 4 = 2 by omega]
        · rw [if_neg q2]
          by_cases q3 : j < 16
          · rw [if_pos q3, show j / 4 = 3 by omega]
          · rw [if_neg q3, show j / 4 = 4 by omega]
  unfold byt
  rw [ew]
  unfold wdN
  rw [byt4 (hb _) (hb _) (hb _) (hb _) (j % 4) (by omega)]
  congr 1
  have h4 : j % 4 = 0 ∨ j % 4 = 1 ∨ j % 4 = 2 ∨ j % 4 = 3 := by omega
  rcases h4 with z | z | z | z
  · rw [z, if_pos rfl, show 4 * (j / 4) = j by omega]
  · rw [z, if_neg (by decide), if_pos rfl, show 4 * (j / 4) + 1 = j by omega]
  · rw [z, if_neg (by decide), if_neg (by decide), if_pos rfl, show 4 * (j / 4) + 2 = j by omega]
  · rw [z, if_neg (by decide), if_neg (by decide), if_neg (by decide), show 4 * (j / 4) + 3 = j by omega]
section FD
variable {B n : Nat} {ρ : gS} {h0 : jv_H} {K : jK} {a m : Nat} {f : Nat → Int32} {l : Nat → Nat}
/-- p bytes are on the tape -/
def FdI (m : Nat) (l : Nat → Nat) (p : Nat) (ρ τ : gS) : Prop := (τ 324 = ρ 324 ∧ τ 327 = ρ 327 ∧ τ 328 = ρ 328 ∧ τ 329 = ρ 329) ∧ (∀ j, ¬ j = 8 → τ 323 j = ρ 323 j) ∧ τ 323 8 = iN p ∧ ∀ i, i < p → τ 330 i = iN (btN m l 0 i)
theorem FdI.app {p : Nat} {τ : gS} {w : Nat → Int32} (h : FdI m l p ρ τ) (hp : p + 20 ≤ 1000) (hw : ∀ j, j < 20 → w j = iN (btN m l p j)) : FdI m l (p + 20) ρ (hAp τ w) := by
  obtain ⟨⟨a1, a2, a3, a4⟩, b, c, d⟩ := h
  have e20 : τ 323 8 + 20 = iN (p + 20) := by rw [c, show (20 : Int32) = iN 20 from rfl, iN_add]
  have ng : ¬ 1000 < τ 323 8 + 20 := by
    rw [e20]
    intro z
    have := (iN_lt (k := 1000) (by decide) (by omega)).mp z
    omega
  unfold hAp
  rw [if_neg ng]
  refine ⟨⟨?_, ?_, ?_, ?_⟩, fun j hj => ?_, ?_, fun i hi => ?_⟩
  · rw [grow_ne (by decide), grow_ne (by decide), a1]
  · rw [grow_ne (by decide), grow_ne (by decide), a2]
  · rw [grow_ne (by decide), grow_ne (by decide), a3]
  · rw [grow_ne (by decide), grow_ne (by decide), a4]
  · rw [grow_at, rup_ne hj, b j hj]
  · rw [grow_at, rup_at, e20]
  · rw [grow_ne (by decide), grow_at, c, iN_nat (by omega)]
    unfold fAp
    by_cases q : p ≤ i ∧ i < p + 20
    · rw [if_pos q, hw _ (by omega)]
      unfold btN
      rw [show p + (i - p) = i by omega, Nat.zero_add]
    · rw [if_neg q]
      exact d i (by omega)
/-- twenty bytes -/
theorem fd_b (ht : jT B h0 a m f) (hm : m ≤ 1000) (hl : ∀ i, i < m → f i = iN (l i) ∧ l i < 128) {c s p q : Nat} (hp : p ≤ 1000) (hG : ∀ h, LX B n ρ [(q, 5, gkW (btN m l p) 20)] c s h0 h → jE 189 79 [some (.ref B), some (.ref a), some (.int 1), some (.int (iN p)), some (.ref q), some (.int (iN 20))] [] h K) :
    ∀ (e k : Nat), k + e = 20 → ∀ {h : jv_H}, LX B n ρ [(q, 5, gkW (btN m l p) k)] c s h0 h → jE 189 20 [some (.ref B), some (.ref a), some (.int 1), some (.int (iN p)), some (.ref q), some (.int (iN k))] [] h K := by
  intro e
  induction e with
  | zero =>
    intro k hk h hx
    have hk : k = 20 := by omega
    subst hk
    exact fd_20 ht (by omega) hx ⟨fun _ => hG, fun z => absurd z (by decide)⟩
  | succ e ih =>
    intro k hk h hx
    have e4 : iN k / 4 = iN (k / 4) := iN_div (d := 4) (by omega) (by decide)
    have n4 : (iN (k / 4)).toNatClampNeg = k / 4 := iN_nat (by omega)
    have b4 : (0 : Int32) ≤ iN (k / 4) ∧ (iN (k / 4)).toNatClampNeg < 5 := ⟨(iN_le (k := 0) (by decide) (by omega)).mpr (Nat.zero_le _), by rw [n4]; omega⟩
    have ek : iN k + 1 = iN (k + 1) := iN_add k 1
    have epk : iN p + iN k = iN (p + k) := iN_add p k
    have go : ∀ (h1 : jv_H) (y : Int32), y = iN (btN m l p k) → LX B n ρ [(q, 5, gkW (btN m l p) k)] c s h0 h1 → jE 189 71 [some (.ref B), some (.ref a), some (.int 1), some (.int (iN p)), some (.ref q), some (.int (iN k))] [.int y, .int (gkW (btN m l p) k (k / 4) <<< ((8 : Int32) &&& 31)), .int (iN (k / 4)), .ref q] h1 K := by
      intro h1 y hy hx1
      refine fd_71 hx1 ⟨b4, fun h2 hx2 => ?_⟩
      rw [ek]
      rw [n4, hy] at hx2
      exact ih (k + 1) (by omega) hx2
    refine fd_20 ht (by omega) hx ⟨fun z => absurd ((iN_lt (m := 20) (by omega) (by decide)).mpr (by omega)) z, fun _ => ?_⟩
    rw [e4, n4, epk]
    refine ⟨⟨b4.1, by omega⟩, fun z h1 hx1 => go h1 _ ?_ hx1, fun z => ?_⟩
    · have hlt : ¬ p + k < m := fun v => z ((iN_lt (by omega) (by omega)).mpr v)
      unfold btN
      rw [if_neg hlt]
      rfl
    · have hlt : p + k < m := (iN_lt (by omega) (by omega)).mp z
      refine ⟨⟨(iN_le (k := 0) (by decide) (by omega)).mpr (Nat.zero_le _), z⟩, fun h1 hx1 => go h1 _ ?_ hx1⟩
      obtain ⟨e1, e2⟩ := hl (p + k) hlt
      rw [iN_nat (by omega), e1, an255, an255, Nat.mod_mod, Nat.mod_eq_of_lt (by omega)]
      unfold btN
      rw [if_pos hlt]
/-- all of it -/
theorem fd_a (hm : m ≤ 1000) (ht : jT B h0 a m f) (hl : ∀ i, i < m → f i = iN (l i) ∧ l i < 128) {c s : Nat} (hK : ∀ (τ : gS) h, FdT m f ρ τ → LX B n τ [] c s h0 h → K (some (.int 1)) h) :
    ∀ (e p : Nat), m ≤ p + 20 * e → p % 20 = 0 → p < m + 20 → p ≤ 1000 → ∀ {h : jv_H} {τ : gS} {r4 r5 : Option Value}, FdI m l p ρ τ → LX B n τ [] (c + 1 + e) (s + 5 + 5 * e) h0 h → jE 189 4 [some (.ref B), some (.ref a), some (.int 1), some (.int (iN p)), r4, r5] [] h K := by
  intro e
  induction e with
  | zero =>
    intro p h1 h2 h3 h4 h τ r4 r5 hI hx
    have hI0 := hI
    obtain ⟨⟨a1, a2, a3, a4⟩, b, c1, d⟩ := hI
    refine fd_4 ht (by omega) (c := c) (s := s) (hx.le (by omega) (by omega)) ⟨fun _ => ?_, fun z => absurd ((iN_lt (by omega) (by omega)).mp z) (by omega)⟩
    have es : iN p - iN m = iN (p - m) := iN_sub (by omega) (by omega)
    rw [es, c1]
    have g : gTru (iN p) (iN (p - m)) := ⟨fun z => absurd ((iN_lt (m := 0) (by omega) (by decide)).mp z) (Nat.not_lt_zero _), fun z => by
      have := (iN_lt (by omega) (by omega)).mp z
      omega⟩
    have ed : iN p - iN (p - m) = iN m := by
      rw [iN_sub (by omega) (by omega)]
      congr 1
      omega
    rw [if_pos g, ed]
    refine ⟨rfl, fun h5 hx5 => hK _ h5 ?_ hx5⟩
    unfold hTr
    rw [c1, if_pos g, ed]
    refine ⟨⟨?_, ?_, ?_, ?_⟩, fun j hj => ?_, ?_, fun i hi => ?_⟩
    · rw [grow_ne (by decide), a1]
    · rw [grow_ne (by decide), a2]
    · rw [grow_ne (by decide), a3]
    · rw [grow_ne (by decide), a4]
    · rw [grow_at, rup_ne hj, b j hj]
    · rw [grow_at, rup_at]
    · rw [grow_ne (by decide), d i (by omega), (hl i hi).1]
      unfold btN
      rw [Nat.zero_add, if_pos hi]
  | succ e ih =>
    intro p h1 h2 h3 h4 h τ r4 r5 hI hx
    by_cases q : p < m
    · have hI0 := hI
      obtain ⟨⟨a1, a2, a3, a4⟩, b, c1, d⟩ := hI
      refine fd_4 ht (by omega) (c := c + 1 + e) (s := s + 5 + 5 * e) (hx.le (by omega) (by omega)) ⟨fun z => absurd ((iN_lt (by omega) (by omega)).mpr q) z, fun _ q8 h5 hx5 => ?_⟩
      refine fd_b ht hm hl (p := p) (q := q8) h4 (fun h6 hx6 => ?_) 20 0 rfl hx5
      have ep : iN p + 20 = iN (p + 20) := iN_add p 20
      have e20 : τ 323 8 + 20 = iN (p + 20) := by rw [c1]; exact ep
      have ng : ¬ 1000 < iN (p + 20) := by
        intro z
        have := (iN_lt (k := 1000) (by decide) (by omega)).mp z
        omega
      refine fd_79 hx6 ⟨?_, fun h7 hx7 => ?_⟩
      · rw [e20, ep, if_neg ng]
      · rw [ep]
        refine ih (p + 20) (by omega) (by omega) (by omega) (by omega) (hI0.app (by omega) (fun j hj => ?_)) hx7
        exact byt_20 (fun j => btN_lt (fun i hi => (hl i hi).2) p j) hj
    · have hI0 := hI
      exact ih p (by omega) h2 h3 h4 hI0 (hx.le (by omega) (by omega))
theorem lm_feeds {c s : Nat} {h : jv_H} (hm : m ≤ 1000) (ht : jT B h a m f) (hl : ∀ i, i < m → f i = iN (l i) ∧ l i < 128) (h8 : ρ 323 8 = 0) (hx : LX B n ρ [] (c + 51) (s + 255) h h) : jE 189 0 [some (.ref B), some (.ref a), none, none, none, none] [] h (fun r h' => r = some (.int 1) ∧ ∃ τ, FdT m f ρ τ ∧ LX B n τ [] c s h h') := by
  refine fd_0 hx (fun h1 hx1 => ?_)
  refine fd_a hm ht hl (fun τ h2 fd hx2 => ⟨rfl, τ, fd, hx2⟩) 50 0 (by omega) rfl (by omega) (by decide) ⟨⟨rfl, rfl, rfl, rfl⟩, fun _ _ => rfl, h8, fun i hi => absurd hi (Nat.not_lt_zero _)⟩ (hx1.le (by omega) (by omega))
end FD
section FDR
variable {y pc B n c s : Nat} {ρ : gS} {A : jAs} {h0 h : jv_H} {Lv : List (Option Value)} {r : List Value} {K : jK} {a m : Nat} {f : Nat → Int32} {l : Nat → Nat}
theorem lx_feeds (hD : jx_chk y pc 189 2 6 0 10 = true) (hx : LX B n ρ A (c + 51) (s + 255) h0 h) (hm : m ≤ 1000) (ht : jT B h a m f) (hl : ∀ i, i < m → f i = iN (l i) ∧ l i < 128) (h8 : ρ 323 8 = 0) (hw1 : jv_wd r ≤ 8) (hg : ∀ h' τ, FdT m f ρ τ → LX B n τ A c s h0 h' → jE y (pc + 3) Lv (.int 1 :: r) h' K) : jE y pc Lv (.ref a :: .ref B :: r) h K := by
  refine jx_call (z := 189) (na := 2) (mL := 6) (ck := 0) (ow := 10) hD (by show 2 ≤ r.length + 2; omega) hw1 rfl (Or.inl rfl) ?_
  have hs : LX B n ρ [] (c + 51) (s + 255) h h := LX.start hx.1 hx.2.2.2.1
  refine (lm_feeds hm ht hl h8 hs).mono (fun r1 h1 q => ?_)
  obtain ⟨rfl, τ, q1, q2⟩ := q
  exact hg h1 τ q1 (hx.back q2)
theorem XP.old (hx : XP B n ρ h) {b : Nat} (hb : jv_old b = true) : h.1 b = jv_oldc b := by
  obtain ⟨-, σ, ⟨-, h1, hr, hd, hS⟩, -⟩ := hx
  have := jv_old_eq hb
  rcases hS.1 b (Or.inr (Or.inr hb)) with e | ⟨e, -⟩
  · rw [jm_big (by omega), hr.2.2.1 b hb] at e
    rw [e]
    unfold jv_oldc
    split
    · show Sum.inr (Sum.inr (8, [Value.ref (jm_p _ (b + 100)), Value.int 0])) = _
      rw [jm_big (by omega)]
    · split
      · rfl
      · split
        · rfl
        · split <;> rfl
  · omega
def zoeF : Nat → Int32 := fun i => if i = 0 then 122 else if i = 1 then 111 else 101
def zoeN : Nat → Nat := fun i => if i = 0 then 122 else if i = 1 then 111 else 101
theorem zoeT (hx : XP B n ρ h) (hb : h.2.1 ≤ 1000000) : jT B h 1000037 3 zoeF := by
  have o1 : jv_old 1000037 = true := by decide
  have o2 : jv_old 1000137 = true := by decide
  have := hx.lt
  refine ⟨⟨Or.inr o1, Or.inr (by omega)⟩, 1000137, [], (hx.old o1).trans rfl, ⟨Or.inr o2, Or.inr (by omega)⟩, _, (hx.old o2).trans rfl, ?_⟩
  decide
theorem lx_zoe (hD : jx_chk y pc 189 2 6 0 10 = true) (hx : LX B n ρ A (c + 51) (s + 255) h0 h) (h8 : ρ 323 8 = 0) (hw1 : jv_wd r ≤ 8) (hg : ∀ h' τ, FdT 3 zoeF ρ τ → LX B n τ A c s h0 h' → jE y (pc + 3) Lv (.int 1 :: r) h' K) : jE y pc Lv (.ref 1000037 :: .ref B :: r) h K := by
  have hb := hx.2.2.2.1.1
  refine lx_feeds (l := zoeN) hD hx (by decide) (zoeT hx.1 (by omega)) ?_ h8 hw1 hg
  decide
end FDR
