/-! A BUILDER'S MEMBERS -/
section SB4
variable {h : jv_H} {K : jK} {q v m : Nat} {w : List Int32}
theorem i_ofNat_add {a b : Nat} : Int32.ofNat a + Int32.ofNat b = Int32.ofNat (a + b) := (Int32.ofNat_add a b).symm
theorem i_shl0 {x : Int32} : x <<< ((0 : Int32) &&& 31) = x := by
  rw [show (0 : Int32) &&& 31 = 0 by decide, Int32.shiftLeft_zero]
theorem i_byte {x : Int32} (hx : 0 ≤ x ∧ x < 128) : x.toInt8.toInt32 = x ∧ fits .byte (.int x) = true ∧ ¬ 255 < x := by
  have h : ∀ k, k < 128 → (Int32.ofNat k).toInt8.toInt32 = Int32.ofNat k ∧ fits .byte (.int (Int32.ofNat k)) = true ∧ ¬ 255 < Int32.ofNat k := by decide
  have e : x = Int32.ofNat x.toNatClampNeg := by
    rw [← Int32.toInt_inj, Int32.toInt_ofNat_of_lt]
    · show x.toInt = (x.toInt.toNat : Int)
      have := Int32.le_iff_toInt_le.mp hx.1
      have e0 : (0 : Int32).toInt = 0 := by decide
      omega
    · show x.toInt.toNat < _
      have := Int32.lt_iff_toInt_lt.mp hx.2
      have e0 : (128 : Int32).toInt = 128 := by decide
      omega
  have h2 : x.toNatClampNeg < 128 := by
    show x.toInt.toNat < _
    have := Int32.lt_iff_toInt_lt.mp hx.2
    have e0 : (128 : Int32).toInt = 128 := by decide
    omega
  rw [e]
  exact h _ h2
/-- a builder's cell, told in one -/
theorem jSB.o (hs : jSB h q v m w) : ∃ ml, h.1 q = .inr (.inr (9, [.ref v, .int 0, ml, .int (Int32.ofNat w.length)])) := hs.2.1
/-- what is written: behind a call that made room, the builder's object and row alone -/
theorem jSu.put {h1 h2 : jv_H} {v1 m1 : Nat} (hu : jSu h h1 q v m v1 m1) (hv1 : v1 < h1.2.1) (e2 : h2.2 = h1.2) (e1 : ∀ b, b ≠ q → b ≠ v1 → h2.1 b = h1.1 b) : jSu h h2 q v m v1 m1 := by
  obtain ⟨u1, u2, u3, u4⟩ := hu
  refine ⟨fun b hb n1 n2 => ?_, u2, by rw [e2]; exact u3, by rw [e2]; exact u4⟩
  rw [e2] at hb
  rw [e1 b n1 (by omega)]
  exact u1 b hb n1 n2
/-- the builder with more letters -/
theorem jSB.more {h1 h2 : jv_H} {t : List Int32} (hs : jSB h1 q v m w) (e2 : h2.2 = h1.2) (eq : ∃ ml, h2.1 q = .inr (.inr (9, [.ref v, .int 0, ml, .int (Int32.ofNat (w ++ t).length)]))) (ev : ∃ g, h2.1 v = .inl (4, m, g) ∧ (∀ j, j < (w ++ t).length → g j = (w ++ t).getD j 0) ∧ ∀ j, j < m → fits .byte (.int (g j)) = true) (hm : (w ++ t).length ≤ m) (h4 : (w ++ t).length ≤ 4000) (ht : jLt t) : jSB h2 q v m (w ++ t) := by
  obtain ⟨⟨q1, q2, q3⟩, -, -, ⟨l1, l2, l3⟩, hl⟩ := hs
  refine ⟨⟨by rw [e2]; exact q1, by rw [e2]; exact q2, q3⟩, eq, ev, ⟨hm, h4, l3⟩, fun c hc => ?_⟩
  rcases List.mem_append.mp hc with z | z
  · exact hl c z
  · exact ht c z
theorem getD_app1 {t : List Int32} {j : Nat} (hj : j < w.length) : (w ++ t).getD j 0 = w.getD j 0 := by
  rw [List.getD_eq_getElem?_getD, List.getD_eq_getElem?_getD, List.getElem?_append_left hj]
theorem getD_app2 {t : List Int32} {j : Nat} (hj : w.length ≤ j) : (w ++ t).getD j 0 = t.getD (j - w.length) 0 := by
  rw [List.getD_eq_getElem?_getD, List.getD_eq_getElem?_getD, List.getElem?_append_right hj]
theorem f9_3 : jv_fty 9 3 = .int := by decide +kernel
theorem f9_0 : jv_fty 9 0 = .array .byte := by decide +kernel
theorem f9_1 : jv_fty 9 1 = .byte := by decide +kernel
theorem sb_latin (hs : jSB h q v m w) (hK : K (some (.int 1)) h) : jE 173 0 [some (.ref q)] [] h K := by
  obtain ⟨ml, e1⟩ := hs.o
  refine jx_sta (idx := 18) (v := .int 1) (by decide) (by decide +kernel) (by decide +kernel) ?_
  refine jx_if_eq (off := 14) (b := 17) (by decide) (by decide +kernel) (by decide) (fun e => absurd e (by decide)) (fun _ => ?_)
  refine jx_blk (by decide) [(.aload_n 0, 1)] (pc' := 7) (Lv' := [some (.ref q)]) (st' := [.ref q]) (by decide +kernel) rfl ?_
  refine jx_getf (idx := 22) (cx := 9) (k := 1) (by decide) (by decide +kernel) (by decide +kernel) (Or.inl hs.1.1) e1 rfl ?_
  refine jx_if_ne (off := 7) (b := 17) (by decide) (by decide +kernel) (by decide) (fun e => absurd rfl e) (fun _ => ?_)
  refine jx_blk (by decide) [(.iconst 1, 1)] (pc' := 14) (Lv' := [some (.ref q)]) (st' := [.int 1]) (by decide +kernel) rfl ?_
  refine jx_goto (off := 4) (b := 18) (by decide) (by decide +kernel) (by decide) ?_
  exact jx_zret (by decide) (by decide +kernel) (by decide +kernel) (Or.inr rfl) hK
theorem sb_len0 (hs : jSB h q v m w) (hK : K (some (.int (Int32.ofNat w.length))) h) : jE 177 0 [some (.ref q)] [] h K := by
  obtain ⟨ml, e1⟩ := hs.o
  refine jx_blk (by decide) [(.aload_n 0, 1)] (pc' := 1) (Lv' := [some (.ref q)]) (st' := [.ref q]) (by decide +kernel) rfl ?_
  refine jx_getf (idx := 79) (cx := 9) (k := 3) (by decide) (by decide +kernel) (by decide +kernel) (Or.inl hs.1.1) e1 rfl ?_
  exact jx_iret .int (by decide) (by decide +kernel) (by decide +kernel) rfl hK
theorem sb_len (hs : jSB h q v m w) (hK : K (some (.int (Int32.ofNat w.length))) h) : jE 165 0 [some (.ref q)] [] h K := by
  obtain ⟨ml, e1⟩ := hs.o
  refine jx_blk (by decide) [(.aload_n 0, 1)] (pc' := 1) (Lv' := [some (.ref q)]) (st' := [.ref q]) (by decide +kernel) rfl ?_
  refine jx_call (z := 177) (na := 1) (mL := 1) (ck := 2) (ow := 11) (by decide +kernel) (by show 1 ≤ 1; decide) (Nat.le_of_ble_eq_true rfl) rfl (Or.inr ⟨q, 9, _, rfl, Or.inl hs.1.1, e1, rfl⟩) ?_
  refine sb_len0 hs ?_
  exact jx_iret .int (by decide) (by decide +kernel) (by decide +kernel) rfl hK
theorem sb_val (hs : jSB h q v m w) (hK : K (some (.ref v)) h) : jE 176 0 [some (.ref q)] [] h K := by
  obtain ⟨ml, e1⟩ := hs.o
  refine jx_blk (by decide) [(.aload_n 0, 1)] (pc' := 1) (Lv' := [some (.ref q)]) (st' := [.ref q]) (by decide +kernel) rfl ?_
  refine jx_getf (idx := 15) (cx := 9) (k := 0) (by decide) (by decide +kernel) (by decide +kernel) (Or.inl hs.1.1) e1 rfl ?_
  exact jx_aret (by decide) (by decide +kernel) (Or.inl ⟨.byte, by decide +kernel⟩) hK
theorem sb_can {x : Int32} (hx : ¬ 255 < x) (hK : K (some (.int 1)) h) : jE 183 0 [some (.int x)] [] h K := by
  refine jx_blk (by decide) [(.iload_n 0, 1), (.sipush 255, 3)] (pc' := 4) (Lv' := [some (.int x)]) (st' := [.int 255, .int x]) (by decide +kernel) rfl ?_
  refine jx_ic_gt (off := 7) (b := 11) (by decide) (by decide +kernel) (by decide) (fun e => absurd e hx) (fun _ => ?_)
  refine jx_blk (by decide) [(.iconst 1, 1)] (pc' := 8) (Lv' := [some (.int x)]) (st' := [.int 1]) (by decide +kernel) rfl ?_
  refine jx_goto (off := 4) (b := 12) (by decide) (by decide +kernel) (by decide) ?_
  exact jx_zret (by decide) (by decide +kernel) (by decide +kernel) (Or.inr rfl) hK
theorem sb_ac0 {x : Int32} (hs : jSB h q v m w) (hx : 0 ≤ x ∧ x < 128) (hl : w.length + 1 ≤ 4000) (hK : ∀ (h' : jv_H) (v' m' : Nat), jSB h' q v' m' (w ++ [x]) → jSu h h' q v m v' m' → K (some (.ref q)) h') : jE 171 0 [some (.ref q), some (.int x)] [] h K := by
  obtain ⟨ml, e1⟩ := hs.o
  refine jx_blk (by decide) [(.aload_n 0, 1), (.aload_n 0, 1)] (pc' := 2) (Lv' := [some (.ref q), some (.int x)]) (st' := [.ref q, .ref q]) (by decide +kernel) rfl ?_
  refine jx_getf (idx := 79) (cx := 9) (k := 3) (by decide) (by decide +kernel) (by decide +kernel) (Or.inl hs.1.1) e1 rfl ?_
  refine jx_blk (by decide) [(.iconst 1, 1), (.iadd, 1)] (pc' := 7) (Lv' := [some (.ref q), some (.int x)]) (st' := [.int ((Int32.ofNat w.length) + 1), .ref q]) (by decide +kernel) rfl ?_
  rw [show Int32.ofNat w.length + 1 = Int32.ofNat (w.length + 1) from (Int32.ofNat_add _ 1).symm]
  refine jx_call (z := 168) (na := 2) (mL := 3) (ck := 1) (ow := 11) (by decide +kernel) (by show 2 ≤ 2; decide) (Nat.le_of_ble_eq_true rfl) rfl (Or.inr ⟨q, 9, _, rfl, Or.inl hs.1.1, e1, rfl⟩) ?_
  refine sb_ens hs hl (fun h1 v1 m1 hs1 hk hu => ?_)
  obtain ⟨ml2, e2⟩ := hs1.o
  obtain ⟨g, e3, e4, e5⟩ := hs1.2.2.1
  show jE 171 10 [some (.ref q), some (.int x)] [] h1 K
  refine jx_blk (by decide) [(.aload_n 0, 1)] (pc' := 11) (Lv' := [some (.ref q), some (.int x)]) (st' := [.ref q]) (by decide +kernel) rfl ?_
  refine jx_call (z := 173) (na := 1) (mL := 1) (ck := 1) (ow := 11) (by decide +kernel) (by show 1 ≤ 1; decide) (Nat.le_of_ble_eq_true rfl) rfl (Or.inr ⟨q, 9, _, rfl, Or.inl hs1.1.1, e2, rfl⟩) ?_
  refine sb_latin hs1 ?_
  refine jx_if_eq (off := 31) (b := 45) (by decide) (by decide +kernel) (by decide) (fun e => absurd e (by decide)) (fun _ => ?_)
  refine jx_blk (by decide) [(.iload_n 1, 1)] (pc' := 18) (Lv' := [some (.ref q), some (.int x)]) (st' := [.int x]) (by decide +kernel) rfl ?_
  refine jx_call (z := 183) (na := 1) (mL := 1) (ck := 0) (ow := 14) (by decide +kernel) (by show 1 ≤ 1; decide) (Nat.le_of_ble_eq_true rfl) rfl (Or.inl rfl) ?_
  refine sb_can (i_byte hx).2.2 ?_
  refine jx_if_eq (off := 24) (b := 45) (by decide) (by decide +kernel) (by decide) (fun e => absurd e (by decide)) (fun _ => ?_)
  refine jx_blk (by decide) [(.aload_n 0, 1)] (pc' := 25) (Lv' := [some (.ref q), some (.int x)]) (st' := [.ref q]) (by decide +kernel) rfl ?_
  refine jx_getf (idx := 15) (cx := 9) (k := 0) (by decide) (by decide +kernel) (by decide +kernel) (Or.inl hs1.1.1) e2 rfl ?_
  refine jx_blk (by decide) [(.aload_n 0, 1), (.dup, 1)] (pc' := 30) (Lv' := [some (.ref q), some (.int x)]) (st' := [.ref q, .ref q, .ref v1]) (by decide +kernel) rfl ?_
  refine jx_getf (idx := 79) (cx := 9) (k := 3) (by decide) (by decide +kernel) (by decide +kernel) (Or.inl hs1.1.1) e2 rfl ?_
  refine jx_blk (by decide) [(.dup_x1, 1), (.iconst 1, 1), (.iadd, 1)] (pc' := 36) (Lv' := [some (.ref q), some (.int x)]) (st' := [.int ((Int32.ofNat w.length) + 1), .ref q, .int (Int32.ofNat w.length), .ref v1]) (by decide +kernel) rfl ?_
  rw [show Int32.ofNat w.length + 1 = Int32.ofNat (w.length + 1) from (Int32.ofNat_add _ 1).symm]
  refine jx_putf (idx := 79) (cx := 9) (k := 3) (by decide) (by decide +kernel) (by decide +kernel) hs1.1.1 e2 (by show 3 < 4; decide) (by rw [f9_3]; exact ⟨rfl, rfl⟩) (Or.inl (by decide +kernel)) ?_
  refine jx_blk (by decide) [(.iload_n 1, 1), (.i2b, 1)] (pc' := 41) (Lv' := [some (.ref q), some (.int x)]) (st' := [.int x.toInt8.toInt32, .int (Int32.ofNat w.length), .ref v1]) (by decide +kernel) rfl ?_
  rw [(i_byte hx).1]
  refine jx_bast (n := m1) (f := g) (by decide) (by decide +kernel) (by show v1 < h1.2.1; exact hs1.1.2.1) ((jv_at_pne (fun z => hs1.1.2.2 z.symm)).trans e3) (i_byte hx).1 (by rw [i_nat (by omega)]; intro z; rcases z with z | z; exact i_nn (by omega) z; omega) ?_
  refine jx_goto (off := 33) (b := 75) (by decide) (by decide +kernel) (by decide) ?_
  refine jx_blk (by decide) [(.aload_n 0, 1)] (pc' := 76) (Lv' := [some (.ref q), some (.int x)]) (st' := [.ref q]) (by decide +kernel) rfl ?_
  refine jx_aret (by decide) (by decide +kernel) (Or.inr ⟨"java/lang/AbstractStringBuilder", by decide +kernel⟩) (hK _ v1 m1 (hs1.more rfl ⟨ml2, ?_⟩ ⟨_, jv_at_put, fun j hj => ?_, fun j hj => ?_⟩ (by rw [List.length_append]; exact hk) (by rw [List.length_append]; exact hl) (fun c hc => by rw [List.mem_singleton.mp hc]; exact hx)) (hu.put hs1.1.2.1 rfl (fun b n1 n2 => ?_)))
  · rw [List.length_append]
    exact (jv_at_pne hs1.1.2.2).trans jv_at_put
  · rw [i_nat (by omega)]
    rw [List.length_append] at hj
    have hj : j < w.length + 1 := hj
    unfold upd
    split
    · rename_i z
      rw [getD_app2 (by omega), z, Nat.sub_self]
      rfl
    · rw [getD_app1 (by omega)]
      exact e4 j (by omega)
  · unfold upd
    split
    · exact (i_byte hx).2.1
    · exact e5 j hj
  · exact (jv_at_pne n2).trans (jv_at_pne n1)
theorem sb_ac {x : Int32} (hs : jSB h q v m w) (hx : 0 ≤ x ∧ x < 128) (hl : w.length + 1 ≤ 4000) (hK : ∀ (h' : jv_H) (v' m' : Nat), jSB h' q v' m' (w ++ [x]) → jSu h h' q v m v' m' → K (some (.ref q)) h') : jE 161 0 [some (.ref q), some (.int x)] [] h K := by
  obtain ⟨ml, e1⟩ := hs.o
  refine jx_blk (by decide) [(.aload_n 0, 1), (.iload_n 1, 1)] (pc' := 2) (Lv' := [some (.ref q), some (.int x)]) (st' := [.int x, .ref q]) (by decide +kernel) rfl ?_
  refine jx_call (z := 171) (na := 2) (mL := 2) (ck := 2) (ow := 11) (by decide +kernel) (by show 2 ≤ 2; decide) (Nat.le_of_ble_eq_true rfl) rfl (Or.inr ⟨q, 9, _, rfl, Or.inl hs.1.1, e1, rfl⟩) ?_
  refine sb_ac0 hs hx hl (fun h' v' m' a b => ?_)
  show jE 161 5 [some (.ref q), some (.int x)] [.ref q] h' K
  refine jx_blk (by decide) [(.pop, 1), (.aload_n 0, 1)] (pc' := 7) (Lv' := [some (.ref q), some (.int x)]) (st' := [.ref q]) (by decide +kernel) rfl ?_
  exact jx_aret (by decide) (by decide +kernel) (Or.inr ⟨"java/lang/StringBuilder", by decide +kernel⟩) (hK h' v' m' a b)
/-- the claim's own texts -/
def oT (i : Nat) : List Int32 := jv_byt.getD i []
def jFix (h : jv_H) : Prop := ∀ a, jv_old a = true → h.1 a = jv_oldc a
theorem oT_lt : ∀ i, i < 37 → jLt (oT i) ∧ (oT i).length ≤ 8 := by
  have e : ∀ i, i < 37 → (∀ c ∈ oT i, 0 ≤ c ∧ c < 128) ∧ (oT i).length ≤ 8 := by decide +kernel
  exact e
theorem old_t {i : Nat} (hi : i < 37) : jv_old (1000001 + i) = true ∧ jv_old (1000101 + i) = true := by
  unfold jv_old
  rw [Bool.and_eq_true, Bool.and_eq_true]
  exact ⟨⟨Nat.ble_eq_true_of_le (by omega), Nat.ble_eq_true_of_le (by omega)⟩, Nat.ble_eq_true_of_le (by omega), Nat.ble_eq_true_of_le (by omega)⟩
theorem jFix.t (hF : jFix h) {i : Nat} (hi : i < 37) : h.1 (1000001 + i) = .inr (.inr (8, [.ref (1000101 + i), .int 0])) ∧ h.1 (1000101 + i) = .inl (4, (oT i).length, fun j => (oT i).getD j 0) := by
  constructor
  · rw [hF _ (old_t hi).1]
    unfold jv_oldc
    rw [if_pos (by omega), show 1000001 + i + 100 = 1000101 + i by omega]
  · rw [hF _ (old_t hi).2]
    unfold jv_oldc
    rw [if_neg (by omega), if_pos (by omega), show 1000101 + i - 1000101 = i by omega]
    rfl
theorem jFix.x (hF : jFix h) {i : Nat} (hi : i < 37) : jTx h (1000001 + i) (oT i).length (fun j => (oT i).getD j 0) := by
  obtain ⟨t1, t2⟩ := hF.t hi
  exact ⟨Or.inr (old_t hi).1, _, _, t1, Or.inr (old_t hi).2, _, _, t2, rfl, fun _ _ => rfl⟩
theorem jFix.fr {h' : jv_H} (hF : jFix h) (e : ∀ a, 1000000 ≤ a → h'.1 a = h.1 a) : jFix h' := by
  intro a ha
  have := jv_old_eq ha
  rw [e a (by omega)]
  exact hF a ha
theorem getD_mem {t : List Int32} {j : Nat} (hj : j < t.length) : t.getD j 0 ∈ t := by
  rw [List.getD_eq_getElem?_getD, List.getElem?_eq_getElem hj]
  exact List.getElem_mem hj
theorem sb_gb {i d p k : Nat} {g : Nat → Int32} (hi : i < 37) (hF : jFix h) (hd : d < h.2.1) (hne : 1000101 + i ≠ d) (ed : h.1 d = .inl (4, k, g)) (hp : p + (oT i).length ≤ k) (hk : k ≤ 8002) (hK : K none (jv_put h d (.inl (4, k, va_cpy (fun j => (oT i).getD j 0) g 0 p (oT i).length)))) : jE 154 0 [some (.ref (1000001 + i)), some (.ref d), some (.int (Int32.ofNat p)), some (.int 0)] [] h K := by
  obtain ⟨t1, t2⟩ := hF.t hi
  have ol := oT_lt i hi
  refine jx_blk (by decide) [(.aload_n 0, 1)] (pc' := 1) (Lv' := [some (.ref (1000001 + i)), some (.ref d), some (.int (Int32.ofNat p)), some (.int 0)]) (st' := [.ref (1000001 + i)]) (by decide +kernel) rfl ?_
  refine jx_call (z := 156) (na := 1) (mL := 1) (ck := 1) (ow := 8) (by decide +kernel) (by show 1 ≤ 1; decide) (Nat.le_of_ble_eq_true rfl) rfl (Or.inr ⟨1000001 + i, 8, _, rfl, Or.inr ⟨(old_t hi).1, rfl⟩, t1, rfl⟩) ?_
  refine js_coder (Or.inr (old_t hi).1) t1 ?_
  refine jx_blk (by decide) [(.iload_n 3, 1)] (pc' := 5) (Lv' := [some (.ref (1000001 + i)), some (.ref d), some (.int (Int32.ofNat p)), some (.int 0)]) (st' := [.int 0, .int 0]) (by decide +kernel) rfl ?_
  refine jx_ic_ne (off := 23) (b := 28) (by decide) (by decide +kernel) (by decide) (fun e => absurd rfl e) (fun _ => ?_)
  refine jx_blk (by decide) [(.aload_n 0, 1)] (pc' := 9) (Lv' := [some (.ref (1000001 + i)), some (.ref d), some (.int (Int32.ofNat p)), some (.int 0)]) (st' := [.ref (1000001 + i)]) (by decide +kernel) rfl ?_
  refine jx_getf (idx := 9) (cx := 8) (k := 0) (by decide) (by decide +kernel) (by decide +kernel) (Or.inr (old_t hi).1) t1 rfl ?_
  refine jx_blk (by decide) [(.iconst 0, 1), (.aload_n 1, 1), (.iload_n 2, 1), (.iload_n 3, 1), (.ishl, 1), (.aload_n 0, 1)] (pc' := 18) (Lv' := [some (.ref (1000001 + i)), some (.ref d), some (.int (Int32.ofNat p)), some (.int 0)]) (st' := [.ref (1000001 + i), .int ((Int32.ofNat p) <<< ((0 : Int32) &&& 31)), .ref d, .int 0, .ref (1000101 + i)]) (by decide +kernel) rfl ?_
  rw [i_shl0]
  refine jx_getf (idx := 9) (cx := 8) (k := 0) (by decide) (by decide +kernel) (by decide +kernel) (Or.inr (old_t hi).1) t1 rfl ?_
  refine jx_blen (by decide) (by decide +kernel) (Or.inr (old_t hi).2) t2 ?_
  refine jx_acpy (n := Int32.ofNat (oT i).length) (dp := Int32.ofNat p) (sp := 0) (by decide +kernel) (Or.inr (old_t hi).2) hd hne t2 ed ⟨i_nn (by omega), i_nn (by omega), by decide⟩ (by rw [i_nat (by omega)]; show 0 + _ ≤ _; omega) (by rw [i_nat (by omega), i_nat (by omega)]; exact hp) (fun j hj => ?_) (Nat.le_of_ble_eq_true rfl) ?_
  · show fits .byte (.int ((oT i).getD (0 + j) 0)) = true
    rw [i_nat (by omega)] at hj
    exact (i_byte (ol.1 _ (getD_mem (by omega)))).2.1
  rw [i_nat (by omega), i_nat (by omega)]
  refine jx_goto (off := 18) (b := 43) (by decide) (by decide +kernel) (by decide) ?_
  exact jx_vret (by decide) (by decide +kernel) (by decide +kernel) hK
theorem sb_infl {i : Nat} (hs : jSB h q v m w) (hF : jFix h) (hi : i < 37) (hK : K none h) : jE 174 0 [some (.ref q), some (.ref (1000001 + i))] [] h K := by
  obtain ⟨ml, e1⟩ := hs.o
  obtain ⟨t1, t2⟩ := hF.t hi
  refine jx_sta (idx := 18) (v := .int 1) (by decide) (by decide +kernel) (by decide +kernel) ?_
  refine jx_if_eq (off := 18) (b := 21) (by decide) (by decide +kernel) (by decide) (fun e => absurd e (by decide)) (fun _ => ?_)
  refine jx_blk (by decide) [(.aload_n 0, 1)] (pc' := 7) (Lv' := [some (.ref q), some (.ref (1000001 + i))]) (st' := [.ref q]) (by decide +kernel) rfl ?_
  refine jx_getf (idx := 22) (cx := 9) (k := 1) (by decide) (by decide +kernel) (by decide +kernel) (Or.inl hs.1.1) e1 rfl ?_
  refine jx_blk (by decide) [(.aload_n 1, 1)] (pc' := 11) (Lv' := [some (.ref q), some (.ref (1000001 + i))]) (st' := [.ref (1000001 + i), .int 0]) (by decide +kernel) rfl ?_
  refine jx_call (z := 156) (na := 1) (mL := 1) (ck := 1) (ow := 8) (by decide +kernel) (by show 1 ≤ 2; decide) (Nat.le_of_ble_eq_true rfl) rfl (Or.inr ⟨1000001 + i, 8, _, rfl, Or.inr ⟨(old_t hi).1, rfl⟩, t1, rfl⟩) ?_
  refine js_coder (Or.inr (old_t hi).1) t1 ?_
  refine jx_ic_eq (off := 7) (b := 21) (by decide) (by decide +kernel) (by decide) (fun _ => ?_) (fun e => absurd rfl e)
  exact jx_vret (by decide) (by decide +kernel) (by decide +kernel) hK
theorem sb_put {i : Nat} {g : Nat → Int32} (hs : jSB h q v m w) (hF : jFix h) (hi : i < 37) (hne : 1000101 + i ≠ v) (e2 : h.1 v = .inl (4, m, g)) (hp : w.length + (oT i).length ≤ m) (hK : K none (jv_put h v (.inl (4, m, va_cpy (fun j => (oT i).getD j 0) g 0 w.length (oT i).length)))) : jE 175 0 [some (.ref q), some (.int (Int32.ofNat w.length)), some (.ref (1000001 + i))] [] h K := by
  obtain ⟨ml, e1⟩ := hs.o
  obtain ⟨t1, t2⟩ := hF.t hi
  refine jx_blk (by decide) [(.aload_n 0, 1), (.aload_n 2, 1)] (pc' := 2) (Lv' := [some (.ref q), some (.int (Int32.ofNat w.length)), some (.ref (1000001 + i))]) (st' := [.ref (1000001 + i), .ref q]) (by decide +kernel) rfl ?_
  refine jx_call (z := 174) (na := 2) (mL := 2) (ck := 1) (ow := 11) (by decide +kernel) (by show 2 ≤ 2; decide) (Nat.le_of_ble_eq_true rfl) rfl (Or.inr ⟨q, 9, _, rfl, Or.inl hs.1.1, e1, rfl⟩) ?_
  refine sb_infl hs hF hi ?_
  show jE 175 5 [some (.ref q), some (.int (Int32.ofNat w.length)), some (.ref (1000001 + i))] [] h K
  refine jx_blk (by decide) [(.aload_n 2, 1), (.aload_n 0, 1)] (pc' := 7) (Lv' := [some (.ref q), some (.int (Int32.ofNat w.length)), some (.ref (1000001 + i))]) (st' := [.ref q, .ref (1000001 + i)]) (by decide +kernel) rfl ?_
  refine jx_getf (idx := 15) (cx := 9) (k := 0) (by decide) (by decide +kernel) (by decide +kernel) (Or.inl hs.1.1) e1 rfl ?_
  refine jx_blk (by decide) [(.iload_n 1, 1), (.aload_n 0, 1)] (pc' := 12) (Lv' := [some (.ref q), some (.int (Int32.ofNat w.length)), some (.ref (1000001 + i))]) (st' := [.ref q, .int (Int32.ofNat w.length), .ref v, .ref (1000001 + i)]) (by decide +kernel) rfl ?_
  refine jx_getf (idx := 22) (cx := 9) (k := 1) (by decide) (by decide +kernel) (by decide +kernel) (Or.inl hs.1.1) e1 rfl ?_
  refine jx_call (z := 154) (na := 4) (mL := 4) (ck := 1) (ow := 8) (by decide +kernel) (by show 4 ≤ 4; decide) (Nat.le_of_ble_eq_true rfl) rfl (Or.inr ⟨1000001 + i, 8, _, rfl, Or.inr ⟨(old_t hi).1, rfl⟩, t1, rfl⟩) ?_
  refine sb_gb hi hF hs.1.2.1 hne e2 hp hs.2.2.2.1.2.2 ?_
  exact jx_vret (by decide) (by decide +kernel) (by decide +kernel) hK
theorem jx_nn {y pc : Nat} {off : Int} {b a : Nat} {Lv : List (Option Value)} {r : List Value} (hy : y < 272) (hcode : jv_code y pc = some (.ifnonnull off, 3)) (hb : (pc : Int) + off = (b : Int)) (hg : jE y b Lv r h K) : jE y pc Lv (.ref a :: r) h K :=
  jx_br hy hcode rfl rfl rfl rfl (s_jmp hb) hg
theorem sb_as0 {i : Nat} (hs : jSB h q v m w) (hF : jFix h) (hi : i < 37) (hc : h.2.1 ≤ 900000) (hl : w.length + (oT i).length ≤ 4000) (hK : ∀ (h' : jv_H) (v' m' : Nat), jSB h' q v' m' (w ++ oT i) → jSu h h' q v m v' m' → K (some (.ref q)) h') : jE 170 0 [some (.ref q), some (.ref (1000001 + i)), none] [] h K := by
  obtain ⟨ml, e1⟩ := hs.o
  obtain ⟨t1, t2⟩ := hF.t hi
  refine jx_blk (by decide) [(.aload_n 1, 1)] (pc' := 1) (Lv' := [some (.ref q), some (.ref (1000001 + i)), none]) (st' := [.ref (1000001 + i)]) (by decide +kernel) rfl ?_
  refine jx_nn (off := 8) (b := 9) (by decide) (by decide +kernel) (by decide) ?_
  refine jx_blk (by decide) [(.aload_n 1, 1)] (pc' := 10) (Lv' := [some (.ref q), some (.ref (1000001 + i)), none]) (st' := [.ref (1000001 + i)]) (by decide +kernel) rfl ?_
  refine jx_call (z := 152) (na := 1) (mL := 1) (ck := 1) (ow := 8) (by decide +kernel) (by show 1 ≤ 1; decide) (Nat.le_of_ble_eq_true rfl) rfl (Or.inr ⟨1000001 + i, 8, _, rfl, Or.inr ⟨(old_t hi).1, rfl⟩, t1, rfl⟩) ?_
  refine js_len (hF.x hi) ?_
  refine jx_blk (by decide) [(.istore_n 2, 1), (.aload_n 0, 1), (.aload_n 0, 1)] (pc' := 16) (Lv' := [some (.ref q), some (.ref (1000001 + i)), some (.int (Int32.ofNat (oT i).length))]) (st' := [.ref q, .ref q]) (by decide +kernel) rfl ?_
  refine jx_getf (idx := 79) (cx := 9) (k := 3) (by decide) (by decide +kernel) (by decide +kernel) (Or.inl hs.1.1) e1 rfl ?_
  refine jx_blk (by decide) [(.iload_n 2, 1), (.iadd, 1)] (pc' := 21) (Lv' := [some (.ref q), some (.ref (1000001 + i)), some (.int (Int32.ofNat (oT i).length))]) (st' := [.int ((Int32.ofNat w.length) + (Int32.ofNat (oT i).length)), .ref q]) (by decide +kernel) rfl ?_
  rw [i_ofNat_add]
  refine jx_call (z := 168) (na := 2) (mL := 3) (ck := 1) (ow := 11) (by decide +kernel) (by show 2 ≤ 2; decide) (Nat.le_of_ble_eq_true rfl) rfl (Or.inr ⟨q, 9, _, rfl, Or.inl hs.1.1, e1, rfl⟩) ?_
  refine sb_ens hs hl (fun h1 v1 m1 hs1 hk hu => ?_)
  obtain ⟨ml2, e2⟩ := hs1.o
  obtain ⟨g, e3, e4, e5⟩ := hs1.2.2.1
  have hm1 := hs1.2.2.2.1.2.2
  have hv1 := hs1.1.2.1
  have hq1 := hs.1.1
  have hh1 : h1.2.1 + m ≤ h.2.1 + m1 := hu.2.2.1.2
  have hne : 1000101 + i ≠ v1 := by omega
  have hF1 : jFix h1 := hF.fr (fun b hb => hu.1 b (by omega) (by omega) (by have := hs.1.2.1; omega))
  show jE 170 24 [some (.ref q), some (.ref (1000001 + i)), some (.int (Int32.ofNat (oT i).length))] [] h1 K
  refine jx_blk (by decide) [(.aload_n 0, 1), (.aload_n 0, 1)] (pc' := 26) (Lv' := [some (.ref q), some (.ref (1000001 + i)), some (.int (Int32.ofNat (oT i).length))]) (st' := [.ref q, .ref q]) (by decide +kernel) rfl ?_
  refine jx_getf (idx := 79) (cx := 9) (k := 3) (by decide) (by decide +kernel) (by decide +kernel) (Or.inl hs1.1.1) e2 rfl ?_
  refine jx_blk (by decide) [(.aload_n 1, 1)] (pc' := 30) (Lv' := [some (.ref q), some (.ref (1000001 + i)), some (.int (Int32.ofNat (oT i).length))]) (st' := [.ref (1000001 + i), .int (Int32.ofNat w.length), .ref q]) (by decide +kernel) rfl ?_
  refine jx_call (z := 175) (na := 3) (mL := 3) (ck := 1) (ow := 11) (by decide +kernel) (by show 3 ≤ 3; decide) (Nat.le_of_ble_eq_true rfl) rfl (Or.inr ⟨q, 9, _, rfl, Or.inl hs1.1.1, e2, rfl⟩) ?_
  refine sb_put hs1 hF1 hi hne e3 hk ?_
  generalize hh2 : jv_put h1 v1 (.inl (4, m1, va_cpy (fun j => (oT i).getD j 0) g 0 w.length (oT i).length)) = h2 at *
  have x2 : h2.2 = h1.2 := by rw [← hh2]; rfl
  have hq2 : q < h2.2.1 := by rw [x2]; exact hs1.1.1
  have e6 : h2.1 q = .inr (.inr (9, [.ref v1, .int 0, ml2, .int (Int32.ofNat w.length)])) := by rw [← hh2]; exact (jv_at_pne hs1.1.2.2).trans e2
  show jE 170 33 [some (.ref q), some (.ref (1000001 + i)), some (.int (Int32.ofNat (oT i).length))] [] h2 K
  refine jx_blk (by decide) [(.aload_n 0, 1), (.dup, 1)] (pc' := 35) (Lv' := [some (.ref q), some (.ref (1000001 + i)), some (.int (Int32.ofNat (oT i).length))]) (st' := [.ref q, .ref q]) (by decide +kernel) rfl ?_
  refine jx_getf (idx := 79) (cx := 9) (k := 3) (by decide) (by decide +kernel) (by decide +kernel) (Or.inl hq2) e6 rfl ?_
  refine jx_blk (by decide) [(.iload_n 2, 1), (.iadd, 1)] (pc' := 40) (Lv' := [some (.ref q), some (.ref (1000001 + i)), some (.int (Int32.ofNat (oT i).length))]) (st' := [.int ((Int32.ofNat w.length) + (Int32.ofNat (oT i).length)), .ref q]) (by decide +kernel) rfl ?_
  rw [i_ofNat_add]
  refine jx_putf (idx := 79) (cx := 9) (k := 3) (by decide) (by decide +kernel) (by decide +kernel) hq2 e6 (by show 3 < 4; decide) (by rw [f9_3]; exact ⟨rfl, rfl⟩) (Or.inl (by decide +kernel)) ?_
  refine jx_blk (by decide) [(.aload_n 0, 1)] (pc' := 44) (Lv' := [some (.ref q), some (.ref (1000001 + i)), some (.int (Int32.ofNat (oT i).length))]) (st' := [.ref q]) (by decide +kernel) rfl ?_
  refine jx_aret (by decide) (by decide +kernel) (Or.inr ⟨"java/lang/AbstractStringBuilder", by decide +kernel⟩) (hK _ v1 m1 (hs1.more x2 ⟨ml2, ?_⟩ ⟨_, (jv_at_pne (fun z => hs1.1.2.2 z.symm)).trans (by rw [← hh2]; exact jv_at_put), fun j hj => ?_, fun j hj => ?_⟩ (by rw [List.length_append]; exact hk) (by rw [List.length_append]; exact hl) (oT_lt i hi).1) (hu.put hs1.1.2.1 x2 (fun b n1 n2 => ?_)))
  · rw [List.length_append]
    exact jv_at_put
  · rw [List.length_append] at hj
    unfold va_cpy
    split
    · rw [getD_app2 (by omega), Nat.zero_add]
    · rw [getD_app1 (by omega)]
      exact e4 j (by omega)
  · unfold va_cpy
    split
    · exact (i_byte ((oT_lt i hi).1 _ (getD_mem (by omega)))).2.1
    · exact e5 j hj
  · refine (jv_at_pne n1).trans ?_
    rw [← hh2]
    exact jv_at_pne n2
theorem sb_as {i : Nat} (hs : jSB h q v m w) (hF : jFix h) (hi : i < 37) (hc : h.2.1 ≤ 900000) (hl : w.length + (oT i).length ≤ 4000) (hK : ∀ (h' : jv_H) (v' m' : Nat), jSB h' q v' m' (w ++ oT i) → jSu h h' q v m v' m' → K (some (.ref q)) h') : jE 160 0 [some (.ref q), some (.ref (1000001 + i))] [] h K := by
  obtain ⟨ml, e1⟩ := hs.o
  refine jx_blk (by decide) [(.aload_n 0, 1), (.aload_n 1, 1)] (pc' := 2) (Lv' := [some (.ref q), some (.ref (1000001 + i))]) (st' := [.ref (1000001 + i), .ref q]) (by decide +kernel) rfl ?_
  refine jx_call (z := 170) (na := 2) (mL := 3) (ck := 2) (ow := 11) (by decide +kernel) (by show 2 ≤ 2; decide) (Nat.le_of_ble_eq_true rfl) rfl (Or.inr ⟨q, 9, _, rfl, Or.inl hs.1.1, e1, rfl⟩) ?_
  refine sb_as0 hs hF hi hc hl (fun h' v' m' a b => ?_)
  show jE 160 5 [some (.ref q), some (.ref (1000001 + i))] [.ref q] h' K
  refine jx_blk (by decide) [(.pop, 1), (.aload_n 0, 1)] (pc' := 7) (Lv' := [some (.ref q), some (.ref (1000001 + i))]) (st' := [.ref q]) (by decide +kernel) rfl ?_
  exact jx_aret (by decide) (by decide +kernel) (Or.inr ⟨"java/lang/StringBuilder", by decide +kernel⟩) (hK h' v' m' a b)
theorem sb_as2 {i : Nat} (hs : jSB h q v m w) (hF : jFix h) (hi : i < 37) (hc : h.2.1 ≤ 900000) (hl : w.length + (oT i).length ≤ 4000) (hK : ∀ (h' : jv_H) (v' m' : Nat), jSB h' q v' m' (w ++ oT i) → jSu h h' q v m v' m' → K (some (.ref q)) h') : jE 164 0 [some (.ref q), some (.ref (1000001 + i))] [] h K := by
  obtain ⟨ml, e1⟩ := hs.o
  refine jx_blk (by decide) [(.aload_n 0, 1), (.aload_n 1, 1)] (pc' := 2) (Lv' := [some (.ref q), some (.ref (1000001 + i))]) (st' := [.ref (1000001 + i), .ref q]) (by decide +kernel) rfl ?_
  refine jx_call (z := 160) (na := 2) (mL := 2) (ck := 1) (ow := 9) (by decide +kernel) (by show 2 ≤ 2; decide) (Nat.le_of_ble_eq_true rfl) rfl (Or.inr ⟨q, 9, _, rfl, Or.inl hs.1.1, e1, rfl⟩) ?_
  refine sb_as hs hF hi hc hl (fun h' v' m' a b => ?_)
  exact jx_aret (by decide) (by decide +kernel) (Or.inr ⟨"java/lang/AbstractStringBuilder", by decide +kernel⟩) (hK h' v' m' a b)
end SB4
