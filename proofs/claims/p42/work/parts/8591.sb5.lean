/-! A BUILDER'S MEMBERS: numbers of one or two digits -/
section SB5
variable {h : jv_H} {K : jK} {q v m : Nat} {w : List Int32}
/-- a number's digits -/
def dg (k : Nat) : List Int32 := if k < 10 then [Int32.ofNat (48 + k)] else [Int32.ofNat (48 + k / 10), Int32.ofNat (48 + k % 10)]
theorem dg_lt : ∀ k, k < 100 → jLt (dg k) ∧ (dg k).length ≤ 2 ∧ 1 ≤ (dg k).length := by
  have e : ∀ k, k < 100 → (∀ c ∈ dg k, 0 ≤ c ∧ c < 128) ∧ (dg k).length ≤ 2 ∧ 1 ≤ (dg k).length := by decide +kernel
  exact e
theorem sb_size {k : Nat} (hk9 : k < 100) (hK : K (some (.int (Int32.ofNat (dg k).length))) h) : jE 179 0 [some (.int (Int32.ofNat k)), none, none, none] [] h K := by
  have f : ∀ k, k < 100 → (k < 10 ↔ (-10 : Int32) < -(Int32.ofNat k)) ∧ (10 * (-10) : Int32) < -(Int32.ofNat k) := by decide +kernel
  have hlt := (f k hk9).1
  have hlt2 := (f k hk9).2
  refine jx_blk (by decide) [(.iconst 1, 1), (.istore_n 1, 1), (.iload_n 0, 1)] (pc' := 3) (Lv' := [some (.int (Int32.ofNat k)), some (.int 1), none, none]) (st' := [.int (Int32.ofNat k)]) (by decide +kernel) rfl ?_
  refine jx_if_lt (off := 8) (b := 11) (by decide) (by decide +kernel) (by decide) (fun e => absurd e (i_nn (by omega))) (fun _ => ?_)
  refine jx_blk (by decide) [(.iconst 0, 1), (.istore_n 1, 1), (.iload_n 0, 1), (.ineg, 1), (.istore_n 0, 1), (.bipush (-10), 2), (.istore_n 2, 1), (.iconst 1, 1), (.istore_n 3, 1), (.iload_n 3, 1), (.bipush 10, 2)] (pc' := 19) (Lv' := [some (.int (-(Int32.ofNat k))), some (.int 0), some (.int (-10)), some (.int 1)]) (st' := [.int 10, .int 1]) (by decide +kernel) rfl ?_
  refine jx_ic_ge (off := 23) (b := 42) (by decide) (by decide +kernel) (by decide) (fun e => absurd e (by decide)) (fun _ => ?_)
  refine jx_blk (by decide) [(.iload_n 0, 1), (.iload_n 2, 1)] (pc' := 24) (Lv' := [some (.int (-(Int32.ofNat k))), some (.int 0), some (.int (-10)), some (.int 1)]) (st' := [.int (-10), .int (-(Int32.ofNat k))]) (by decide +kernel) rfl ?_
  by_cases hk : k < 10
  · have e : (dg k).length = 1 := by unfold dg; rw [if_pos hk]; rfl
    rw [e] at hK
    refine jx_ic_le (off := 7) (b := 31) (by decide) (by decide +kernel) (by decide) (fun e => absurd (hlt.mp hk) e) (fun _ => ?_)
    refine jx_blk (by decide) [(.iload_n 3, 1), (.iload_n 1, 1), (.iadd, 1)] (pc' := 30) (Lv' := [some (.int (-(Int32.ofNat k))), some (.int 0), some (.int (-10)), some (.int 1)]) (st' := [.int (1 + 0)]) (by decide +kernel) rfl ?_
    exact jx_iret .int (by decide) (by decide +kernel) (by decide +kernel) rfl hK
  · have e : (dg k).length = 2 := by unfold dg; rw [if_neg hk]; rfl
    rw [e] at hK
    refine jx_ic_le (off := 7) (b := 31) (by decide) (by decide +kernel) (by decide) (fun _ => ?_) (fun e => absurd e (fun z => hk (hlt.mpr z)))
    refine jx_blk (by decide) [(.bipush 10, 2), (.iload_n 2, 1), (.imul, 1), (.istore_n 2, 1), (.iinc 3 1, 3)] (pc' := 39) (Lv' := [some (.int (-(Int32.ofNat k))), some (.int 0), some (.int (10 * (-10))), some (.int (1 + 1))]) (st' := []) (by decide +kernel) rfl ?_
    refine jx_goto (off := (-23)) (b := 16) (by decide) (by decide +kernel) (by decide) ?_
    refine jx_blk (by decide) [(.iload_n 3, 1), (.bipush 10, 2)] (pc' := 19) (Lv' := [some (.int (-(Int32.ofNat k))), some (.int 0), some (.int (10 * (-10))), some (.int (1 + 1))]) (st' := [.int 10, .int (1 + 1)]) (by decide +kernel) rfl ?_
    refine jx_ic_ge (off := 23) (b := 42) (by decide) (by decide +kernel) (by decide) (fun e => absurd e (by decide)) (fun _ => ?_)
    refine jx_blk (by decide) [(.iload_n 0, 1), (.iload_n 2, 1)] (pc' := 24) (Lv' := [some (.int (-(Int32.ofNat k))), some (.int 0), some (.int (10 * (-10))), some (.int (1 + 1))]) (st' := [.int (10 * (-10)), .int (-(Int32.ofNat k))]) (by decide +kernel) rfl ?_
    refine jx_ic_le (off := 7) (b := 31) (by decide) (by decide +kernel) (by decide) (fun e => absurd (hlt2) e) (fun _ => ?_)
    refine jx_blk (by decide) [(.iload_n 3, 1), (.iload_n 1, 1), (.iadd, 1)] (pc' := 30) (Lv' := [some (.int (-(Int32.ofNat k))), some (.int 0), some (.int (10 * (-10))), some (.int (1 + 1))]) (st' := [.int ((1 + 1) + 0)]) (by decide +kernel) rfl ?_
    exact jx_iret .int (by decide) (by decide +kernel) (by decide +kernel) rfl hK
theorem sb_gc {k p : Nat} {g : Nat → Int32} (hk9 : k < 100) (hF : jFix h) (hv : v < h.2.1) (hvo : v < 1000000) (e2 : h.1 v = .inl (4, m, g)) (hp : (dg k).length ≤ p ∧ p ≤ m) (hm : m ≤ 8002)
    (hK : ∀ (r : Int32) (h' : jv_H) (g' : Nat → Int32), h'.2 = h.2 → (∀ b, b ≠ v → h'.1 b = h.1 b) → h'.1 v = .inl (4, m, g') → (∀ j, j + (dg k).length < p ∨ p ≤ j → g' j = g j) → (∀ j, j < (dg k).length → g' (p - (dg k).length + j) = (dg k).getD j 0) → (∀ j, p - (dg k).length ≤ j → j < p → fits .byte (.int (g' j)) = true) → K (some (.int r)) h') : jE 178 0 [some (.int (Int32.ofNat k)), some (.int (Int32.ofNat p)), some (.ref v), none, none, none, none] [] h K := by
  have f : ∀ k, k < 100 → (k < 10 ↔ (-10 : Int32) < -(Int32.ofNat k)) ∧ (-100 : Int32) < -(Int32.ofNat k) ∧ (k < 10 ↔ ¬ -(Int32.ofNat k) < (-9 : Int32)) := by decide +kernel
  have hgt := (f k hk9).2.1
  have hlt : k < 10 ↔ ¬ -(Int32.ofNat k) < (-9 : Int32) := (f k hk9).2.2
  have hlt2 : ¬ k < 10 → -(Int32.ofNat k) < (-9 : Int32) := fun z => Decidable.not_not.mp (fun y => z (hlt.mpr y))
  have c1 : h.1 1000201 = .inl (4, 100, fun j => Int32.ofNat (48 + j % 10)) := hF _ (by decide)
  have c2 : h.1 1000202 = .inl (4, 100, fun j => Int32.ofNat (48 + j / 10)) := hF _ (by decide)
  have b1 : ∀ t, t < 10 → 0 ≤ Int32.ofNat (48 + t) ∧ Int32.ofNat (48 + t) < 128 := by decide +kernel
  have d1 := (dg_lt k hk9).2.2
  have ep : Int32.ofNat p + (-1) = Int32.ofNat (p - 1) := by
    rw [show (-1 : Int32) = -(Int32.ofNat 1) by decide, ← Int32.sub_eq_add_neg, i_sub (by omega)]
  have ep2 : ¬ k < 10 → Int32.ofNat (p - 1) + (-1) = Int32.ofNat (p - 2) := by
    intro z
    have : (dg k).length = 2 := by unfold dg; rw [if_neg z]; rfl
    rw [show (-1 : Int32) = -(Int32.ofNat 1) by decide, ← Int32.sub_eq_add_neg, i_sub (by omega), show p - 1 - 1 = p - 2 by omega]
  refine jx_blk (by decide) [(.iload_n 1, 1), (.istore 5, 2), (.iload_n 0, 1)] (pc' := 4) (Lv' := [some (.int (Int32.ofNat k)), some (.int (Int32.ofNat p)), some (.ref v), none, none, some (.int (Int32.ofNat p)), none]) (st' := [.int (Int32.ofNat k)]) (by decide +kernel) rfl ?_
  refine jx_if_ge (off := 7) (b := 11) (by decide) (by decide +kernel) (by decide) (fun _ => ?_) (fun e => absurd e (i_nn (by omega)))
  refine jx_blk (by decide) [(.iconst 0, 1), (.istore 6, 2), (.iload 6, 2)] (pc' := 16) (Lv' := [some (.int (Int32.ofNat k)), some (.int (Int32.ofNat p)), some (.ref v), none, none, some (.int (Int32.ofNat p)), some (.int 0)]) (st' := [.int 0]) (by decide +kernel) rfl ?_
  refine jx_if_ne (off := 6) (b := 22) (by decide) (by decide +kernel) (by decide) (fun e => absurd rfl e) (fun _ => ?_)
  refine jx_blk (by decide) [(.iload_n 0, 1), (.ineg, 1), (.istore_n 0, 1), (.iload_n 0, 1), (.bipush (-100), 2)] (pc' := 25) (Lv' := [some (.int (-(Int32.ofNat k))), some (.int (Int32.ofNat p)), some (.ref v), none, none, some (.int (Int32.ofNat p)), some (.int 0)]) (st' := [.int (-100), .int (-(Int32.ofNat k))]) (by decide +kernel) rfl ?_
  refine jx_ic_gt (off := 47) (b := 72) (by decide) (by decide +kernel) (by decide) (fun _ => ?_) (fun e => absurd hgt e)
  refine jx_blk (by decide) [(.aload_n 2, 1), (.iinc 5 (-1), 3), (.iload 5, 2)] (pc' := 78) (Lv' := [some (.int (-(Int32.ofNat k))), some (.int (Int32.ofNat p)), some (.ref v), none, none, some (.int ((Int32.ofNat p) + (-1))), some (.int 0)]) (st' := [.int ((Int32.ofNat p) + (-1)), .ref v]) (by decide +kernel) rfl ?_
  refine jx_sta (idx := 83) (v := .ref 1000201) (by decide) (by decide +kernel) (by decide +kernel) ?_
  refine jx_blk (by decide) [(.iload_n 0, 1), (.ineg, 1)] (pc' := 83) (Lv' := [some (.int (-(Int32.ofNat k))), some (.int (Int32.ofNat p)), some (.ref v), none, none, some (.int ((Int32.ofNat p) + (-1))), some (.int 0)]) (st' := [.int (-(-(Int32.ofNat k))), .ref 1000201, .int ((Int32.ofNat p) + (-1)), .ref v]) (by decide +kernel) rfl ?_
  rw [Int32.neg_neg]
  refine jx_bald (n := 100) (f := fun j => Int32.ofNat (48 + j % 10)) (by decide) (by decide +kernel) (Or.inr (by decide)) c1 (by rw [i_nat (by omega)]; intro z; rcases z with z | z; exact i_nn (by omega) z; omega) ?_
  rw [i_nat (by omega)]
  show jE 178 84 [some (.int (-(Int32.ofNat k))), some (.int (Int32.ofNat p)), some (.ref v), none, none, some (.int ((Int32.ofNat p) + (-1))), some (.int 0)] [.int (Int32.ofNat (48 + k % 10)), .int ((Int32.ofNat p) + (-1)), .ref v] h K
  refine jx_bast (n := m) (f := g) (by decide) (by decide +kernel) hv e2 (i_byte (b1 (k % 10) (by omega))).1 (by rw [ep, i_nat (by omega)]; intro z; rcases z with z | z; exact i_nn (by omega) z; omega) ?_
  rw [ep, i_nat (by omega)]
  refine jx_blk (by decide) [(.iload_n 0, 1), (.bipush (-9), 2)] (pc' := 88) (Lv' := [some (.int (-(Int32.ofNat k))), some (.int (Int32.ofNat p)), some (.ref v), none, none, some (.int (Int32.ofNat (p - 1))), some (.int 0)]) (st' := [.int (-9), .int (-(Int32.ofNat k))]) (by decide +kernel) rfl ?_
  by_cases hk : k < 10
  · have e : dg k = [Int32.ofNat (48 + k % 10)] := by unfold dg; rw [if_pos hk, Nat.mod_eq_of_lt hk]
    rw [e] at hK
    refine jx_ic_ge (off := 16) (b := 104) (by decide) (by decide +kernel) (by decide) (fun _ => ?_) (fun e => absurd e (hlt.mp hk))
    refine jx_blk (by decide) [(.iload 6, 2)] (pc' := 106) (Lv' := [some (.int (-(Int32.ofNat k))), some (.int (Int32.ofNat p)), some (.ref v), none, none, some (.int (Int32.ofNat (p - 1))), some (.int 0)]) (st' := [.int 0]) (by decide +kernel) rfl ?_
    refine jx_if_eq (off := 12) (b := 118) (by decide) (by decide +kernel) (by decide) (fun _ => ?_) (fun e => absurd rfl e)
    refine jx_blk (by decide) [(.iload 5, 2)] (pc' := 120) (Lv' := [some (.int (-(Int32.ofNat k))), some (.int (Int32.ofNat p)), some (.ref v), none, none, some (.int (Int32.ofNat (p - 1))), some (.int 0)]) (st' := [.int (Int32.ofNat (p - 1))]) (by decide +kernel) rfl ?_
    refine jx_iret .int (by decide) (by decide +kernel) (by decide +kernel) rfl (hK _ _ (upd g (p - 1) (Int32.ofNat (48 + k % 10))) rfl (fun b hb => jv_at_pne hb) jv_at_put (fun j hj => ?_) (fun j hj => ?_) (fun j hj hj2 => ?_))
    · have hj : j + 1 < p ∨ p ≤ j := hj
      unfold upd
      rw [if_neg (by omega)]
    · have hj : j < 1 := hj
      have : j = 0 := by omega
      subst this
      show upd g (p - 1) _ (p - 1 + 0) = _
      unfold upd
      rw [if_pos (by omega)]
      rfl
    · have hj : p - 1 ≤ j := hj
      unfold upd
      rw [if_pos (by omega)]
      exact (i_byte (b1 _ (by omega))).2.1
  · have e : dg k = [Int32.ofNat (48 + k / 10), Int32.ofNat (48 + k % 10)] := by unfold dg; rw [if_neg hk]
    rw [e] at hK hp
    have hp2 : 2 ≤ p := hp.1
    refine jx_ic_ge (off := 16) (b := 104) (by decide) (by decide +kernel) (by decide) (fun e => absurd (hlt2 hk) e) (fun _ => ?_)
    refine jx_blk (by decide) [(.aload_n 2, 1), (.iinc 5 (-1), 3), (.iload 5, 2)] (pc' := 97) (Lv' := [some (.int (-(Int32.ofNat k))), some (.int (Int32.ofNat p)), some (.ref v), none, none, some (.int ((Int32.ofNat (p - 1)) + (-1))), some (.int 0)]) (st' := [.int ((Int32.ofNat (p - 1)) + (-1)), .ref v]) (by decide +kernel) rfl ?_
    refine jx_sta (idx := 87) (v := .ref 1000202) (by decide) (by decide +kernel) (by decide +kernel) ?_
    refine jx_blk (by decide) [(.iload_n 0, 1), (.ineg, 1)] (pc' := 102) (Lv' := [some (.int (-(Int32.ofNat k))), some (.int (Int32.ofNat p)), some (.ref v), none, none, some (.int ((Int32.ofNat (p - 1)) + (-1))), some (.int 0)]) (st' := [.int (-(-(Int32.ofNat k))), .ref 1000202, .int ((Int32.ofNat (p - 1)) + (-1)), .ref v]) (by decide +kernel) rfl ?_
    rw [Int32.neg_neg]
    refine jx_bald (n := 100) (f := fun j => Int32.ofNat (48 + j / 10)) (by decide) (by decide +kernel) (Or.inr (by decide)) ((jv_at_pne (by omega)).trans c2) (by rw [i_nat (by omega)]; intro z; rcases z with z | z; exact i_nn (by omega) z; omega) ?_
    rw [i_nat (by omega)]
    show jE 178 103 [some (.int (-(Int32.ofNat k))), some (.int (Int32.ofNat p)), some (.ref v), none, none, some (.int ((Int32.ofNat (p - 1)) + (-1))), some (.int 0)] [.int (Int32.ofNat (48 + k / 10)), .int ((Int32.ofNat (p - 1)) + (-1)), .ref v] _ K
    refine jx_bast (n := m) (f := upd g (p - 1) (Int32.ofNat (48 + k % 10))) (by decide) (by decide +kernel) hv jv_at_put (i_byte (b1 (k / 10) (by omega))).1 (by rw [ep2 hk, i_nat (by omega)]; intro z; rcases z with z | z; exact i_nn (by omega) z; omega) ?_
    rw [ep2 hk, i_nat (by omega)]
    refine jx_blk (by decide) [(.iload 6, 2)] (pc' := 106) (Lv' := [some (.int (-(Int32.ofNat k))), some (.int (Int32.ofNat p)), some (.ref v), none, none, some (.int (Int32.ofNat (p - 2))), some (.int 0)]) (st' := [.int 0]) (by decide +kernel) rfl ?_
    refine jx_if_eq (off := 12) (b := 118) (by decide) (by decide +kernel) (by decide) (fun _ => ?_) (fun e => absurd rfl e)
    refine jx_blk (by decide) [(.iload 5, 2)] (pc' := 120) (Lv' := [some (.int (-(Int32.ofNat k))), some (.int (Int32.ofNat p)), some (.ref v), none, none, some (.int (Int32.ofNat (p - 2))), some (.int 0)]) (st' := [.int (Int32.ofNat (p - 2))]) (by decide +kernel) rfl ?_
    refine jx_iret .int (by decide) (by decide +kernel) (by decide +kernel) rfl (hK _ _ (upd (upd g (p - 1) (Int32.ofNat (48 + k % 10))) (p - 2) (Int32.ofNat (48 + k / 10))) rfl (fun b hb => (jv_at_pne hb).trans (jv_at_pne hb)) jv_at_put (fun j hj => ?_) (fun j hj => ?_) (fun j hj hj2 => ?_))
    · have hj : j + 2 < p ∨ p ≤ j := hj
      unfold upd
      rw [if_neg (by omega), if_neg (by omega)]
    · have hj : j < 2 := hj
      have h01 : j = 0 ∨ j = 1 := by omega
      rcases h01 with rfl | rfl
      · show upd _ _ _ (p - 2 + 0) = _
        unfold upd
        rw [if_pos (by omega)]
        rfl
      · show upd _ _ _ (p - 2 + 1) = _
        unfold upd
        rw [if_neg (by omega), if_pos (by omega)]
        rfl
    · have hj : p - 2 ≤ j := hj
      unfold upd
      split
      · exact (i_byte (b1 _ (by omega))).2.1
      · rw [if_pos (by omega)]
        exact (i_byte (b1 _ (by omega))).2.1
theorem sb_ai0 {k : Nat} (hs : jSB h q v m w) (hk9 : k < 100) (hF : jFix h) (hc : h.2.1 ≤ 900000) (hl : w.length + (dg k).length ≤ 4000) (hK : ∀ (h' : jv_H) (v' m' : Nat), jSB h' q v' m' (w ++ dg k) → jSu h h' q v m v' m' → K (some (.ref q)) h') : jE 172 0 [some (.ref q), some (.int (Int32.ofNat k)), none, none] [] h K := by
  obtain ⟨ml, e1⟩ := hs.o
  have d1 := (dg_lt k hk9).2.2
  refine jx_blk (by decide) [(.aload_n 0, 1)] (pc' := 1) (Lv' := [some (.ref q), some (.int (Int32.ofNat k)), none, none]) (st' := [.ref q]) (by decide +kernel) rfl ?_
  refine jx_getf (idx := 79) (cx := 9) (k := 3) (by decide) (by decide +kernel) (by decide +kernel) (Or.inl hs.1.1) e1 rfl ?_
  refine jx_blk (by decide) [(.istore_n 2, 1), (.iload_n 2, 1), (.iload_n 1, 1)] (pc' := 7) (Lv' := [some (.ref q), some (.int (Int32.ofNat k)), some (.int (Int32.ofNat w.length)), none]) (st' := [.int (Int32.ofNat k), .int (Int32.ofNat w.length)]) (by decide +kernel) rfl ?_
  refine jx_call (z := 179) (na := 1) (mL := 4) (ck := 0) (ow := 12) (by decide +kernel) (by show 1 ≤ 2; decide) (Nat.le_of_ble_eq_true rfl) rfl (Or.inl rfl) ?_
  refine sb_size hk9 ?_
  show jE 172 10 [some (.ref q), some (.int (Int32.ofNat k)), some (.int (Int32.ofNat w.length)), none] [.int (Int32.ofNat (dg k).length), .int (Int32.ofNat w.length)] h K
  refine jx_blk (by decide) [(.iadd, 1)] (pc' := 11) (Lv' := [some (.ref q), some (.int (Int32.ofNat k)), some (.int (Int32.ofNat w.length)), none]) (st' := [.int ((Int32.ofNat w.length) + (Int32.ofNat (dg k).length))]) (by decide +kernel) rfl ?_
  rw [i_ofNat_add]
  refine jx_blk (by decide) [(.istore_n 3, 1), (.aload_n 0, 1), (.iload_n 3, 1)] (pc' := 14) (Lv' := [some (.ref q), some (.int (Int32.ofNat k)), some (.int (Int32.ofNat w.length)), some (.int (Int32.ofNat (w.length + (dg k).length)))]) (st' := [.int (Int32.ofNat (w.length + (dg k).length)), .ref q]) (by decide +kernel) rfl ?_
  refine jx_call (z := 168) (na := 2) (mL := 3) (ck := 1) (ow := 11) (by decide +kernel) (by show 2 ≤ 2; decide) (Nat.le_of_ble_eq_true rfl) rfl (Or.inr ⟨q, 9, _, rfl, Or.inl hs.1.1, e1, rfl⟩) ?_
  refine sb_ens hs hl (fun h1 v1 m1 hs1 hkm hu => ?_)
  obtain ⟨ml2, e2⟩ := hs1.o
  obtain ⟨g, e3, e4, e5⟩ := hs1.2.2.1
  have hm1 := hs1.2.2.2.1.2.2
  have hv1 := hs1.1.2.1
  have hh1 : h1.2.1 + m ≤ h.2.1 + m1 := hu.2.2.1.2
  have hF1 : jFix h1 := hF.fr (fun b hb => hu.1 b (by omega) (by have := hs.1.1; omega) (by have := hs.1.2.1; omega))
  show jE 172 17 [some (.ref q), some (.int (Int32.ofNat k)), some (.int (Int32.ofNat w.length)), some (.int (Int32.ofNat (w.length + (dg k).length)))] [] h1 K
  refine jx_blk (by decide) [(.aload_n 0, 1)] (pc' := 18) (Lv' := [some (.ref q), some (.int (Int32.ofNat k)), some (.int (Int32.ofNat w.length)), some (.int (Int32.ofNat (w.length + (dg k).length)))]) (st' := [.ref q]) (by decide +kernel) rfl ?_
  refine jx_call (z := 173) (na := 1) (mL := 1) (ck := 1) (ow := 11) (by decide +kernel) (by show 1 ≤ 1; decide) (Nat.le_of_ble_eq_true rfl) rfl (Or.inr ⟨q, 9, _, rfl, Or.inl hs1.1.1, e2, rfl⟩) ?_
  refine sb_latin hs1 ?_
  show jE 172 21 [some (.ref q), some (.int (Int32.ofNat k)), some (.int (Int32.ofNat w.length)), some (.int (Int32.ofNat (w.length + (dg k).length)))] [.int 1] h1 K
  refine jx_if_eq (off := 16) (b := 37) (by decide) (by decide +kernel) (by decide) (fun e => absurd e (by decide)) (fun _ => ?_)
  refine jx_blk (by decide) [(.iload_n 1, 1), (.iload_n 3, 1), (.aload_n 0, 1)] (pc' := 27) (Lv' := [some (.ref q), some (.int (Int32.ofNat k)), some (.int (Int32.ofNat w.length)), some (.int (Int32.ofNat (w.length + (dg k).length)))]) (st' := [.ref q, .int (Int32.ofNat (w.length + (dg k).length)), .int (Int32.ofNat k)]) (by decide +kernel) rfl ?_
  refine jx_getf (idx := 15) (cx := 9) (k := 0) (by decide) (by decide +kernel) (by decide +kernel) (Or.inl hs1.1.1) e2 rfl ?_
  refine jx_call (z := 178) (na := 3) (mL := 7) (ck := 0) (ow := 12) (by decide +kernel) (by show 3 ≤ 3; decide) (Nat.le_of_ble_eq_true rfl) rfl (Or.inl rfl) ?_
  refine sb_gc hk9 hF1 hv1 (by omega) e3 ⟨by omega, hkm⟩ hm1 (fun r h2 g2 x2 y1 y2 y3 y4 y5 => ?_)
  have hq2 : q < h2.2.1 := by rw [x2]; exact hs1.1.1
  have e6 : h2.1 q = .inr (.inr (9, [.ref v1, .int 0, ml2, .int (Int32.ofNat w.length)])) := (y1 q hs1.1.2.2).trans e2
  show jE 172 33 [some (.ref q), some (.int (Int32.ofNat k)), some (.int (Int32.ofNat w.length)), some (.int (Int32.ofNat (w.length + (dg k).length)))] [.int r] h2 K
  refine jx_blk (by decide) [(.pop, 1)] (pc' := 34) (Lv' := [some (.ref q), some (.int (Int32.ofNat k)), some (.int (Int32.ofNat w.length)), some (.int (Int32.ofNat (w.length + (dg k).length)))]) (st' := []) (by decide +kernel) rfl ?_
  refine jx_goto (off := 14) (b := 48) (by decide) (by decide +kernel) (by decide) ?_
  refine jx_blk (by decide) [(.aload_n 0, 1), (.iload_n 3, 1)] (pc' := 50) (Lv' := [some (.ref q), some (.int (Int32.ofNat k)), some (.int (Int32.ofNat w.length)), some (.int (Int32.ofNat (w.length + (dg k).length)))]) (st' := [.int (Int32.ofNat (w.length + (dg k).length)), .ref q]) (by decide +kernel) rfl ?_
  refine jx_putf (idx := 79) (cx := 9) (k := 3) (by decide) (by decide +kernel) (by decide +kernel) hq2 e6 (by show 3 < 4; decide) (by rw [f9_3]; exact ⟨rfl, rfl⟩) (Or.inl (by decide +kernel)) ?_
  refine jx_blk (by decide) [(.aload_n 0, 1)] (pc' := 54) (Lv' := [some (.ref q), some (.int (Int32.ofNat k)), some (.int (Int32.ofNat w.length)), some (.int (Int32.ofNat (w.length + (dg k).length)))]) (st' := [.ref q]) (by decide +kernel) rfl ?_
  refine jx_aret (by decide) (by decide +kernel) (Or.inr ⟨"java/lang/AbstractStringBuilder", by decide +kernel⟩) (hK _ v1 m1 (hs1.more x2 ⟨ml2, ?_⟩ ⟨g2, (jv_at_pne (fun z => hs1.1.2.2 z.symm)).trans y2, fun j hj => ?_, fun j hj => ?_⟩ (by rw [List.length_append]; exact hkm) (by rw [List.length_append]; exact hl) (dg_lt k hk9).1) (hu.put hs1.1.2.1 x2 (fun b n1 n2 => (jv_at_pne n1).trans (y1 b n2))))
  · rw [List.length_append]
    exact jv_at_put
  · rw [List.length_append] at hj
    rcases Nat.lt_or_ge j w.length with z | z
    · rw [getD_app1 z, y3 j (by omega)]
      exact e4 j z
    · rw [getD_app2 z]
      have := y4 (j - w.length) (by omega)
      rw [show w.length + (dg k).length - (dg k).length + (j - w.length) = j by omega] at this
      exact this
  · rcases Nat.lt_or_ge j w.length with z | z
    · rw [y3 j (by omega)]
      exact e5 j hj
    · rcases Nat.lt_or_ge j (w.length + (dg k).length) with z2 | z2
      · exact y5 j (by omega) z2
      · rw [y3 j (by omega)]
        exact e5 j hj
theorem sb_ai {k : Nat} (hs : jSB h q v m w) (hk9 : k < 100) (hF : jFix h) (hc : h.2.1 ≤ 900000) (hl : w.length + (dg k).length ≤ 4000) (hK : ∀ (h' : jv_H) (v' m' : Nat), jSB h' q v' m' (w ++ dg k) → jSu h h' q v m v' m' → K (some (.ref q)) h') : jE 162 0 [some (.ref q), some (.int (Int32.ofNat k))] [] h K := by
  obtain ⟨ml, e1⟩ := hs.o
  refine jx_blk (by decide) [(.aload_n 0, 1), (.iload_n 1, 1)] (pc' := 2) (Lv' := [some (.ref q), some (.int (Int32.ofNat k))]) (st' := [.int (Int32.ofNat k), .ref q]) (by decide +kernel) rfl ?_
  refine jx_call (z := 172) (na := 2) (mL := 4) (ck := 2) (ow := 11) (by decide +kernel) (by show 2 ≤ 2; decide) (Nat.le_of_ble_eq_true rfl) rfl (Or.inr ⟨q, 9, _, rfl, Or.inl hs.1.1, e1, rfl⟩) ?_
  refine sb_ai0 hs hk9 hF hc hl (fun h' v' m' a b => ?_)
  show jE 162 5 [some (.ref q), some (.int (Int32.ofNat k))] [.ref q] h' K
  refine jx_blk (by decide) [(.pop, 1), (.aload_n 0, 1)] (pc' := 7) (Lv' := [some (.ref q), some (.int (Int32.ofNat k))]) (st' := [.ref q]) (by decide +kernel) rfl ?_
  exact jx_aret (by decide) (by decide +kernel) (Or.inr ⟨"java/lang/StringBuilder", by decide +kernel⟩) (hK h' v' m' a b)
/-- a builder just made -/
def jN9 (h : jv_H) (q : Nat) : Prop := q < h.2.1 ∧ ∃ a b ml c, h.1 q = .inr (.inr (9, [a, b, ml, c])) ∧ c = .int 0
theorem sb_new {h1 h2 : jv_H} (hq : q < h.2.1) (t1 : h1 = jv_add h (.inl (4, m, fun _ => 0)) m) (hm : m ≤ 4000) {ml : Value} (x2 : h2.2 = h1.2) (y1 : h2.1 q = .inr (.inr (9, [.ref h.2.1, .int 0, ml, .int 0]))) (y2 : ∀ b, b ≠ q → h2.1 b = h1.1 b) : jSB h2 q h.2.1 m [] := by
  have a1 : h1.2.1 = h.2.1 + 1 := by rw [t1]; rfl
  refine ⟨⟨by rw [x2]; omega, by rw [x2]; omega, by omega⟩, ⟨ml, y1⟩, ⟨fun _ => 0, ?_, fun j hj => absurd hj (Nat.not_lt_zero j), fun j hj => rfl⟩, ⟨Nat.zero_le _, Nat.zero_le _, by omega⟩, fun c hc => by cases hc⟩
  rw [y2 _ (by omega), t1]
  exact jv_at_new
theorem sb_i0 (hn : jN9 h q) (hm : m ≤ 4000) (hK : ∀ h', jSB h' q h.2.1 m [] → h'.2.1 = h.2.1 + 1 ∧ h'.2.2 = h.2.2 + m → (∀ b, b ≠ q → b ≠ h.2.1 → h'.1 b = h.1 b) → K none h') : jE 166 0 [some (.ref q), some (.int (Int32.ofNat m))] [] h K := by
  obtain ⟨hq, a, b, ml, c, e1, rfl⟩ := hn
  refine jx_blk (by decide) [(.aload_n 0, 1)] (pc' := 1) (Lv' := [some (.ref q), some (.int (Int32.ofNat m))]) (st' := [.ref q]) (by decide +kernel) rfl ?_
  refine jx_obj (by decide +kernel) (Nat.le_of_ble_eq_true rfl) ?_
  refine jx_sta (idx := 18) (v := .int 1) (by decide) (by decide +kernel) (by decide +kernel) ?_
  refine jx_if_eq (off := 18) (b := 25) (by decide) (by decide +kernel) (by decide) (fun e => absurd e (by decide)) (fun _ => ?_)
  refine jx_blk (by decide) [(.aload_n 0, 1), (.iload_n 1, 1)] (pc' := 12) (Lv' := [some (.ref q), some (.int (Int32.ofNat m))]) (st' := [.int (Int32.ofNat m), .ref q]) (by decide +kernel) rfl ?_
  refine jx_newb (k := m) (by decide) (by decide +kernel) ⟨i_nat (by omega), i_nn (by omega), by omega⟩ ?_
  generalize hh1 : jv_add h (.inl (4, m, fun _ => 0)) m = h1 at *
  have t1 : h1.2.1 = h.2.1 + 1 := by rw [← hh1]; rfl
  have c1 : h1.1 q = .inr (.inr (9, [a, b, ml, .int 0])) := by rw [← hh1, jv_at_add hq]; exact e1
  refine jx_putf (idx := 15) (cx := 9) (k := 0) (by decide) (by decide +kernel) (by decide +kernel) (by omega) c1 (by show 0 < 4; decide) (by rw [f9_0]; exact ⟨rfl, rfl⟩) (Or.inl (by decide +kernel)) ?_
  refine jx_blk (by decide) [(.aload_n 0, 1), (.iconst 0, 1)] (pc' := 19) (Lv' := [some (.ref q), some (.int (Int32.ofNat m))]) (st' := [.int 0, .ref q]) (by decide +kernel) rfl ?_
  refine jx_putf (idx := 22) (cx := 9) (k := 1) (by decide) (by decide +kernel) (by decide +kernel) (by show q < h1.2.1; omega) jv_at_put (by show 1 < 4; decide) (by rw [f9_1]; exact ⟨rfl, rfl⟩) (Or.inl (by decide +kernel)) ?_
  refine jx_goto (off := 16) (b := 38) (by decide) (by decide +kernel) (by decide) ?_
  refine jx_vret (by decide) (by decide +kernel) (by decide +kernel) (hK _ (sb_new (h1 := h1) (ml := ml) hq hh1.symm hm rfl jv_at_put (fun b hb => (jv_at_pne hb).trans (jv_at_pne hb))) ⟨t1, by show h1.2.2 = _; rw [← hh1]; rfl⟩ (fun b n1 n2 => ?_))
  refine (jv_at_pne n1).trans ((jv_at_pne n1).trans ?_)
  rw [← hh1]
  show jv_up h.1 h.2.1 _ b = _
  unfold jv_up
  rw [if_neg n2]
theorem sb_i1 (hn : jN9 h q) (hK : ∀ h', jSB h' q h.2.1 16 [] → h'.2.1 = h.2.1 + 1 ∧ h'.2.2 = h.2.2 + 16 → (∀ b, b ≠ q → b ≠ h.2.1 → h'.1 b = h.1 b) → K none h') : jE 158 0 [some (.ref q)] [] h K := by
  have hn0 := hn
  obtain ⟨hq, a, b, ml, c, e1, -⟩ := hn
  refine jx_blk (by decide) [(.aload_n 0, 1), (.bipush 16, 2)] (pc' := 3) (Lv' := [some (.ref q)]) (st' := [.int 16, .ref q]) (by decide +kernel) rfl ?_
  refine jx_call (z := 166) (na := 2) (mL := 2) (ck := 2) (ow := 11) (by decide +kernel) (by show 2 ≤ 2; decide) (Nat.le_of_ble_eq_true rfl) rfl (Or.inr ⟨q, 9, _, rfl, Or.inl hq, e1, rfl⟩) ?_
  refine sb_i0 (m := 16) hn0 (by omega) (fun h' a b c => ?_)
  exact jx_vret (by decide) (by decide +kernel) (by decide +kernel) (hK h' a b c)
theorem sb_is0 {i : Nat} (hn : jN9 h q) (hF : jFix h) (hi : i < 37) (hc : h.2.1 ≤ 800000) (hK : ∀ h' v' m', jSB h' q v' m' (oT i) → h'.2.1 ≤ h.2.1 + 1 + m' → h'.2.2 ≤ h.2.2 + 2 * m' → h.2.1 ≤ v' → h.2.1 ≤ h'.2.1 → (∀ b, b < h.2.1 ∨ h'.2.1 ≤ b → b ≠ q → h'.1 b = h.1 b) → K none h') : jE 167 0 [some (.ref q), some (.ref (1000001 + i)), none, none, none] [] h K := by
  obtain ⟨hq, a, b, ml, c, e1, rfl⟩ := hn
  obtain ⟨t1, t2⟩ := hF.t hi
  obtain ⟨ol1, ol2⟩ := oT_lt i hi
  have hlt : Int32.ofNat (oT i).length < 2147483631 := by
    rw [show (2147483631 : Int32) = Int32.ofNat 2147483631 from rfl, i_lt (by omega) (by decide)]
    omega
  refine jx_blk (by decide) [(.aload_n 0, 1)] (pc' := 1) (Lv' := [some (.ref q), some (.ref (1000001 + i)), none, none, none]) (st' := [.ref q]) (by decide +kernel) rfl ?_
  refine jx_obj (by decide +kernel) (Nat.le_of_ble_eq_true rfl) ?_
  refine jx_blk (by decide) [(.aload_n 1, 1)] (pc' := 5) (Lv' := [some (.ref q), some (.ref (1000001 + i)), none, none, none]) (st' := [.ref (1000001 + i)]) (by decide +kernel) rfl ?_
  refine jx_call (z := 152) (na := 1) (mL := 1) (ck := 1) (ow := 8) (by decide +kernel) (by show 1 ≤ 1; decide) (Nat.le_of_ble_eq_true rfl) rfl (Or.inr ⟨1000001 + i, 8, _, rfl, Or.inr ⟨(old_t hi).1, rfl⟩, t1, rfl⟩) ?_
  refine js_len (hF.x hi) ?_
  show jE 167 8 [some (.ref q), some (.ref (1000001 + i)), none, none, none] [.int (Int32.ofNat (oT i).length)] h K
  refine jx_blk (by decide) [(.istore_n 2, 1), (.iload_n 2, 1)] (pc' := 10) (Lv' := [some (.ref q), some (.ref (1000001 + i)), some (.int (Int32.ofNat (oT i).length)), none, none]) (st' := [.int (Int32.ofNat (oT i).length)]) (by decide +kernel) rfl ?_
  refine jx_ldc (idx := 38) (v := .int 2147483631) (by decide) (by decide +kernel) (by decide +kernel) ?_
  refine jx_ic_ge (off := 10) (b := 22) (by decide) (by decide +kernel) (by decide) (fun e => absurd hlt e) (fun _ => ?_)
  refine jx_blk (by decide) [(.iload_n 2, 1), (.bipush 16, 2), (.iadd, 1)] (pc' := 19) (Lv' := [some (.ref q), some (.ref (1000001 + i)), some (.int (Int32.ofNat (oT i).length)), none, none]) (st' := [.int ((Int32.ofNat (oT i).length) + 16)]) (by decide +kernel) rfl ?_
  refine jx_goto (off := 5) (b := 24) (by decide) (by decide +kernel) (by decide) ?_
  rw [show Int32.ofNat (oT i).length + 16 = Int32.ofNat ((oT i).length + 16) from i_ofNat_add]
  refine jx_blk (by decide) [(.istore_n 3, 1), (.aload_n 1, 1)] (pc' := 26) (Lv' := [some (.ref q), some (.ref (1000001 + i)), some (.int (Int32.ofNat (oT i).length)), some (.int (Int32.ofNat ((oT i).length + 16))), none]) (st' := [.ref (1000001 + i)]) (by decide +kernel) rfl ?_
  refine jx_call (z := 156) (na := 1) (mL := 1) (ck := 1) (ow := 8) (by decide +kernel) (by show 1 ≤ 1; decide) (Nat.le_of_ble_eq_true rfl) rfl (Or.inr ⟨1000001 + i, 8, _, rfl, Or.inr ⟨(old_t hi).1, rfl⟩, t1, rfl⟩) ?_
  refine js_coder (Or.inr (old_t hi).1) t1 ?_
  show jE 167 29 [some (.ref q), some (.ref (1000001 + i)), some (.int (Int32.ofNat (oT i).length)), some (.int (Int32.ofNat ((oT i).length + 16))), none] [.int 0] h K
  refine jx_blk (by decide) [(.istore 4, 2), (.aload_n 0, 1), (.iload 4, 2)] (pc' := 34) (Lv' := [some (.ref q), some (.ref (1000001 + i)), some (.int (Int32.ofNat (oT i).length)), some (.int (Int32.ofNat ((oT i).length + 16))), some (.int 0)]) (st' := [.int 0, .ref q]) (by decide +kernel) rfl ?_
  refine jx_putf (idx := 22) (cx := 9) (k := 1) (by decide) (by decide +kernel) (by decide +kernel) hq e1 (by show 1 < 4; decide) (by rw [f9_1]; exact ⟨rfl, rfl⟩) (Or.inl (by decide +kernel)) ?_
  refine jx_blk (by decide) [(.aload_n 0, 1), (.iload 4, 2)] (pc' := 40) (Lv' := [some (.ref q), some (.ref (1000001 + i)), some (.int (Int32.ofNat (oT i).length)), some (.int (Int32.ofNat ((oT i).length + 16))), some (.int 0)]) (st' := [.int 0, .ref q]) (by decide +kernel) rfl ?_
  refine jx_if_ne (off := 9) (b := 49) (by decide) (by decide +kernel) (by decide) (fun e => absurd rfl e) (fun _ => ?_)
  refine jx_blk (by decide) [(.iload_n 3, 1)] (pc' := 44) (Lv' := [some (.ref q), some (.ref (1000001 + i)), some (.int (Int32.ofNat (oT i).length)), some (.int (Int32.ofNat ((oT i).length + 16))), some (.int 0)]) (st' := [.int (Int32.ofNat ((oT i).length + 16)), .ref q]) (by decide +kernel) rfl ?_
  refine jx_newb (k := (oT i).length + 16) (by decide) (by decide +kernel) ⟨i_nat (by omega), i_nn (by omega), by omega⟩ ?_
  show jE 167 46 [some (.ref q), some (.ref (1000001 + i)), some (.int (Int32.ofNat (oT i).length)), some (.int (Int32.ofNat ((oT i).length + 16))), some (.int 0)] [.ref h.2.1, .ref q] _ K
  refine jx_goto (off := 7) (b := 53) (by decide) (by decide +kernel) (by decide) ?_
  generalize hh1 : jv_add (jv_put h q (.inr (.inr (9, [a, b, ml, .int 0].set 1 (.int 0))))) (.inl (4, (oT i).length + 16, fun _ => 0)) ((oT i).length + 16) = h1 at *
  have t1 : h1.2.1 = h.2.1 + 1 := by rw [← hh1]; rfl
  have t1b : h1.2.2 = h.2.2 + ((oT i).length + 16) := by rw [← hh1]; rfl
  have c1 : h1.1 q = .inr (.inr (9, [a, .int 0, ml, .int 0])) := by rw [← hh1, jv_at_add (by show q < h.2.1; exact hq)]; exact jv_at_put
  refine jx_putf (idx := 15) (cx := 9) (k := 0) (by decide) (by decide +kernel) (by decide +kernel) (by omega) c1 (by show 0 < 4; decide) (by rw [f9_0]; exact ⟨rfl, rfl⟩) (Or.inl (by decide +kernel)) ?_
  generalize hh2 : jv_put h1 q (.inr (.inr (9, [a, .int 0, ml, .int 0].set 0 (.ref h.2.1)))) = h2 at *
  have y0 : ∀ b, b ≠ q → b ≠ h.2.1 → h2.1 b = h.1 b := by
    intro b n1 n2
    rw [← hh2, jv_at_pne n1, ← hh1]
    show jv_up _ h.2.1 _ b = _
    unfold jv_up
    rw [if_neg n2]
    exact jv_at_pne n1
  have x2 : h2.2 = h1.2 := by rw [← hh2]; rfl
  have hs : jSB h2 q h.2.1 ((oT i).length + 16) [] := by
    refine ⟨⟨by rw [x2]; omega, by rw [x2]; omega, by omega⟩, ⟨ml, by rw [← hh2]; exact jv_at_put⟩, ⟨fun _ => 0, ?_, fun j hj => absurd hj (Nat.not_lt_zero j), fun j hj => rfl⟩, ⟨Nat.zero_le _, Nat.zero_le _, by omega⟩, fun c hc => by cases hc⟩
    rw [← hh2, jv_at_pne (by omega), ← hh1]
    exact jv_at_new
  obtain ⟨ml2, e2⟩ := hs.o
  have hF2 : jFix h2 := hF.fr (fun b hb => y0 b (by omega) (by omega))
  refine jx_blk (by decide) [(.aload_n 0, 1), (.aload_n 1, 1)] (pc' := 58) (Lv' := [some (.ref q), some (.ref (1000001 + i)), some (.int (Int32.ofNat (oT i).length)), some (.int (Int32.ofNat ((oT i).length + 16))), some (.int 0)]) (st' := [.ref (1000001 + i), .ref q]) (by decide +kernel) rfl ?_
  refine jx_call (z := 164) (na := 2) (mL := 2) (ck := 1) (ow := 9) (by decide +kernel) (by show 2 ≤ 2; decide) (Nat.le_of_ble_eq_true rfl) rfl (Or.inr ⟨q, 9, _, rfl, Or.inl hs.1.1, e2, rfl⟩) ?_
  refine sb_as2 hs hF2 hi (by rw [x2]; omega) (by show 0 + _ ≤ _; omega) (fun h' v' m' a b => ?_)
  show jE 167 61 [some (.ref q), some (.ref (1000001 + i)), some (.int (Int32.ofNat (oT i).length)), some (.int (Int32.ofNat ((oT i).length + 16))), some (.int 0)] [.ref q] h' K
  refine jx_blk (by decide) [(.pop, 1)] (pc' := 62) (Lv' := [some (.ref q), some (.ref (1000001 + i)), some (.int (Int32.ofNat (oT i).length)), some (.int (Int32.ofNat ((oT i).length + 16))), some (.int 0)]) (st' := []) (by decide +kernel) rfl ?_
  obtain ⟨b1, b2, b3, b4⟩ := b
  have x21 : h2.2.1 = h1.2.1 := by rw [x2]
  have x22 : h2.2.2 = h1.2.2 := by rw [x2]
  refine jx_vret (by decide) (by decide +kernel) (by decide +kernel) (hK h' v' m' a (by omega) (by omega) (by omega) (by omega) (fun b hb n1 => ?_))
  rw [b1 b (by omega) n1 (by omega)]
  exact y0 b n1 (by omega)
theorem sb_is {i : Nat} (hn : jN9 h q) (hF : jFix h) (hi : i < 37) (hc : h.2.1 ≤ 800000) (hK : ∀ h' v' m', jSB h' q v' m' (oT i) → h'.2.1 ≤ h.2.1 + 1 + m' → h'.2.2 ≤ h.2.2 + 2 * m' → h.2.1 ≤ v' → h.2.1 ≤ h'.2.1 → (∀ b, b < h.2.1 ∨ h'.2.1 ≤ b → b ≠ q → h'.1 b = h.1 b) → K none h') : jE 159 0 [some (.ref q), some (.ref (1000001 + i))] [] h K := by
  have hn0 := hn
  obtain ⟨hq, a, b, ml, c, e1, -⟩ := hn
  refine jx_blk (by decide) [(.aload_n 0, 1), (.aload_n 1, 1)] (pc' := 2) (Lv' := [some (.ref q), some (.ref (1000001 + i))]) (st' := [.ref (1000001 + i), .ref q]) (by decide +kernel) rfl ?_
  refine jx_call (z := 167) (na := 2) (mL := 5) (ck := 2) (ow := 11) (by decide +kernel) (by show 2 ≤ 2; decide) (Nat.le_of_ble_eq_true rfl) rfl (Or.inr ⟨q, 9, _, rfl, Or.inl hq, e1, rfl⟩) ?_
  refine sb_is0 hn0 hF hi hc (fun h' v' m' z1 z2 z3 z4 z5 z6 => ?_)
  exact jx_vret (by decide) (by decide +kernel) (by decide +kernel) (hK h' v' m' z1 z2 z3 z4 z5 z6)
end SB5
