/-! WALKS: a block of plain instructions, a branch -/
/-- a block of instructions that work on stack and locals alone -/
def jb : List (Instr × Nat) → Nat → List (Option Value) → List Value → Option (Nat × List (Option Value) × List Value)
  | [], pc, L, st => some (pc, L, st)
  | (i, n) :: t, pc, L, st => match jv_pure i st with
    | some st' => jb t (pc + n) L st'
    | none => match jv_ld i L st with
      | some st' => jb t (pc + n) L st'
      | none => match jv_sto i L st with
        | some (L', st') => jb t (pc + n) L' st'
        | none => none
def jcs (y : Nat) : List (Instr × Nat) → Nat → Bool
  | [], _ => true
  | (i, n) :: t, pc => (decide (jv_code y pc = some (i, n)) && (!jv_isR i && (jv_isC i).isNone)) && jcs y t (pc + n)
section WK
variable {y pc : Nat} {Lv : List (Option Value)} {st r : List Value} {h : jv_H} {K : jK}
theorem jx_blk (hy : y < 272) : ∀ (l : List (Instr × Nat)) {pc pc' : Nat} {Lv Lv' : List (Option Value)} {st st' : List Value}, jcs y l pc = true → jb l pc Lv st = some (pc', Lv', st') → jE y pc' Lv' st' h K → jE y pc Lv st h K
  | [], pc, pc', Lv, Lv', st, st', _, hs, hg => by
    cases hs
    exact hg
  | (i, n) :: t, pc, pc', Lv, Lv', st, st', hc, hs, hg => by
    unfold jcs at hc
    rw [Bool.and_eq_true, Bool.and_eq_true, Bool.and_eq_true] at hc
    obtain ⟨⟨c1, c2, c3⟩, c4⟩ := hc
    have c1 := of_decide_eq_true c1
    have c2 : jv_isR i = false := by
      cases e : jv_isR i
      · rfl
      · rw [e] at c2; cases c2
    have c3 : jv_isC i = none := Option.isNone_iff_eq_none.mp c3
    unfold jb at hs
    split at hs
    · rename_i s1 e1
      exact jx_pure hy c1 c2 c3 e1 (jx_blk hy t c4 hs hg)
    · rename_i e1
      split at hs
      · rename_i s1 e2
        exact jx_ld hy c1 c2 c3 e1 e2 (jx_blk hy t c4 hs hg)
      · rename_i e2
        split at hs
        · rename_i L1 s1 e3
          exact jx_sto hy c1 c2 c3 e1 e2 ((jm_sto_np e3).2.2 _ _) e3 (jx_blk hy t c4 hs hg)
        · cases hs
theorem jx_if_eq {off : Int} {b : Nat} {x : Int32} (hy : y < 272) (hcode : jv_code y pc = some (.ifCond .eq off, 3)) (hb : (pc : Int) + off = (b : Int)) (h1 : x = 0 → jE y b Lv r h K) (h2 : ¬ x = 0 → jE y (pc + 3) Lv r h K) : jE y pc Lv (.int x :: r) h K := jx_if hy hcode hb (fun e => h1 (of_decide_eq_true e)) (fun e => h2 (of_decide_eq_false e))
theorem jx_if_ne {off : Int} {b : Nat} {x : Int32} (hy : y < 272) (hcode : jv_code y pc = some (.ifCond .ne off, 3)) (hb : (pc : Int) + off = (b : Int)) (h1 : ¬ x = 0 → jE y b Lv r h K) (h2 : x = 0 → jE y (pc + 3) Lv r h K) : jE y pc Lv (.int x :: r) h K := jx_if hy hcode hb (fun e => h1 (of_decide_eq_true e)) (fun e => h2 (Decidable.not_not.mp (of_decide_eq_false e)))
theorem jx_if_lt {off : Int} {b : Nat} {x : Int32} (hy : y < 272) (hcode : jv_code y pc = some (.ifCond .lt off, 3)) (hb : (pc : Int) + off = (b : Int)) (h1 : x < 0 → jE y b Lv r h K) (h2 : ¬ x < 0 → jE y (pc + 3) Lv r h K) : jE y pc Lv (.int x :: r) h K := jx_if hy hcode hb (fun e => h1 (of_decide_eq_true e)) (fun e => h2 (of_decide_eq_false e))
theorem jx_if_ge {off : Int} {b : Nat} {x : Int32} (hy : y < 272) (hcode : jv_code y pc = some (.ifCond .ge off, 3)) (hb : (pc : Int) + off = (b : Int)) (h1 : ¬ x < 0 → jE y b Lv r h K) (h2 : x < 0 → jE y (pc + 3) Lv r h K) : jE y pc Lv (.int x :: r) h K := jx_if hy hcode hb (fun e => h1 (Int32.not_lt.mpr (of_decide_eq_true e))) (fun e => h2 (Int32.not_le.mp (of_decide_eq_false e)))
theorem jx_if_gt {off : Int} {b : Nat} {x : Int32} (hy : y < 272) (hcode : jv_code y pc = some (.ifCond .gt off, 3)) (hb : (pc : Int) + off = (b : Int)) (h1 : 0 < x → jE y b Lv r h K) (h2 : ¬ 0 < x → jE y (pc + 3) Lv r h K) : jE y pc Lv (.int x :: r) h K := jx_if hy hcode hb (fun e => h1 (of_decide_eq_true e)) (fun e => h2 (of_decide_eq_false e))
theorem jx_if_le {off : Int} {b : Nat} {x : Int32} (hy : y < 272) (hcode : jv_code y pc = some (.ifCond .le off, 3)) (hb : (pc : Int) + off = (b : Int)) (h1 : ¬ 0 < x → jE y b Lv r h K) (h2 : 0 < x → jE y (pc + 3) Lv r h K) : jE y pc Lv (.int x :: r) h K := jx_if hy hcode hb (fun e => h1 (Int32.not_lt.mpr (of_decide_eq_true e))) (fun e => h2 (Int32.not_le.mp (of_decide_eq_false e)))
theorem jx_ic_eq {off : Int} {b : Nat} {x v : Int32} (hy : y < 272) (hcode : jv_code y pc = some (.if_icmp .eq off, 3)) (hb : (pc : Int) + off = (b : Int)) (h1 : x = v → jE y b Lv r h K) (h2 : ¬ x = v → jE y (pc + 3) Lv r h K) : jE y pc Lv (.int v :: .int x :: r) h K := jx_icmp hy hcode hb (fun e => h1 (of_decide_eq_true e)) (fun e => h2 (of_decide_eq_false e))
theorem jx_ic_ne {off : Int} {b : Nat} {x v : Int32} (hy : y < 272) (hcode : jv_code y pc = some (.if_icmp .ne off, 3)) (hb : (pc : Int) + off = (b : Int)) (h1 : ¬ x = v → jE y b Lv r h K) (h2 : x = v → jE y (pc + 3) Lv r h K) : jE y pc Lv (.int v :: .int x :: r) h K := jx_icmp hy hcode hb (fun e => h1 (of_decide_eq_true e)) (fun e => h2 (Decidable.not_not.mp (of_decide_eq_false e)))
theorem jx_ic_lt {off : Int} {b : Nat} {x v : Int32} (hy : y < 272) (hcode : jv_code y pc = some (.if_icmp .lt off, 3)) (hb : (pc : Int) + off = (b : Int)) (h1 : x < v → jE y b Lv r h K) (h2 : ¬ x < v → jE y (pc + 3) Lv r h K) : jE y pc Lv (.int v :: .int x :: r) h K := jx_icmp hy hcode hb (fun e => h1 (of_decide_eq_true e)) (fun e => h2 (of_decide_eq_false e))
theorem jx_ic_ge {off : Int} {b : Nat} {x v : Int32} (hy : y < 272) (hcode : jv_code y pc = some (.if_icmp .ge off, 3)) (hb : (pc : Int) + off = (b : Int)) (h1 : ¬ x < v → jE y b Lv r h K) (h2 : x < v → jE y (pc + 3) Lv r h K) : jE y pc Lv (.int v :: .int x :: r) h K := jx_icmp hy hcode hb (fun e => h1 (Int32.not_lt.mpr (of_decide_eq_true e))) (fun e => h2 (Int32.not_le.mp (of_decide_eq_false e)))
theorem jx_ic_gt {off : Int} {b : Nat} {x v : Int32} (hy : y < 272) (hcode : jv_code y pc = some (.if_icmp .gt off, 3)) (hb : (pc : Int) + off = (b : Int)) (h1 : v < x → jE y b Lv r h K) (h2 : ¬ v < x → jE y (pc + 3) Lv r h K) : jE y pc Lv (.int v :: .int x :: r) h K := jx_icmp hy hcode hb (fun e => h1 (of_decide_eq_true e)) (fun e => h2 (of_decide_eq_false e))
theorem jx_ic_le {off : Int} {b : Nat} {x v : Int32} (hy : y < 272) (hcode : jv_code y pc = some (.if_icmp .le off, 3)) (hb : (pc : Int) + off = (b : Int)) (h1 : ¬ v < x → jE y b Lv r h K) (h2 : v < x → jE y (pc + 3) Lv r h K) : jE y pc Lv (.int v :: .int x :: r) h K := jx_icmp hy hcode hb (fun e => h1 (Int32.not_lt.mpr (of_decide_eq_true e))) (fun e => h2 (Int32.not_le.mp (of_decide_eq_false e)))
theorem jx_lret {v : Int64} (hy : y < 272) (hcode : jv_code y pc = some (.lreturn, 1)) (hrt : (jv_ym y).2.2 = some .long) (hK : K (some (.long v)) h) : jE y pc Lv [.long v] h K := by
  refine jx_ret hy hcode ?_ hK
  rw [hrt]
  rfl
/-- a boolean's return -/
theorem jx_zret {v : Int32} (hy : y < 272) (hcode : jv_code y pc = some (.ireturn, 1)) (hrt : (jv_ym y).2.2 = some .boolean) (hv : v = 0 ∨ v = 1) (hK : K (some (.int v)) h) : jE y pc Lv [.int v] h K :=
  jx_iret .boolean hy hcode hrt (by rcases hv with rfl | rfl <;> rfl) hK
/-- division and rest by a number that is not 0 -/
theorem jx_div {x v : Int32} (hy : y < 272) (hcode : jv_code y pc = some (.idiv, 1)) (hv : ¬ v = 0) (hg : jE y (pc + 1) Lv (.int (x / v) :: r) h K) : jE y pc Lv (.int v :: .int x :: r) h K := jx_pure hy hcode rfl rfl (if_neg hv) hg
theorem jx_rem {x v : Int32} (hy : y < 272) (hcode : jv_code y pc = some (.irem, 1)) (hv : ¬ v = 0) (hg : jE y (pc + 1) Lv (.int (x - x / v * v) :: r) h K) : jE y pc Lv (.int v :: .int x :: r) h K := jx_pure hy hcode rfl rfl (if_neg hv) hg
end WK
