/-! THE S MACHINE STANDS FOR THE J MACHINE: code, frames, cells -/
def sow (y : Nat) : Nat := ((jv_inf y).getD (0, 0, 0, 0, 0, 0)).1
def sini (y : Nat) : Bool := decide (((jv_inf y).getD (0, 0, 0, 0, 0, 0)).2.1 = 2)
def sk_const (i : Instr) (a : Nat) : Bool := match i with
  | .iconst n => decide (Int32.ofInt n = Int32.ofNat a ∧ a < sM)
  | .bipush n => decide ((Int8.ofInt n).toInt32 = Int32.ofNat a ∧ a < sM)
  | .sipush n => decide ((Int16.ofInt n).toInt32 = Int32.ofNat a ∧ a < sM)
  | _ => false
def sk_iload (i : Instr) (a : Nat) : Bool := match i with
  | .iload_n k => decide (k.val = a)
  | .iload k => decide (k = a)
  | _ => false
def sk_aload (i : Instr) (a : Nat) : Bool := match i with
  | .aload_n k => decide (k.val = a)
  | .aload k => decide (k = a)
  | _ => false
def sk_dload (i : Instr) (a : Nat) : Bool := match i with
  | .dload_n k => decide (k.val = a)
  | .dload k => decide (k = a)
  | _ => false
def sk_istore (i : Instr) (a : Nat) : Bool := match i with
  | .istore_n k => decide (k.val = a)
  | .istore k => decide (k = a)
  | _ => false
def sk_astore (i : Instr) (a : Nat) : Bool := match i with
  | .astore_n k => decide (k.val = a)
  | .astore k => decide (k = a)
  | _ => false
def sk_dstore (i : Instr) (a : Nat) : Bool := match i with
  | .dstore_n k => decide (k.val = a)
  | .dstore k => decide (k = a)
  | _ => false
def sk_iinc (i : Instr) (a b : Nat) : Bool := match i with
  | .iinc k n => decide (k = a ∧ Int32.ofInt n = Int32.ofNat b ∧ b < sM)
  | _ => false
def sk_getf (y : Nat) (i : Instr) (a b : Nat) : Bool := match i with
  | .getfield idx => decide (jv_fld (sow y) idx = some (a, b))
  | _ => false
/-- kinds: 0 whole number, 1 truth, 2 reference -/
def pv_k (kd : Nat) (ty : FieldType) : Bool := match kd, ty with
  | 0, .int => true
  | 1, .boolean => true
  | 2, .object _ => true
  | 2, .array _ => true
  | _, _ => false
def sk_putf (y : Nat) (i : Instr) (a b kd : Nat) : Bool := match i with
  | .putfield idx => decide (jv_fld (sow y) idx = some (a, b) ∧ ((jv_fT a b).2.2.2 = false ∨ (sini y = true ∧ a = sow y))) && pv_k kd (jv_fty a b)
  | _ => false
def sk_goto (pc : Nat) (i : Instr) (a : Nat) : Bool := match i with
  | .goto off => decide ((pc : Int) + off = (a : Int))
  | _ => false
def sk_if (pc : Nat) (i : Instr) (a b : Nat) : Bool := match i with
  | .ifCond c off => decide (s_ccn c = a ∧ (pc : Int) + off = (b : Int))
  | _ => false
def sk_icmp (pc : Nat) (i : Instr) (a b : Nat) : Bool := match i with
  | .if_icmp c off => decide (s_ccn c = a ∧ (pc : Int) + off = (b : Int))
  | _ => false
def sk_new (y : Nat) (i : Instr) (a : Nat) : Bool := match i with
  | .new idx => decide (jv_new (sow y) idx = some a ∧ a < 9)
  | _ => false
def sk_newa (i : Instr) (a : Nat) : Bool := match i with
  | .newarray .int => decide (a = 0)
  | .newarray .boolean => decide (a = 1)
  | _ => false
def sk_anew (y : Nat) (i : Instr) (a : Nat) : Bool := match i with
  | .anewarray idx => decide ((jv_new (sow y) idx = some 6 ∧ a = 2) ∨ (jv_new (sow y) idx = some 5 ∧ a = 3))
  | _ => false
def sk_call (y : Nat) (i : Instr) (a b : Nat) : Bool := match jv_isC i, jv_inf y, jv_inf a with
  | some (ck, idx), some (ow, _, _, _, fr, lo), some (ow2, kd2, na2, mL2, fr2, lo2) => decide (jv_cal ow idx = some (a, na2, ((jv_cal ow idx).getD (0, 0, 0)).2.2) ∧ a < 272 ∧ ck = kd2 ∧ b = na2 + 16 * mL2 + 1024 * (if kd2 = 0 then 0 else ow2 + 1) ∧ na2 < 16 ∧ mL2 < 64 ∧ na2 ≤ mL2 ∧ (kd2 = 0 ∨ 1 ≤ na2) ∧ fr2 + 1 ≤ fr ∧ 19 + mL2 + lo2 ≤ lo)
  | _, _, _ => false
def sk_spec (y : Nat) (i : Instr) (z ck fr0 lo0 : Nat) : Bool := match jv_isC i, jv_inf y with
  | some (ck1, idx), some (ow, _, _, _, fr, lo) => match jv_cal ow idx with
    | some (z1, _, _) => decide (z1 = z ∧ ck1 = ck ∧ fr0 ≤ fr ∧ lo0 ≤ lo)
    | none => false
  | _, _ => false
def sk_r0 (i : Instr) (rt : Option FieldType) : Bool := match i, rt with
  | .return_, none => true
  | _, _ => false
def sk_r1 (i : Instr) (rt : Option FieldType) : Bool := match i, rt with
  | .ireturn, some .int => true
  | _, _ => false
def sk_r2 (i : Instr) (rt : Option FieldType) : Bool := match i, rt with
  | .ireturn, some .boolean => true
  | _, _ => false
def sk_r3 (i : Instr) (rt : Option FieldType) : Bool := match i, rt with
  | .areturn, some (.object _) => true
  | _, _ => false
def sk_r4 (i : Instr) (rt : Option FieldType) : Bool := match i, rt with
  | .freturn, some .float => true
  | _, _ => false
def sk_r5 (i : Instr) (rt : Option FieldType) : Bool := match i, rt with
  | .dreturn, some .double => true
  | _, _ => false
def sk_ret (y : Nat) (i : Instr) (kd : Nat) : Bool := match kd with
  | 0 => sk_r0 i (jv_ym y).2.2
  | 1 => sk_r1 i (jv_ym y).2.2
  | 2 => sk_r2 i (jv_ym y).2.2
  | 3 => sk_r3 i (jv_ym y).2.2
  | 4 => sk_r4 i (jv_ym y).2.2
  | _ => sk_r5 i (jv_ym y).2.2
def sk_tab (pc : Nat) (i : Instr) (a : Nat) : Bool := match i with
  | .tableswitch d lo hi offs => decide (a = pc ∧ 0 ≤ (pc : Int) + d ∧ -2147483648 ≤ lo ∧ lo < 2147483648 ∧ -2147483648 ≤ hi ∧ hi < 2147483648) && offs.toList.all (fun off => decide (0 ≤ (pc : Int) + off))
  | _ => false
def sk_lsw (pc : Nat) (i : Instr) (a : Nat) : Bool := match i with
  | .lookupswitch d ps => decide (a = pc ∧ 0 ≤ (pc : Int) + d ∧ 0 < ps.toList.length) && ((ps.toList.zip (ps.toList.drop 1)).all (fun (a, next) => a.1 < next.1) && ps.toList.all (fun p => decide (0 ≤ (pc : Int) + p.2 ∧ -2147483648 ≤ p.1 ∧ p.1 < 2147483648)))
  | _ => false
def sk_pure (pc : Nat) (i : Instr) (a b : Nat) : Bool := match i with
  | .fconst _ => decide (a = pc ∧ b = 0)
  | .dconst _ => decide (a = pc ∧ b = 0)
  | .i2f => decide (a = pc ∧ b = 1)
  | .i2d => decide (a = pc ∧ b = 1)
  | .f2d => decide (a = pc ∧ b = 1)
  | .fdiv => decide (a = pc ∧ b = 2)
  | .ddiv => decide (a = pc ∧ b = 2)
  | .dcmp _ => decide (a = pc ∧ b = 2)
  | _ => false
def sk_ldc (y : Nat) (i : Instr) (a kd : Nat) : Bool := match i with
  | .ldc idx => match jv_ldc (sow y) idx, kd with
    | some (.int w), 0 => decide (w = Int32.ofNat a ∧ a < sM)
    | some (.ref p), 1 => decide (a = sREF + p ∧ p < sM)
    | _, _ => false
  | _ => false
def sk1 (y pc : Nat) (i : Instr) (op a b : Nat) : Bool := match op with
  | 0 => sk_const i a
  | 1 => sk_iload i a
  | 2 => sk_aload i a
  | 3 => sk_dload i a
  | 4 => sk_istore i a
  | 5 => sk_astore i a
  | 6 => sk_dstore i a
  | 7 => sk_iinc i a b
  | 8 => sk_getf y i a b
  | 9 => sk_putf y i a b 0
  | 10 => sk_putf y i a b 1
  | 11 => sk_putf y i a b 2
  | 12 => sk_goto pc i a
  | 13 => sk_if pc i a b
  | 14 => sk_icmp pc i a b
  | 15 => decide (i = .iadd)
  | 16 => decide (i = .isub)
  | 17 => decide (i = .imul)
  | 18 => decide (i = .idiv)
  | 19 => decide (i = .irem)
  | 20 => decide (i = .iand)
  | 21 => decide (i = .ishr)
  | 22 => decide (i = .ixor)
  | 23 => decide (i = .iaload)
  | 24 => decide (i = .baload)
  | 25 => decide (i = .aaload)
  | 26 => decide (i = .iastore)
  | 27 => decide (i = .bastore)
  | 28 => decide (i = .aastore)
  | 29 => decide (i = .arraylength)
  | 30 => sk_new y i a
  | 31 => sk_newa i a
  | 32 => sk_anew y i a
  | 33 => decide (i = .dup)
  | 34 => decide (i = .dup2)
  | 35 => decide (i = .pop)
  | 36 => sk_call y i a b
  | 37 => sk_spec y i 900 2 1 20
  | 38 => sk_spec y i 901 1 2 40
  | 39 => sk_spec y i 902 1 6 120
  | 40 => sk_ret y i 0
  | 41 => sk_ret y i 1
  | 42 => sk_ret y i 2
  | 43 => sk_ret y i 3
  | 44 => sk_ret y i 4
  | 45 => sk_ret y i 5
  | 46 => sk_tab pc i a
  | 47 => sk_pure pc i a b
  | 48 => sk_ldc y i a 0
  | 49 => sk_ldc y i a 1
  | 50 => sk_lsw pc i a
  | _ => true
def s_k (y pc : Nat) (e : sI) : Bool := match jv_code y pc with
  | some (i, len) => Nat.beq len e.2.2.2 && sk1 y pc i e.1 e.2.1 e.2.2.1
  | none => false
def s_ok (y : Nat) : Nat → List sI → Bool
  | _, [] => true
  | pc, e :: t => s_k y pc e && s_ok y (pc + e.2.2.2) t
theorem s_find_ok {y tgt : Nat} {cl : List sI} : ∀ (l : List sI) (pc : Nat), s_ok y pc l = true → s_find l pc tgt = some cl → s_ok y tgt cl = true
  | [], pc, _, h => by cases h
  | e :: t, pc, h1, h2 => by
    have h3 : cond (Nat.beq pc tgt) (some (e :: t)) (s_find t (pc + e.2.2.2) tgt) = some cl := h2
    cases hq : Nat.beq pc tgt with
    | true =>
      rw [hq] at h3
      cases h3
      rw [← b_eq hq]
      exact h1
    | false =>
      rw [hq] at h3
      exact s_find_ok t _ (s_and h1).2 h3
