/-! THE J MACHINE: a pure reading of the bytecode that the claim's classes use. Cells are numbered by places (a reference is a place, not an address). -/
/-- a cell: an array of whole numbers (kind, length, contents), an array of references, an object (class, fields) -/
abbrev jv_E : Type := (Nat × Nat × (Nat → Int32)) ⊕ ((Nat × Nat × (Nat → Option Nat)) ⊕ (Nat × List Value))
/-- the cells, how many there are, how many slots they have -/
abbrev jv_H : Type := (Nat → jv_E) × Nat × Nat
def jv_up {α : Type} (f : Nat → α) (k : Nat) (v : α) : Nat → α := fun j => if j = k then v else f j
def jv_two (f : Int32 → Int32 → Int32) (st : List Value) : Option (List Value) := match st with
  | .int y :: .int x :: r => some (.int (f x y) :: r)
  | _ => none
/-- what works on the stack alone -/
def jv_pure (i : Instr) (st : List Value) : Option (List Value) := match i with
  | .iconst n => some (.int (Int32.ofInt n) :: st)
  | .bipush n => some (.int (Int8.ofInt n).toInt32 :: st)
  | .sipush n => some (.int (Int16.ofInt n).toInt32 :: st)
  | .iadd => jv_two (fun x y => x + y) st
  | .isub => jv_two (fun x y => x - y) st
  | .imul => jv_two (fun x y => x * y) st
  | .iand => jv_two (fun x y => x &&& y) st
  | .ior => jv_two (fun x y => x ||| y) st
  | .ixor => jv_two (fun x y => x ^^^ y) st
  | .ishl => jv_two (fun x y => x <<< (y &&& 31)) st
  | .ishr => jv_two (fun x y => x >>> (y &&& 31)) st
  | .idiv => match st with
    | .int y :: .int x :: r => if y = 0 then none else some (.int (x / y) :: r)
    | _ => none
  | .irem => match st with
    | .int y :: .int x :: r => if y = 0 then none else some (.int (x - x / y * y) :: r)
    | _ => none
  | .ineg => match st with
    | .int x :: r => some (.int (-x) :: r)
    | _ => none
  | .dup => match st with
    | .int x :: r => some (.int x :: .int x :: r)
    | .ref a :: r => some (.ref a :: .ref a :: r)
    | _ => none
  | .dup2 => match st with
    | .int x :: .ref a :: r => some (.int x :: .ref a :: .int x :: .ref a :: r)
    | _ => none
  | .pop => match st with
    | .int _ :: r => some r
    | .ref _ :: r => some r
    | .float _ :: r => some r
    | _ => none
  | .pop2 => match st with
    | .double _ :: r => some r
    | _ => none
  | .i2f => match st with
    | .int x :: r => some (.float (FP.i2f x) :: r)
    | _ => none
  | .i2d => match st with
    | .int x :: r => some (.double (FP.i2d x) :: r)
    | _ => none
  | .f2d => match st with
    | .float x :: r => if (FP.f2d x) &&& 0x7fffffffffffffff ≤ 0x7ff0000000000000 then some (.double (FP.f2d x) :: r) else none
    | _ => none
  | .fdiv => match st with
    | .float y :: .float x :: r => if (FP.fdiv x y) &&& 0x7fffffff ≤ 0x7f800000 then some (.float (FP.fdiv x y) :: r) else none
    | _ => none
  | .ddiv => match st with
    | .double y :: .double x :: r => if (FP.ddiv x y) &&& 0x7fffffffffffffff ≤ 0x7ff0000000000000 then some (.double (FP.ddiv x y) :: r) else none
    | _ => none
  | .dcmp op => match st with
    | .double y :: .double x :: r => some (.int (Op.cmpValue (FP.dcmp x y) op) :: r)
    | _ => none
  | .fconst k => if k = 0 then some (.float FP.fconst0 :: st) else none
  | .dconst k => if k = 0 then some (.double FP.dconst0 :: st) else none
  | _ => none
def jv_cc (c : ClassFile.Cond) (x y : Int32) : Bool := match c with
  | .eq => decide (x = y)
  | .ne => decide (¬ x = y)
  | .lt => decide (x < y)
  | .ge => decide (x ≥ y)
  | .gt => decide (x > y)
  | .le => decide (x ≤ y)
def jv_jmp (pc : Nat) (off : Int) (st : List Value) : Option (Nat × List Value) := if 0 ≤ (pc : Int) + off then some (((pc : Int) + off).toNat, st) else none
/-- jumps: where to, with what on the stack -/
def jv_br (i : Instr) (pc : Nat) (st : List Value) : Option (Nat × List Value) := match i with
  | .goto off => jv_jmp pc off st
  | .ifCond c off => match st with
    | .int x :: r => match jv_jmp pc off r with
      | some t => if jv_cc c x 0 = true then some t else some (pc + 3, r)
      | none => none
    | _ => none
  | .if_icmp c off => match st with
    | .int y :: .int x :: r => match jv_jmp pc off r with
      | some t => if jv_cc c x y = true then some t else some (pc + 3, r)
      | none => none
    | _ => none
  | .tableswitch d lo hi offs => match st with
    | .int x :: r => if x.toInt < lo ∨ hi < x.toInt then jv_jmp pc d r else match offs[(x.toInt - lo).toNat]? with
      | some off => jv_jmp pc off r
      | none => none
    | _ => none
  | .lookupswitch d ps => match st with
    | .int x :: r => if (ps.toList.zip (ps.toList.drop 1)).all (fun (a, next) => a.1 < next.1) = true then jv_jmp pc (Op.lookupswitch.offset ps.toList d x.toInt) r else none
    | _ => none
  | _ => none
def jv_cat2 (L : List (Option Value)) (i : Nat) : Bool := match L[i]? with
  | some (some (.double _)) => true
  | some (some (.long _)) => true
  | _ => false
/-- a store of one word -/
def jv_set1 (L : List (Option Value)) (i : Nat) (v : Value) : Option (List (Option Value)) := if i < L.length then (match i with
  | 0 => some (L.set 0 (some v))
  | j + 1 => if jv_cat2 L j = true then none else some (L.set (j + 1) (some v))) else none
def jv_set2 (L : List (Option Value)) (i : Nat) (v : Value) : Option (List (Option Value)) := if i + 1 < L.length then (match i with
  | 0 => some ((L.set 0 (some v)).set 1 none)
  | j + 1 => if jv_cat2 L j = true then none else some ((L.set (j + 1) (some v)).set (j + 2) none)) else none
def jv_ldI (L : List (Option Value)) (i : Nat) (st : List Value) : Option (List Value) := match L[i]? with
  | some (some (.int x)) => some (.int x :: st)
  | _ => none
def jv_ldA (L : List (Option Value)) (i : Nat) (st : List Value) : Option (List Value) := match L[i]? with
  | some (some (.ref x)) => some (.ref x :: st)
  | _ => none
def jv_ldD (L : List (Option Value)) (i : Nat) (st : List Value) : Option (List Value) := match L[i]? with
  | some (some (.double x)) => some (.double x :: st)
  | _ => none
/-- loads -/
def jv_ld (i : Instr) (L : List (Option Value)) (st : List Value) : Option (List Value) := match i with
  | .iload_n k => jv_ldI L k.val st
  | .iload k => jv_ldI L k st
  | .aload_n k => jv_ldA L k.val st
  | .aload k => jv_ldA L k st
  | .dload_n k => jv_ldD L k.val st
  | .dload k => jv_ldD L k st
  | _ => none
def jv_stI (L : List (Option Value)) (i : Nat) (st : List Value) : Option (List (Option Value) × List Value) := match st with
  | .int x :: r => match jv_set1 L i (.int x) with
    | some L' => some (L', r)
    | none => none
  | _ => none
def jv_stA (L : List (Option Value)) (i : Nat) (st : List Value) : Option (List (Option Value) × List Value) := match st with
  | .ref x :: r => match jv_set1 L i (.ref x) with
    | some L' => some (L', r)
    | none => none
  | _ => none
def jv_stD (L : List (Option Value)) (i : Nat) (st : List Value) : Option (List (Option Value) × List Value) := match st with
  | .double x :: r => match jv_set2 L i (.double x) with
    | some L' => some (L', r)
    | none => none
  | _ => none
/-- stores -/
def jv_sto (i : Instr) (L : List (Option Value)) (st : List Value) : Option (List (Option Value) × List Value) := match i with
  | .istore_n k => jv_stI L k.val st
  | .istore k => jv_stI L k st
  | .astore_n k => jv_stA L k.val st
  | .astore k => jv_stA L k st
  | .dstore_n k => jv_stD L k.val st
  | .dstore k => jv_stD L k st
  | .iinc k n => match L[k]? with
    | some (some (.int x)) => match jv_set1 L k (.int (x + Int32.ofInt n)) with
      | some L' => some (L', st)
      | none => none
    | _ => none
  | _ => none
def jv_arrT (k : Nat) : FieldType := match k with
  | 0 => .int
  | 1 => .boolean
  | 2 => .object "SeatSwap$Traveller"
  | _ => .object "SeatSwap$Train"
def jv_put (h : jv_H) (a : Nat) (x : jv_E) : jv_H := (jv_up h.1 a x, h.2)
def jv_add (h : jv_H) (x : jv_E) (n : Nat) : jv_H := (jv_up h.1 h.2.1 x, h.2.1 + 1, h.2.2 + n)
def jv_get (ow : Nat) (idx : Nat) (st : List Value) (h : jv_H) : Option (List Value) := match st with
  | .ref a :: r => match jv_fld ow idx with
    | some (c, k) => if a < h.2.1 then match h.1 a with
      | .inr (.inr (d, fs)) => if d = c then (match fs[k]? with
        | some v => some (v :: r)
        | none => none) else none
      | _ => none else none
    | none => none
  | _ => none
def jv_set (ow : Nat) (ini : Bool) (idx : Nat) (st : List Value) (h : jv_H) : Option (List Value × jv_H) := match st with
  | v :: .ref a :: r => match jv_fld ow idx with
    | some (c, k) => if a < h.2.1 ∧ narrow (jv_fty c k) v = v ∧ fits (jv_fty c k) v = true ∧ ((jv_fT c k).2.2.2 = false ∨ (ini = true ∧ c = ow)) then match h.1 a with
      | .inr (.inr (d, fs)) => if d = c ∧ k < fs.length then some (r, jv_put h a (.inr (.inr (d, fs.set k v)))) else none
      | _ => none else none
    | none => none
  | _ => none
/-- what reads and writes cells -/
def jv_heap (ow : Nat) (ini : Bool) (i : Instr) (st : List Value) (h : jv_H) : Option (List Value × jv_H) := match i with
  | .getfield idx => match jv_get ow idx st h with
    | some st' => some (st', h)
    | none => none
  | .putfield idx => jv_set ow ini idx st h
  | .iaload => match st with
    | .int i :: .ref a :: r => if a < h.2.1 ∨ (a = 1000000 ∧ ow = 10) then match h.1 a with
      | .inl (ty, n, f) => if (ty = 0 ∧ a < h.2.1 ∨ ty = 9 ∧ a = 1000000) ∧ ¬ (i < 0 ∨ n ≤ i.toNatClampNeg) then some (.int (f i.toNatClampNeg) :: r, h) else none
      | _ => none else none
    | _ => none
  | .baload => match st with
    | .int i :: .ref a :: r => if a < h.2.1 then match h.1 a with
      | .inl (ty, n, f) => if ty = 1 ∧ ¬ (i < 0 ∨ n ≤ i.toNatClampNeg) then some (.int (f i.toNatClampNeg) :: r, h) else none
      | _ => none else none
    | _ => none
  | .aaload => match st with
    | .int i :: .ref a :: r => if a < h.2.1 then match h.1 a with
      | .inr (.inl (ty, n, f)) => if (ty = 2 ∨ ty = 3) ∧ ¬ (i < 0 ∨ n ≤ i.toNatClampNeg) then (match f i.toNatClampNeg with
        | some b => some (.ref b :: r, h)
        | none => none) else none
      | _ => none else none
    | _ => none
  | .iastore => match st with
    | .int x :: .int i :: .ref a :: r => if a < h.2.1 then match h.1 a with
      | .inl (ty, n, f) => if ty = 0 ∧ ¬ (i < 0 ∨ n ≤ i.toNatClampNeg) then some (r, jv_put h a (.inl (ty, n, upd f i.toNatClampNeg x))) else none
      | _ => none else none
    | _ => none
  | .bastore => match st with
    | .int x :: .int i :: .ref a :: r => if a < h.2.1 ∧ vp_nar .boolean x = x then match h.1 a with
      | .inl (ty, n, f) => if ty = 1 ∧ ¬ (i < 0 ∨ n ≤ i.toNatClampNeg) then some (r, jv_put h a (.inl (ty, n, upd f i.toNatClampNeg x))) else none
      | _ => none else none
    | _ => none
  | .aastore => match st with
    | .ref b :: .int i :: .ref a :: r => if a < h.2.1 ∧ b < h.2.1 then match h.1 a, h.1 b with
      | .inr (.inl (ty, n, f)), .inr (.inr (d, _)) => if ((ty = 2 ∧ d = 6) ∨ (ty = 3 ∧ d = 5)) ∧ ¬ (i < 0 ∨ n ≤ i.toNatClampNeg) then some (r, jv_put h a (.inr (.inl (ty, n, va_up f i.toNatClampNeg (some b))))) else none
      | _, _ => none else none
    | _ => none
  | .arraylength => match st with
    | .ref a :: r => if a < h.2.1 ∨ (a = 1000000 ∧ ow = 10) then match h.1 a with
      | .inl (ty, n, _) => if ty < 2 ∧ a < h.2.1 ∨ ty = 9 ∧ a = 1000000 then some (.int (Int32.ofNat n) :: r, h) else none
      | .inr (.inl (ty, n, _)) => if (ty = 2 ∨ ty = 3) ∧ a < h.2.1 then some (.int (Int32.ofNat n) :: r, h) else none
      | _ => none else none
    | _ => none
  | .new idx => match jv_new ow idx with
    | some c => some (.ref h.2.1 :: st, jv_add h (.inr (.inr (c, (List.range (jv_fn c)).map (fun k => defaultValue (jv_fty c k))))) (jv_fn c))
    | none => none
  | .newarray t => match st with
    | .int n :: r => if ¬ n < 0 ∧ n.toNatClampNeg ≤ 100000 then (match t with
      | .int => some (.ref h.2.1 :: r, jv_add h (.inl (0, n.toNatClampNeg, fun _ => 0)) n.toNatClampNeg)
      | .boolean => some (.ref h.2.1 :: r, jv_add h (.inl (1, n.toNatClampNeg, fun _ => 0)) n.toNatClampNeg)
      | _ => none) else none
    | _ => none
  | .anewarray idx => match st with
    | .int n :: r => if ¬ n < 0 ∧ n.toNatClampNeg ≤ 100000 then (match jv_new ow idx with
      | some c => if c = 6 then some (.ref h.2.1 :: r, jv_add h (.inr (.inl (2, n.toNatClampNeg, fun _ => none))) n.toNatClampNeg)
        else if c = 5 then some (.ref h.2.1 :: r, jv_add h (.inr (.inl (3, n.toNatClampNeg, fun _ => none))) n.toNatClampNeg) else none
      | none => none) else none
    | _ => none
  | .ldc idx => match jv_ldc ow idx with
    | some v => some (v :: st, h)
    | none => none
  | _ => none
/-- one instruction that neither calls nor returns -/
def jv_step (ow : Nat) (ini : Bool) (i : Instr) (len pc : Nat) (L : List (Option Value)) (st : List Value) (h : jv_H) : Option (Nat × List (Option Value) × List Value × jv_H) := match jv_pure i st with
  | some st' => some (pc + len, L, st', h)
  | none => match jv_ld i L st with
    | some st' => some (pc + len, L, st', h)
    | none => match jv_br i pc st with
      | some (pc', st') => some (pc', L, st', h)
      | none => match jv_sto i L st with
        | some (L', st') => some (pc + len, L', st', h)
        | none => match jv_heap ow ini i st h with
          | some (st', h') => some (pc + len, L, st', h')
          | none => none
/-- returns: the answer -/
def jv_ret (ret : Option FieldType) (i : Instr) (st : List Value) : Option (Option Value) := match i, ret, st with
  | .return_, none, [] => some none
  | .ireturn, some ty, [.int v] => if narrow ty (.int v) = .int v then some (some (.int v)) else none
  | .areturn, some (.object _), [.ref a] => some (some (.ref a))
  | .freturn, some .float, [.float v] => some (some (.float v))
  | .dreturn, some .double, [.double v] => some (some (.double v))
  | _, _, _ => none
def jv_isC (i : Instr) : Option (Nat × Nat) := match i with
  | .invokestatic k => some (0, k)
  | .invokevirtual k => some (1, k)
  | .invokespecial k => some (2, k)
  | _ => none
def jv_wd (st : List Value) : Nat := (st.map fun v => v.category).sum
/-- the two members of String over the claim's texts -/
def jv_strlen (st : List Value) : Option (List Value) := match st with
  | .ref a :: r => match jv_tix a with
    | some i => some (.int (Int32.ofNat (jv_byt.getD i []).length) :: r)
    | none => none
  | _ => none
def jv_strat (st : List Value) : Option (List Value) := match st with
  | .int j :: .ref a :: r => match jv_tix a with
    | some i => if ¬ (j < 0 ∨ (jv_byt.getD i []).length ≤ j.toNatClampNeg) then some (.int ((jv_byt.getD i []).getD j.toNatClampNeg 0) :: r) else none
    | none => none
  | _ => none
/-- may a method with this room call that one: kinds, words, and the receiver's class -/
def jv_may (kd : Nat) (fr lo : Nat) (q : Nat × Nat × Nat × Nat × Nat × Nat) (na : Nat) (st : List Value) (h : jv_H) : Bool :=
  decide (q.2.1 = kd ∧ q.2.2.1 = na ∧ na ≤ st.length ∧ na ≤ q.2.2.2.1 ∧ q.2.2.2.2.1 + 1 ≤ fr ∧ 19 + q.2.2.2.1 + q.2.2.2.2.2 ≤ lo ∧ jv_wd (st.drop na) ≤ 8 ∧ jv_wd (st.take na) = na) &&
  (match kd with
   | 0 => true
   | _ => match (st.take na).getLast? with
     | some (.ref a) => decide (a < h.2.1) && (match h.1 a with
       | .inr (.inr (d, _)) => decide (d = q.1)
       | _ => false)
     | _ => false)
def jv_run : Nat → Nat → Nat → List (Option Value) → List Value → jv_H → Option (Option Value × jv_H)
  | 0, _, _, _, _, _ => none
  | n + 1, y, pc, L, st, h => match jv_inf y with
    | none => none
    | some (ow, kd, _, _, fr, lo) => match jv_code y pc with
      | none => none
      | some (i, len) => match jv_ret (jv_ym y).2.2 i st with
        | some r => some (r, h)
        | none => match jv_isC i with
          | none => match jv_step ow (decide (kd = 2)) i len pc L st h with
            | some (pc', L', st', h') => jv_run n y pc' L' st' h'
            | none => none
          | some (ck, idx) => match jv_cal ow idx with
            | none => none
            | some (z, na, _) => if z = 900 then (match st with
                | .ref _ :: r => if ck = 2 ∧ 1 ≤ fr ∧ jv_wd r + 12 ≤ lo then jv_run n y (pc + 3) L r h else none
                | _ => none)
              else if z = 901 then (match jv_strlen st with
                | some st' => if ck = 1 ∧ 2 ≤ fr ∧ 40 ≤ lo ∧ jv_wd (st.drop 1) ≤ 8 then jv_run n y (pc + 3) L st' h else none
                | none => none)
              else if z = 902 then (match jv_strat st with
                | some st' => if ck = 1 ∧ 6 ≤ fr ∧ 120 ≤ lo ∧ jv_wd (st.drop 2) ≤ 8 then jv_run n y (pc + 3) L st' h else none
                | none => none)
              else match jv_inf z with
                | none => none
                | some q => if jv_may ck fr lo q na st h = true then (match jv_run n z 0 ((st.take na).reverse.map some ++ List.replicate (q.2.2.2.1 - na) none) [] h with
                  | some (r, h1) => jv_run n y (pc + 3) L (r.toList ++ st.drop na) h1
                  | none => none) else none
