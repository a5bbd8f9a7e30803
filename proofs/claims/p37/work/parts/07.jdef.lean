section
/-! THE J MACHINE: a pure reading of the bytecode that the claim's classes use. Cells are numbered by places (a reference is a place, not an address). -/
/-- a cell: an array of whole numbers (kind, length, contents), an array of references, an object (class, fields) -/
abbrev jv_E : Type := (Nat × Nat × (Nat → Int32)) ⊕ ((Nat × Nat × (Nat → Option Nat)) ⊕ (Nat × List Value))
/-- the cells, how many there are, how many slots they have -/
abbrev jv_H : Type := (Nat → jv_E) × Nat × Nat
def jv_up {α : Type} (f : Nat → α) (k : Nat) (v : α) : Nat → α := fun j => if j = k then v else f j
def jv_two (f : Int32 → Int32 → Int32) (st : List Value) : Option (List Value) := match st with
  | .int y :: .int x :: r => some (.int (f x y) :: r)
  | _ => none
/-- what works on the stack alone -/
def jv_pure (i : Instr) (st : List Value) : Option (List Value) := match i with
  | .iconst n => some (.int (Int32.ofInt n) :: st)
  | .bipush n => some (.int (Int8.ofInt n).toInt32 :: st)
  | .sipush n => some (.int (Int16.ofInt n).toInt32 :: st)
  | .iadd => jv_two (fun x y => x + y) st
  | .isub => jv_two (fun x y => x - y) st
  | .imul => jv_two (fun x y => x * y) st
  | .iand => jv_two (fun x y => x &&& y) st
  | .ior => jv_two (fun x y => x ||| y) st
  | .ixor => jv_two (fun x y => x ^^^ y) st
  | .ishl => jv_two (fun x y => x <<< (y &&& 31)) st
  | .ishr => jv_two (fun x y => x >>> (y &&& 31)) st
  | .idiv => match st with
    | .int y :: .int x :: r => if y = 0 then none else some (.int (x / y) :: r)
    | _ => none
  | .irem => match st with
    | .int y :: .int x :: r => if y = 0 then none else some (.int (x - x / y * y) :: r)
    | _ => none
  | .ineg => match st with
    | .int x :: r => some (.int (-x) :: r)
    | _ => none
  | .dup => match st with
    | .int x :: r => some (.int x :: .int x :: r)
    | .ref a :: r => some (.ref a :: .ref a :: r)
    | _ => none
  | .dup2 => match st with
    | .int x :: .ref a :: r => some (.int x :: .ref a :: .int x :: .ref a :: r)
    | _ => none
  | .pop => match st with
    | .int _ :: r => some r
    | .ref _ :: r => some r
    | .float _ :: r => some r
    | _ => none
  | .pop2 => match st with
    | .double _ :: r => some r
    | _ => none
  | .i2f => match st with
    | .int x :: r => some (.float (FP.i2f x) :: r)
    | _ => none
  | .i2d => match st with
    | .int x :: r => some (.double (FP.i2d x) :: r)
    | _ => none
  | .f2d => match st with
    | .float x :: r => if (FP.f2d x) &&& 0x7fffffffffffffff ≤ 0x7ff0000000000000 then some (.double (FP.f2d x) :: r) else none
    | _ => none
  | .fdiv => match st with
    | .float y :: .float x :: r => if (FP.fdiv x y) &&& 0x7fffffff ≤ 0x7f800000 then some (.float (FP.fdiv x y) :: r) else none
    | _ => none
  | .ddiv => match st with
    | .double y :: .double x :: r => if (FP.ddiv x y) &&& 0x7fffffffffffffff ≤ 0x7ff0000000000000 then some (.double (FP.ddiv x y) :: r) else none
    | _ => none
  | .dcmp op => match st with
    | .double y :: .double x :: r => some (.int (Op.cmpValue (FP.dcmp x y) op) :: r)
    | _ => none
  | .fconst k => if k = 0 then some (.float FP.fconst0 :: st) else none
  | .dconst k => if k = 0 then some (.double FP.dconst0 :: st) else none
  | _ => none
def jv_cc (c : ClassFile.Cond) (x y : Int32) : Bool := match c with
  | .eq => decide (x = y)
  | .ne => decide (¬ x = y)
  | .lt => decide (x < y)
  | .ge => decide (x ≥ y)
  | .gt => decide (x > y)
  | .le => decide (x ≤ y)
def jv_jmp (pc : Nat) (off : Int) (st : List Value) : Option (Nat × List Value) := if 0 ≤ (pc : Int) + off then some (((pc : Int) + off).toNat, st) else none
/-- jumps: where to, with what on the stack -/
def jv_br (i : Instr) (pc : Nat) (st : List Value) : Option (Nat × List Value) := match i with
  | .goto off => jv_jmp pc off st
  | .ifCond c off => match st with
    | .int x :: r => match jv_jmp pc off r with
      | some t => if jv_cc c x 0 = true then some t else some (pc + 3, r)
      | none => none
    | _ => none
  | .if_icmp c off => match st with
    | .int y :: .int x :: r => match jv_jmp pc off r with
      | some t => if jv_cc c x y = true then some t else some (pc + 3, r)
      | none => none
    | _ => none
  | .tableswitch d lo hi offs => match st with
    | .int x :: r => if x.toInt < lo ∨ hi < x.toInt then jv_jmp pc d r else match offs[(x.toInt - lo).toNat]? with
      | some off => jv_jmp pc off r
      | none => none
    | _ => none
  | .lookupswitch d ps => match st with
    | .int x :: r => if (ps.toList.zip (ps.toList.drop 1)).all (fun (a, next) => a.1 < next.1) = true then jv_jmp pc (Op.lookupswitch.offset ps.toList d x.toInt) r else none
    | _ => none
  | _ => none
def jv_cat2 (L : List (Option Value)) (i : Nat) : Bool := match L[i]? with
  | some (some (.double _)) => true
  | some (some (.long _)) => true
  | _ => false
/-- a store of one word -/
def jv_set1 (L : List (Option Value)) (i : Nat) (v : Value) : Option (List (Option Value)) := if i < L.length then (match i with
  | 0 => some (L.set 0 (some v))
  | j + 1 => if jv_cat2 L j = true then none else some (L.set (j + 1) (some v))) else none
def jv_set2 (L : List (Option Value)) (i : Nat) (v : Value) : Option (List (Option Value)) := if i + 1 < L.length then (match i with
  | 0 => some ((L.set 0 (some v)).set 1 none)
  | j + 1 => if jv_cat2 L j = true then none else some ((L.set (j + 1) (some v)).set (j + 2) none)) else none
def jv_ldI (L : List (Option Value)) (i : Nat) (st : List Value) : Option (List Value) := match L[i]? with
  | some (some (.int x)) => some (.int x :: st)
  | _ => none
def jv_ldA (L : List (Option Value)) (i : Nat) (st : List Value) : Option (List Value) := match L[i]? with
  | some (some (.ref x)) => some (.ref x :: st)
  | _ => none
def jv_ldD (L : List (Option Value)) (i : Nat) (st : List Value) : Option (List Value) := match L[i]? with
  | some (some (.double x)) => some (.double x :: st)
  | _ => none
/-- loads -/
def jv_ld (i : Instr) (L : List (Option Value)) (st : List Value) : Option (List Value) := match i with
  | .iload_n k => jv_ldI L k.val st
  | .iload k => jv_ldI L k st
  | .aload_n k => jv_ldA L k.val st
  | .aload k => jv_ldA L k st
  | .dload_n k => jv_ldD L k.val st
  | .dload k => jv_ldD L k st
  | _ => none
def jv_stI (L : List (Option Value)) (i : Nat) (st : List Value) : Option (List (Option Value) × List Value) := match st with
  | .int x :: r => match jv_set1 L i (.int x) with
    | some L' => some (L', r)
    | none => none
  | _ => none
def jv_stA (L : List (Option Value)) (i : Nat) (st : List Value) : Option (List (Option Value) × List Value) := match st with
  | .ref x :: r => match jv_set1 L i (.ref x) with
    | some L' => some (L', r)
    | none => none
  | _ => none
def jv_stD (L : List (Option Value)) (i : Nat) (st : List Value) : Option (List (Option Value) × List Value) := match st with
  | .double x :: r => match jv_set2 L i (.double x) with
    | some L' => some (L', r)
    | none => none
  | _ => none
/-- stores -/
def jv_sto (i : Instr) (L : List (Option Value)) (st : List Value) : Option (List (Option Value) × List Value) := match i with
  | .istore_n k => jv_stI L k.val st
  | .istore k => jv_stI L k st
  | .astore_n k => jv_stA L k.val st
  | .astore k => jv_stA L k st
  | .dstore_n k => jv_stD L k.val st
  | .dstore k => jv_stD L k st
  | .iinc k n => match L[k]? with
    | some (some (.int x)) => match jv_set1 L k (.int (x + Int32.ofInt n)) with
      | some L' => some (L', st)
      | none => none
    | _ => none
  | _ => none
def jv_arrT (k : Nat) : FieldType := match k with
  | 0 => .int
  | 1 => .boolean
  | 2 => .object "SeatSwap$Traveller"
  | _ => .object "SeatSwap$Train"
def jv_put (h : jv_H) (a : Nat) (x : jv_E) : jv_H := (jv_up h.1 a x, h.2)
def jv_add (h : jv_H) (x : jv_E) (n : Nat) : jv_H := (jv_up h.1 h.2.1 x, h.2.1 + 1, h.2.2 + n)
def jv_get (ow : Nat) (idx : Nat) (st : List Value) (h : jv_H) : Option (List Value) := match st with
  | .ref a :: r => match jv_fld ow idx with
    | some (c, k) => if a < h.2.1 then match h.1 a with
      | .inr (.inr (d, fs)) => if d = c then (match fs[k]? with
        | some v => some (v :: r)
        | none => none) else none
      | _ => none else none
    | none => none
  | _ => none
def jv_set (ow : Nat) (ini : Bool) (idx : Nat) (st : List Value) (h : jv_H) : Option (List Value × jv_H) := match st with
  | v :: .ref a :: r => match jv_fld ow idx with
    | some (c, k) => if a < h.2.1 ∧ narrow (jv_fty c k) v = v ∧ fits (jv_fty c k) v = true ∧ ((jv_fT c k).2.2.2 = false ∨ (ini = true ∧ c = ow)) then match h.1 a with
      | .inr (.inr (d, fs)) => if d = c ∧ k < fs.length then some (r, jv_put h a (.inr (.inr (d, fs.set k v)))) else none
      | _ => none else none
    | none => none
  | _ => none
/-- what reads and writes cells -/
def jv_heap (ow : Nat) (ini : Bool) (i : Instr) (st : List Value) (h : jv_H) : Option (List Value × jv_H) := match i with
  | .getfield idx => match jv_get ow idx st h with
    | some st' => some (st', h)
    | none => none
  | .putfield idx => jv_set ow ini idx st h
  | .iaload => match st with
    | .int i :: .ref a :: r => if a < h.2.1 ∨ (a = 1000000 ∧ ow = 10) then match h.1 a with
      | .inl (ty, n, f) => if (ty = 0 ∧ a < h.2.1 ∨ ty = 9 ∧ a = 1000000) ∧ ¬ (i < 0 ∨ n ≤ i.toNatClampNeg) then some (.int (f i.toNatClampNeg) :: r, h) else none
      | _ => none else none
    | _ => none
  | .baload => match st with
    | .int i :: .ref a :: r => if a < h.2.1 then match h.1 a with
      | .inl (ty, n, f) => if ty = 1 ∧ ¬ (i < 0 ∨ n ≤ i.toNatClampNeg) then some (.int (f i.toNatClampNeg) :: r, h) else none
      | _ => none else none
    | _ => none
  | .aaload => match st with
    | .int i :: .ref a :: r => if a < h.2.1 then match h.1 a with
      | .inr (.inl (ty, n, f)) => if (ty = 2 ∨ ty = 3) ∧ ¬ (i < 0 ∨ n ≤ i.toNatClampNeg) then (match f i.toNatClampNeg with
        | some b => some (.ref b :: r, h)
        | none => none) else none
      | _ => none else none
    | _ => none
  | .iastore => match st with
    | .int x :: .int i :: .ref a :: r => if a < h.2.1 then match h.1 a with
      | .inl (ty, n, f) => if ty = 0 ∧ ¬ (i < 0 ∨ n ≤ i.toNatClampNeg) then some (r, jv_put h a (.inl (ty, n, upd f i.toNatClampNeg x))) else none
      | _ => none else none
    | _ => none
  | .bastore => match st with
    | .int x :: .int i :: .ref a :: r => if a < h.2.1 ∧ vp_nar .boolean x = x then match h.1 a with
      | .inl (ty, n, f) => if ty = 1 ∧ ¬ (i < 0 ∨ n ≤ i.toNatClampNeg) then some (r, jv_put h a (.inl (ty, n, upd f i.toNatClampNeg x))) else none
      | _ => none else none
    | _ => none
  | .aastore => match st with
    | .ref b :: .int i :: .ref a :: r => if a < h.2.1 ∧ b < h.2.1 then match h.1 a, h.1 b with
      | .inr (.inl (ty, n, f)), .inr (.inr (d, _)) => if ((ty = 2 ∧ d = 6) ∨ (ty = 3 ∧ d = 5)) ∧ ¬ (i < 0 ∨ n ≤ i.toNatClampNeg) then some (r, jv_put h a (.inr (.inl (ty, n, va_up f i.toNatClampNeg (some b))))) else none
      | _, _ => none else none
    | _ => none
  | .arraylength => match st with
    | .ref a :: r => if a < h.2.1 ∨ (a = 1000000 ∧ ow = 10) then match h.1 a with
      | .inl (ty, n, _) => if ty < 2 ∧ a < h.2.1 ∨ ty = 9 ∧ a = 1000000 then some (.int (Int32.ofNat n) :: r, h) else none
      | .inr (.inl (ty, n, _)) => if (ty = 2 ∨ ty = 3) ∧ a < h.2.1 then some (.int (Int32.ofNat n) :: r, h) else none
      | _ => none else none
    | _ => none
  | .new idx => match jv_new ow idx with
    | some c => some (.ref h.2.1 :: st, jv_add h (.inr (.inr (c, (List.range (jv_fn c)).map (fun k => defaultValue (jv_fty c k))))) (jv_fn c))
    | none => none
  | .newarray t => match st with
    | .int n :: r => if ¬ n < 0 ∧ n.toNatClampNeg ≤ 100000 then (match t with
      | .int => some (.ref h.2.1 :: r, jv_add h (.inl (0, n.toNatClampNeg, fun _ => 0)) n.toNatClampNeg)
      | .boolean => some (.ref h.2.1 :: r, jv_add h (.inl (1, n.toNatClampNeg, fun _ => 0)) n.toNatClampNeg)
      | _ => none) else none
    | _ => none
  | .anewarray idx => match st with
    | .int n :: r => if ¬ n < 0 ∧ n.toNatClampNeg ≤ 100000 then (match jv_new ow idx with
      | some c => if c = 6 then some (.ref h.2.1 :: r, jv_add h (.inr (.inl (2, n.toNatClampNeg, fun _ => none))) n.toNatClampNeg)
        else if c = 5 then some (.ref h.2.1 :: r, jv_add h (.inr (.inl (3, n.toNatClampNeg, fun _ => none))) n.toNatClampNeg) else none
      | none => none) else none
    | _ => none
  | .ldc idx => match jv_ldc ow idx with
    | some v => some (v :: st, h)
    | none => none
  | _ => none
/-- one instruction that neither calls nor returns -/
def jv_step (ow : Nat) (ini : Bool) (i : Instr) (len pc : Nat) (L : List (Option Value)) (st : List Value) (h : jv_H) : Option (Nat × List (Option Value) × List Value × jv_H) := match jv_pure i st with
  | some st' => some (pc + len, L, st', h)
  | none => match jv_ld i L st with
    | some st' => some (pc + len, L, st', h)
    | none => match jv_br i pc st with
      | some (pc', st') => some (pc', L, st', h)
      | none => match jv_sto i L st with
        | some (L', st') => some (pc + len, L', st', h)
        | none => match jv_heap ow ini i st h with
          | some (st', h') => some (pc + len, L, st', h')
          | none => none
/-- returns: the answer -/
def jv_ret (ret : Option FieldType) (i : Instr) (st : List Value) : Option (Option Value) := match i, ret, st with
  | .return_, none, [] => some none
  | .ireturn, some ty, [.int v] => if narrow ty (.int v) = .int v then some (some (.int v)) else none
  | .areturn, some (.object _), [.ref a] => some (some (.ref a))
  | .freturn, some .float, [.float v] => some (some (.float v))
  | .dreturn, some .double, [.double v] => some (some (.double v))
  | _, _, _ => none
def jv_isC (i : Instr) : Option (Nat × Nat) := match i with
  | .invokestatic k => some (0, k)
  | .invokevirtual k => some (1, k)
  | .invokespecial k => some (2, k)
  | _ => none
def jv_wd (st : List Value) : Nat := (st.map fun v => v.category).sum
/-- the two members of String over the claim's texts -/
def jv_strlen (st : List Value) : Option (List Value) := match st with
  | .ref a :: r => match jv_tix a with
    | some i => some (.int (Int32.ofNat (jv_byt.getD i []).length) :: r)
    | none => none
  | _ => none
def jv_strat (st : List Value) : Option (List Value) := match st with
  | .int j :: .ref a :: r => match jv_tix a with
    | some i => if ¬ (j < 0 ∨ (jv_byt.getD i []).length ≤ j.toNatClampNeg) then some (.int ((jv_byt.getD i []).getD j.toNatClampNeg 0) :: r) else none
    | none => none
  | _ => none
/-- may a method with this room call that one: kinds, words, and the receiver's class -/
def jv_may (kd : Nat) (fr lo : Nat) (q : Nat × Nat × Nat × Nat × Nat × Nat) (na : Nat) (st : List Value) (h : jv_H) : Bool :=
  decide (q.2.1 = kd ∧ q.2.2.1 = na ∧ na ≤ st.length ∧ na ≤ q.2.2.2.1 ∧ q.2.2.2.2.1 + 1 ≤ fr ∧ 19 + q.2.2.2.1 + q.2.2.2.2.2 ≤ lo ∧ jv_wd (st.drop na) ≤ 8 ∧ jv_wd (st.take na) = na) &&
  (match kd with
   | 0 => true
   | _ => match (st.take na).getLast? with
     | some (.ref a) => decide (a < h.2.1) && (match h.1 a with
       | .inr (.inr (d, _)) => decide (d = q.1)
       | _ => false)
     | _ => false)
def jv_run : Nat → Nat → Nat → List (Option Value) → List Value → jv_H → Option (Option Value × jv_H)
  | 0, _, _, _, _, _ => none
  | n + 1, y, pc, L, st, h => match jv_inf y with
    | none => none
    | some (ow, kd, _, _, fr, lo) => match jv_code y pc with
      | none => none
      | some (i, len) => match jv_ret (jv_ym y).2.2 i st with
        | some r => some (r, h)
        | none => match jv_isC i with
          | none => match jv_step ow (decide (kd = 2)) i len pc L st h with
            | some (pc', L', st', h') => jv_run n y pc' L' st' h'
            | none => none
          | some (ck, idx) => match jv_cal ow idx with
            | none => none
            | some (z, na, _) => if z = 900 then (match st with
                | .ref _ :: r => if ck = 2 ∧ 1 ≤ fr ∧ jv_wd r + 12 ≤ lo then jv_run n y (pc + 3) L r h else none
                | _ => none)
              else if z = 901 then (match jv_strlen st with
                | some st' => if ck = 1 ∧ 2 ≤ fr ∧ 40 ≤ lo ∧ jv_wd (st.drop 1) ≤ 8 then jv_run n y (pc + 3) L st' h else none
                | none => none)
              else if z = 902 then (match jv_strat st with
                | some st' => if ck = 1 ∧ 6 ≤ fr ∧ 120 ≤ lo ∧ jv_wd (st.drop 2) ≤ 8 then jv_run n y (pc + 3) L st' h else none
                | none => none)
              else match jv_inf z with
                | none => none
                | some q => if jv_may ck fr lo q na st h = true then (match jv_run n z 0 ((st.take na).reverse.map some ++ List.replicate (q.2.2.2.1 - na) none) [] h with
                  | some (r, h1) => jv_run n y (pc + 3) L (r.toList ++ st.drop na) h1
                  | none => none) else none
end
section
/-! THE J MACHINE IS RIGHT, one instruction at a time: what works on stack and locals -/
section JSND
variable {p : Program} {l : Launch} {e : Env} {R : Room} {s : State} {m : MethodId} {args : Array Value} {below : List Frame} {meth : Method} {c : Code} {H : Heap} {locs : List Loc} {cells slots : Nat} {Q : State → Prop}
variable {cc : ByteArray} {pc : Nat} {ls : Array Slot} {ad : Nat → Nat}
/-- a value, its place turned into an address -/
def jv_vl (ad : Nat → Nat) (v : Value) : Value := match v with
  | .ref a => .ref (ad a)
  | w => w
theorem jv_vl_cat (ad : Nat → Nat) (v : Value) : (jv_vl ad v).category = v.category := by cases v <;> rfl
theorem jv_len1 {i : Instr} {len : Nat} (hl : jv_sw i = true ∨ len = jv_len i) (h : jv_sw i = false) : len = jv_len i := by
  rcases hl with hl | hl
  · rw [h] at hl; cases hl
  · exact hl
theorem jv_two_eq {f : Int32 → Int32 → Int32} {st st' : List Value} (h : jv_two f st = some st') : ∃ (y x : Int32) (r : List Value), st = .int y :: .int x :: r ∧ st' = .int (f x y) :: r := by
  unfold jv_two at h
  split at h
  · cases h; exact ⟨_, _, _, rfl, rfl⟩
  · cases h
set_option maxHeartbeats 4000000 in
theorem jv_pure_ok (hx : p.tables.exec = Jvm.exec) (hb : c.code = cc) {i : Instr} {len : Nat} {st st' : List Value} (hdg : decode cc pc = .ok (i, len)) (hl : jv_sw i = true ∨ len = jv_len i) (h : jv_pure i st = some st')
    (k : W p l e R s m args below meth c H locs cells slots Q (F0 m (pc + len) ls (st'.map (jv_vl ad)))) : W p l e R s m args below meth c H locs cells slots Q (F0 m pc ls (st.map (jv_vl ad))) := by
  unfold jv_pure at h
  split at h
  · have e := jv_len1 hl rfl; subst e; cases h; exact lv_iconst hx hb hdg rfl k
  · have e := jv_len1 hl rfl; subst e; cases h; exact lv_bipush hx hb hdg rfl k
  · have e := jv_len1 hl rfl; subst e; cases h; exact lv_sipush hx hb hdg rfl k
  · have e := jv_len1 hl rfl; subst e; obtain ⟨y, x, r, rfl, rfl⟩ := jv_two_eq h; exact lv_iadd hx hb hdg k
  · have e := jv_len1 hl rfl; subst e; obtain ⟨y, x, r, rfl, rfl⟩ := jv_two_eq h; exact lv_isub hx hb hdg k
  · have e := jv_len1 hl rfl; subst e; obtain ⟨y, x, r, rfl, rfl⟩ := jv_two_eq h; exact lv_imul hx hb hdg k
  · have e := jv_len1 hl rfl; subst e; obtain ⟨y, x, r, rfl, rfl⟩ := jv_two_eq h; exact lv_iand hx hb hdg k
  · have e := jv_len1 hl rfl; subst e; obtain ⟨y, x, r, rfl, rfl⟩ := jv_two_eq h; exact lv_ior hx hb hdg k
  · have e := jv_len1 hl rfl; subst e; obtain ⟨y, x, r, rfl, rfl⟩ := jv_two_eq h; exact lv_ixor hx hb hdg k
  · have e := jv_len1 hl rfl; subst e; obtain ⟨y, x, r, rfl, rfl⟩ := jv_two_eq h; exact lv_ishl hx hb hdg k
  · have e := jv_len1 hl rfl; subst e; obtain ⟨y, x, r, rfl, rfl⟩ := jv_two_eq h; exact lv_ishr hx hb hdg k
  · have e := jv_len1 hl rfl; subst e
    split at h
    · split at h
      · cases h
      · rename_i hne; cases h; exact lv_idiv hx hb hdg hne k
    · cases h
  · have e := jv_len1 hl rfl; subst e
    split at h
    · split at h
      · cases h
      · rename_i hne; cases h; exact lv_irem hx hb hdg hne k
    · cases h
  · have e := jv_len1 hl rfl; subst e
    split at h
    · cases h; exact lv_ineg hx hb hdg k
    · cases h
  · have e := jv_len1 hl rfl; subst e
    split at h
    · rename_i x r; cases h; exact lv_dup (va := .int x) hx hb hdg rfl k
    · rename_i a r; cases h; exact lv_dup (va := .ref (ad a)) hx hb hdg rfl k
    · cases h
  · have e := jv_len1 hl rfl; subst e
    split at h
    · rename_i x a r; cases h; exact lv_dup2_11 (va := .int x) (vb := .ref (ad a)) hx hb hdg rfl rfl k
    · cases h
  · have e := jv_len1 hl rfl; subst e
    split at h
    · rename_i x r; cases h; exact lv_pop (va := .int x) hx hb hdg rfl k
    · rename_i a r; cases h; exact lv_pop (va := .ref (ad a)) hx hb hdg rfl k
    · rename_i x r; cases h; exact lv_pop (va := .float x) hx hb hdg rfl k
    · cases h
  · have e := jv_len1 hl rfl; subst e
    split at h
    · rename_i x r; cases h; exact lv_pop2_2 (va := .double x) hx hb hdg rfl k
    · cases h
  · have e := jv_len1 hl rfl; subst e
    split at h
    · cases h; exact lv_i2f hx hb hdg k
    · cases h
  · have e := jv_len1 hl rfl; subst e
    split at h
    · cases h; exact lv_i2d hx hb hdg k
    · cases h
  · have e := jv_len1 hl rfl; subst e
    split at h
    · split at h
      · rename_i hne; cases h; exact lv_f2d hx hb hdg hne k
      · cases h
    · cases h
  · have e := jv_len1 hl rfl; subst e
    split at h
    · split at h
      · rename_i hne; cases h; exact lv_fdiv hx hb hdg hne k
      · cases h
    · cases h
  · have e := jv_len1 hl rfl; subst e
    split at h
    · split at h
      · rename_i hne; cases h; exact lv_ddiv hx hb hdg hne k
      · cases h
    · cases h
  · have e := jv_len1 hl rfl; subst e
    split at h
    · cases h; exact lv_dcmp hx hb hdg k
    · cases h
  · have e := jv_len1 hl rfl; subst e
    split at h
    · rename_i hk; subst hk; cases h; exact lv_fconst0 hx hb hdg k
    · cases h
  · have e := jv_len1 hl rfl; subst e
    split at h
    · rename_i hk; subst hk; cases h; exact lv_dconst0 hx hb hdg k
    · cases h
  · cases h
/-- the locals hold what the J machine's hold -/
def jv_Lc (ad : Nat → Nat) (ls : Array Slot) (nL : Nat) (L : List (Option Value)) : Prop := ls.size = nL ∧ L.length = nL ∧ lv_wf ls ∧ ∀ (i : Nat) (v : Value), L[i]? = some (some v) → ls[i]? = some (.val (jv_vl ad v))
theorem jv_ldI_eq {L : List (Option Value)} {i : Nat} {st st' : List Value} (h : jv_ldI L i st = some st') : ∃ x, L[i]? = some (some (.int x)) ∧ st' = .int x :: st := by
  unfold jv_ldI at h
  split at h
  · rename_i x hL; cases h; exact ⟨x, hL, rfl⟩
  · cases h
theorem jv_ldA_eq {L : List (Option Value)} {i : Nat} {st st' : List Value} (h : jv_ldA L i st = some st') : ∃ x, L[i]? = some (some (.ref x)) ∧ st' = .ref x :: st := by
  unfold jv_ldA at h
  split at h
  · rename_i x hL; cases h; exact ⟨x, hL, rfl⟩
  · cases h
theorem jv_ldD_eq {L : List (Option Value)} {i : Nat} {st st' : List Value} (h : jv_ldD L i st = some st') : ∃ x, L[i]? = some (some (.double x)) ∧ st' = .double x :: st := by
  unfold jv_ldD at h
  split at h
  · rename_i x hL; cases h; exact ⟨x, hL, rfl⟩
  · cases h
theorem jv_ld_ok (hx : p.tables.exec = Jvm.exec) (hb : c.code = cc) {i : Instr} {len nL : Nat} {L : List (Option Value)} {st st' : List Value} (hdg : decode cc pc = .ok (i, len)) (hl : jv_sw i = true ∨ len = jv_len i) (hL : jv_Lc ad ls nL L) (h : jv_ld i L st = some st')
    (k : W p l e R s m args below meth c H locs cells slots Q (F0 m (pc + len) ls (st'.map (jv_vl ad)))) : W p l e R s m args below meth c H locs cells slots Q (F0 m pc ls (st.map (jv_vl ad))) := by
  unfold jv_ld at h
  split at h
  · have e := jv_len1 hl rfl; subst e; obtain ⟨x, h1, rfl⟩ := jv_ldI_eq h; exact lv_iload_n (x := x) hx hb hdg rfl (hL.2.2.2 _ _ h1) k
  · have e := jv_len1 hl rfl; subst e; obtain ⟨x, h1, rfl⟩ := jv_ldI_eq h; exact lv_iload (x := x) hx hb hdg (hL.2.2.2 _ _ h1) k
  · have e := jv_len1 hl rfl; subst e; obtain ⟨x, h1, rfl⟩ := jv_ldA_eq h; exact lv_aload_n (x := ad x) hx hb hdg rfl (hL.2.2.2 _ _ h1) k
  · have e := jv_len1 hl rfl; subst e; obtain ⟨x, h1, rfl⟩ := jv_ldA_eq h; exact lv_aload (x := ad x) hx hb hdg (hL.2.2.2 _ _ h1) k
  · have e := jv_len1 hl rfl; subst e; obtain ⟨x, h1, rfl⟩ := jv_ldD_eq h; exact lv_dload_n (x := x) hx hb hdg rfl (hL.2.2.2 _ _ h1) k
  · have e := jv_len1 hl rfl; subst e; obtain ⟨x, h1, rfl⟩ := jv_ldD_eq h; exact lv_dload (x := x) hx hb hdg (hL.2.2.2 _ _ h1) k
  · cases h
theorem jv_jmp_eq {pc pc' : Nat} {off : Int} {st st' : List Value} (h : jv_jmp pc off st = some (pc', st')) : (pc : Int) + off = (pc' : Int) ∧ st' = st := by
  unfold jv_jmp at h
  split at h
  · cases h; exact ⟨by omega, rfl⟩
  · cases h
theorem jv_if_eq {b : Bool} {t : Nat × List Value} {u : Nat × List Value} {w : Nat × List Value} (h : (if b = true then some t else some u) = some w) : (b = true ∧ w = t) ∨ (b = false ∧ w = u) := by
  cases b
  · right; exact ⟨rfl, (Option.some.inj h).symm⟩
  · left; exact ⟨rfl, (Option.some.inj h).symm⟩
set_option maxHeartbeats 4000000 in
theorem jv_br_ok (hx : p.tables.exec = Jvm.exec) (hb : c.code = cc) {i : Instr} {len pc' : Nat} {st st' : List Value} (hdg : decode cc pc = .ok (i, len)) (hl : jv_sw i = true ∨ len = jv_len i) (h : jv_br i pc st = some (pc', st'))
    (k : W p l e R s m args below meth c H locs cells slots Q (F0 m pc' ls (st'.map (jv_vl ad)))) : W p l e R s m args below meth c H locs cells slots Q (F0 m pc ls (st.map (jv_vl ad))) := by
  unfold jv_br at h
  split at h
  · have e := jv_len1 hl rfl; subst e
    obtain ⟨ht, rfl⟩ := jv_jmp_eq h
    exact lv_goto hx hb hdg ht k
  · rename_i cnd off
    have e := jv_len1 hl rfl; subst e
    split at h
    · rename_i x r
      split at h
      · rename_i t hj
        obtain ⟨tp, ts⟩ := t
        obtain ⟨ht, rfl⟩ := jv_jmp_eq hj
        rcases jv_if_eq h with ⟨hc, hw⟩ | ⟨hc, hw⟩ <;> cases hw <;> cases cnd <;> simp only [jv_cc, decide_eq_true_eq, decide_eq_false_iff_not] at hc
        · exact lv_if_eq hx hb hdg ht (fun _ => k) (fun q => absurd hc q)
        · exact lv_if_ne hx hb hdg ht (fun _ => k) (fun q => absurd q hc)
        · exact lv_if_lt hx hb hdg ht (fun _ => k) (fun q => absurd hc q)
        · exact lv_if_ge hx hb hdg ht (fun _ => k) (fun q => absurd hc q)
        · exact lv_if_gt hx hb hdg ht (fun _ => k) (fun q => absurd hc q)
        · exact lv_if_le hx hb hdg ht (fun _ => k) (fun q => absurd hc q)
        · exact lv_if_eq hx hb hdg ht (fun q => absurd q hc) (fun _ => k)
        · exact lv_if_ne hx hb hdg ht (fun q => absurd q hc) (fun _ => k)
        · exact lv_if_lt hx hb hdg ht (fun q => absurd q hc) (fun _ => k)
        · exact lv_if_ge hx hb hdg ht (fun q => absurd q hc) (fun _ => k)
        · exact lv_if_gt hx hb hdg ht (fun q => absurd q hc) (fun _ => k)
        · exact lv_if_le hx hb hdg ht (fun q => absurd q hc) (fun _ => k)
      · cases h
    · cases h
  · rename_i cnd off
    have e := jv_len1 hl rfl; subst e
    split at h
    · rename_i y x r
      split at h
      · rename_i t hj
        obtain ⟨tp, ts⟩ := t
        obtain ⟨ht, rfl⟩ := jv_jmp_eq hj
        rcases jv_if_eq h with ⟨hc, hw⟩ | ⟨hc, hw⟩ <;> cases hw <;> cases cnd <;> simp only [jv_cc, decide_eq_true_eq, decide_eq_false_iff_not] at hc
        · exact lv_icmp_eq hx hb hdg ht (fun _ => k) (fun q => absurd hc q)
        · exact lv_icmp_ne hx hb hdg ht (fun _ => k) (fun q => absurd q hc)
        · exact lv_icmp_lt hx hb hdg ht (fun _ => k) (fun q => absurd hc q)
        · exact lv_icmp_ge hx hb hdg ht (fun _ => k) (fun q => absurd hc q)
        · exact lv_icmp_gt hx hb hdg ht (fun _ => k) (fun q => absurd hc q)
        · exact lv_icmp_le hx hb hdg ht (fun _ => k) (fun q => absurd hc q)
        · exact lv_icmp_eq hx hb hdg ht (fun q => absurd q hc) (fun _ => k)
        · exact lv_icmp_ne hx hb hdg ht (fun q => absurd q hc) (fun _ => k)
        · exact lv_icmp_lt hx hb hdg ht (fun q => absurd q hc) (fun _ => k)
        · exact lv_icmp_ge hx hb hdg ht (fun q => absurd q hc) (fun _ => k)
        · exact lv_icmp_gt hx hb hdg ht (fun q => absurd q hc) (fun _ => k)
        · exact lv_icmp_le hx hb hdg ht (fun q => absurd q hc) (fun _ => k)
      · cases h
    · cases h
  · split at h
    · split at h
      · rename_i hout
        obtain ⟨ht, rfl⟩ := jv_jmp_eq h
        exact lv_tableOut hx hb hdg hout ht k
      · rename_i hin
        split at h
        · rename_i off ho
          obtain ⟨ht, rfl⟩ := jv_jmp_eq h
          exact lv_tableIn hx hb hdg (fun q => hin (Or.inl q)) (fun q => hin (Or.inr q)) ho ht k
        · cases h
    · cases h
  · split at h
    · split at h
      · rename_i hp
        obtain ⟨ht, rfl⟩ := jv_jmp_eq h
        exact lv_lookup hx hb hdg hp rfl ht k
      · cases h
    · cases h
  · cases h
/-- the locals as pairs -/
def jv_prs (ad : Nat → Nat) (L : List (Option Value)) : List (Nat × Value) := (List.range L.length).filterMap (fun i => match L[i]? with
  | some (some v) => some (i, jv_vl ad v)
  | _ => none)
theorem jv_prs_mem {L : List (Option Value)} {i : Nat} {w : Value} : (i, w) ∈ jv_prs ad L ↔ ∃ v, L[i]? = some (some v) ∧ w = jv_vl ad v := by
  unfold jv_prs
  rw [List.mem_filterMap]
  constructor
  · rintro ⟨j, -, hj⟩
    split at hj
    · rename_i v hv
      cases hj
      exact ⟨v, hv, rfl⟩
    · cases hj
  · rintro ⟨v, hv, rfl⟩
    refine ⟨i, List.mem_range.mpr (List.getElem?_eq_some_iff.mp hv).1, ?_⟩
    rw [hv]
theorem jv_Lc.has {nL : Nat} {L : List (Option Value)} (h : jv_Lc ad ls nL L) : lv_has ls nL (jv_prs ad L) := by
  refine ⟨h.1, h.2.2.1, fun q hq => ?_⟩
  obtain ⟨i, w⟩ := q
  obtain ⟨v, hv, rfl⟩ := jv_prs_mem.mp hq
  exact h.2.2.2 i v hv
theorem jv_cat2_no {L : List (Option Value)} {j : Nat} {w : Value} (h : ¬ jv_cat2 L j = true) (hw : L[j]? = some (some w)) : ¬ w.category = 2 := by
  unfold jv_cat2 at h
  rw [hw] at h
  cases w <;> first | (intro q; cases q; done) | exact absurd rfl h
theorem jv_Lc.of1 {nL i : Nat} {v : Value} {L L' : List (Option Value)} {ls' : Array Slot} (hlen : L.length = nL) (hs : jv_set1 L i v = some L') (h : lv_has ls' nL ((i, jv_vl ad v) :: (jv_prs ad L).filter (fun q => !(q.1 == i) && !(q.1 + 1 == i && q.2.category == 2)))) : jv_Lc ad ls' nL L' := by
  have key : L' = L.set i (some v) ∧ i < L.length ∧ ∀ j, i = j + 1 → ¬ jv_cat2 L j = true := by
    unfold jv_set1 at hs
    split at hs
    · rename_i hi
      split at hs
      · cases hs; exact ⟨rfl, hi, fun j h => by omega⟩
      · split at hs
        · cases hs
        · rename_i hc
          cases hs; exact ⟨rfl, hi, fun j h => by rw [show j = _ from (Nat.succ.inj h).symm]; exact hc⟩
    · cases hs
  obtain ⟨rfl, hi, hcat⟩ := key
  refine ⟨h.1, by rw [List.length_set]; exact hlen, h.2.1, fun j w hj => ?_⟩
  by_cases hji : i = j
  · subst hji
    rw [List.getElem?_set_self hi] at hj
    cases hj
    exact h.2.2 (i, jv_vl ad v) List.mem_cons_self
  · rw [List.getElem?_set_ne hji] at hj
    refine h.2.2 (j, jv_vl ad w) (List.mem_cons_of_mem _ (List.mem_filter.mpr ⟨jv_prs_mem.mpr ⟨w, hj, rfl⟩, ?_⟩))
    have h1 : (j == i) = false := by simpa using fun q => hji q.symm
    have h2 : (j + 1 == i && (jv_vl ad w).category == 2) = false := by
      by_cases hq : j + 1 = i
      · have h3 := jv_cat2_no (hcat j hq.symm) hj
        rw [jv_vl_cat]
        simp [h3]
      · simp [hq]
    simp only [h1, h2]
    rfl
theorem jv_Lc.of2 {nL i : Nat} {v : Value} {L L' : List (Option Value)} {ls' : Array Slot} (hlen : L.length = nL) (hs : jv_set2 L i v = some L') (h : lv_has ls' nL ((i, jv_vl ad v) :: (jv_prs ad L).filter (fun q => !(q.1 == i) && (!(q.1 == i + 1) && !(q.1 + 1 == i && q.2.category == 2))))) : jv_Lc ad ls' nL L' := by
  have key : L' = (L.set i (some v)).set (i + 1) none ∧ i + 1 < L.length ∧ ∀ j, i = j + 1 → ¬ jv_cat2 L j = true := by
    unfold jv_set2 at hs
    split at hs
    · rename_i hi
      split at hs
      · cases hs; exact ⟨rfl, hi, fun j h => by omega⟩
      · split at hs
        · cases hs
        · rename_i hc
          cases hs; exact ⟨rfl, hi, fun j h => by rw [show j = _ from (Nat.succ.inj h).symm]; exact hc⟩
    · cases hs
  obtain ⟨rfl, hi, hcat⟩ := key
  refine ⟨h.1, by rw [List.length_set, List.length_set]; exact hlen, h.2.1, fun j w hj => ?_⟩
  by_cases hj1 : i + 1 = j
  · subst hj1
    rw [List.getElem?_set_self (by rw [List.length_set]; exact hi)] at hj
    cases hj
  rw [List.getElem?_set_ne hj1] at hj
  by_cases hji : i = j
  · subst hji
    rw [List.getElem?_set_self (by omega)] at hj
    cases hj
    exact h.2.2 (i, jv_vl ad v) List.mem_cons_self
  · rw [List.getElem?_set_ne hji] at hj
    refine h.2.2 (j, jv_vl ad w) (List.mem_cons_of_mem _ (List.mem_filter.mpr ⟨jv_prs_mem.mpr ⟨w, hj, rfl⟩, ?_⟩))
    have h1 : (j == i) = false := by simpa using fun q => hji q.symm
    have h4 : (j == i + 1) = false := by simpa using fun q => hj1 q.symm
    have h2 : (j + 1 == i && (jv_vl ad w).category == 2) = false := by
      by_cases hq : j + 1 = i
      · have h3 := jv_cat2_no (hcat j hq.symm) hj
        rw [jv_vl_cat]
        simp [h3]
      · simp [hq]
    simp only [h1, h2, h4]
    rfl
theorem jv_set1_lt {L L' : List (Option Value)} {i : Nat} {v : Value} (hs : jv_set1 L i v = some L') : i < L.length := by
  unfold jv_set1 at hs
  split at hs
  · assumption
  · cases hs
theorem jv_set2_lt {L L' : List (Option Value)} {i : Nat} {v : Value} (hs : jv_set2 L i v = some L') : i + 1 < L.length := by
  unfold jv_set2 at hs
  split at hs
  · assumption
  · cases hs
theorem jv_stI_eq {L L' : List (Option Value)} {i : Nat} {st st' : List Value} (h : jv_stI L i st = some (L', st')) : ∃ x, st = .int x :: st' ∧ jv_set1 L i (.int x) = some L' := by
  unfold jv_stI at h
  split at h
  · split at h
    · rename_i hs; cases h; exact ⟨_, rfl, hs⟩
    · cases h
  · cases h
theorem jv_stA_eq {L L' : List (Option Value)} {i : Nat} {st st' : List Value} (h : jv_stA L i st = some (L', st')) : ∃ x, st = .ref x :: st' ∧ jv_set1 L i (.ref x) = some L' := by
  unfold jv_stA at h
  split at h
  · split at h
    · rename_i hs; cases h; exact ⟨_, rfl, hs⟩
    · cases h
  · cases h
theorem jv_stD_eq {L L' : List (Option Value)} {i : Nat} {st st' : List Value} (h : jv_stD L i st = some (L', st')) : ∃ x, st = .double x :: st' ∧ jv_set2 L i (.double x) = some L' := by
  unfold jv_stD at h
  split at h
  · split at h
    · rename_i hs; cases h; exact ⟨_, rfl, hs⟩
    · cases h
  · cases h
theorem jv_sto_ok (hx : p.tables.exec = Jvm.exec) (hb : c.code = cc) {i : Instr} {len nL : Nat} {L L' : List (Option Value)} {st st' : List Value} (hdg : decode cc pc = .ok (i, len)) (hl : jv_sw i = true ∨ len = jv_len i) (hL : jv_Lc ad ls nL L) (h : jv_sto i L st = some (L', st'))
    (k : ∀ ls', jv_Lc ad ls' nL L' → W p l e R s m args below meth c H locs cells slots Q (F0 m (pc + len) ls' (st'.map (jv_vl ad)))) : W p l e R s m args below meth c H locs cells slots Q (F0 m pc ls (st.map (jv_vl ad))) := by
  have hn := hL.2.1
  unfold jv_sto at h
  split at h
  · have e := jv_len1 hl rfl; subst e; obtain ⟨x, rfl, h1⟩ := jv_stI_eq h
    exact lv_istore_n hx hb hdg rfl hL.has (hn ▸ jv_set1_lt h1) rfl (fun ls' h2 => k ls' (jv_Lc.of1 hn h1 h2))
  · have e := jv_len1 hl rfl; subst e; obtain ⟨x, rfl, h1⟩ := jv_stI_eq h
    exact lv_istore hx hb hdg hL.has (hn ▸ jv_set1_lt h1) rfl (fun ls' h2 => k ls' (jv_Lc.of1 hn h1 h2))
  · have e := jv_len1 hl rfl; subst e; obtain ⟨x, rfl, h1⟩ := jv_stA_eq h
    exact lv_astore_n hx hb hdg rfl hL.has (hn ▸ jv_set1_lt h1) rfl (fun ls' h2 => k ls' (jv_Lc.of1 hn h1 h2))
  · have e := jv_len1 hl rfl; subst e; obtain ⟨x, rfl, h1⟩ := jv_stA_eq h
    exact lv_astore hx hb hdg hL.has (hn ▸ jv_set1_lt h1) rfl (fun ls' h2 => k ls' (jv_Lc.of1 hn h1 h2))
  · have e := jv_len1 hl rfl; subst e; obtain ⟨x, rfl, h1⟩ := jv_stD_eq h
    exact lv_dstore_n hx hb hdg rfl hL.has (hn ▸ jv_set2_lt h1) rfl (fun ls' h2 => k ls' (jv_Lc.of2 hn h1 h2))
  · have e := jv_len1 hl rfl; subst e; obtain ⟨x, rfl, h1⟩ := jv_stD_eq h
    exact lv_dstore hx hb hdg hL.has (hn ▸ jv_set2_lt h1) rfl (fun ls' h2 => k ls' (jv_Lc.of2 hn h1 h2))
  · have e := jv_len1 hl rfl; subst e
    split at h
    · rename_i x hx1
      split at h
      · rename_i h1
        cases h
        obtain ⟨q, hq⟩ := List.getElem?_of_mem (jv_prs_mem (ad := ad).mpr ⟨_, hx1, rfl⟩)
        exact lv_iinc hx hb hdg hL.has hq rfl (hn ▸ jv_set1_lt h1) rfl (fun ls' h2 => k ls' (jv_Lc.of1 hn h1 h2))
      · cases h
    · cases h
  · cases h
end JSND
end
section
/-! THE J MACHINE IS RIGHT: what reads and writes cells -/
/-- the base of the new cells, the script's address, the texts' addresses -/
abbrev jv_G : Type := Nat × Nat × (Nat → Nat)
def jv_ad (G : jv_G) (k : Nat) : Nat := if k < 1000000 then G.1 + k else if k = 1000000 then G.2.1 else G.2.2 (k - 1000001)
theorem jv_ad_lt {G : jv_G} {k : Nat} (h : k < 1000000) : jv_ad G k = G.1 + k := if_pos h
theorem jv_ad_scr {G : jv_G} : jv_ad G 1000000 = G.2.1 := rfl
theorem jv_ad_txt {G : jv_G} (i : Nat) : jv_ad G (1000001 + i) = G.2.2 i := by
  unfold jv_ad
  rw [if_neg (by omega), if_neg (by omega), show 1000001 + i - 1000001 = i by omega]
def jv_ce (dA : Nat → ClassId) (ad : Nat → Nat) (x : jv_E) : va_E := match x with
  | .inl (ty, n, f) => .inl (dA ty, n, .inl f)
  | .inr (.inl (ty, n, f)) => .inl (dA ty, n, .inr (.inr (.inr (.inr (fun j => (f j).map ad)))))
  | .inr (.inr (c, fs)) => .inr (c, fs.map (jv_vl ad))
/-- the J machine's cells as a world of the kit's -/
def jv_ws (dA : Nat → ClassId) (G : jv_G) (h : jv_H) : va_W := (List.range h.2.1).map (fun k => (G.1 + k, jv_ce dA (jv_ad G) (h.1 k)))
theorem jv_ws_get {dA : Nat → ClassId} {G : jv_G} {h : jv_H} {k : Nat} (hk : k < h.2.1) : (jv_ws dA G h)[k]? = some (G.1 + k, jv_ce dA (jv_ad G) (h.1 k)) := by
  simp [jv_ws, hk]
theorem jv_ws_inv {dA : Nat → ClassId} {G : jv_G} {h : jv_H} {k : Nat} {q : Nat × va_E} (hk : (jv_ws dA G h)[k]? = some q) : q.1 = G.1 + k := by
  unfold jv_ws at hk
  rw [List.getElem?_map] at hk
  cases hr : (List.range h.2.1)[k]? with
  | none => rw [hr] at hk; cases hk
  | some j =>
    rw [hr] at hk
    have hj : j = k := by
      have h1 := List.getElem?_eq_some_iff.mp hr
      obtain ⟨h2, h3⟩ := h1
      rw [List.getElem_range] at h3
      exact h3.symm
    subst hj
    cases hk
    rfl
theorem jv_ws_set {dA : Nat → ClassId} {G : jv_G} {h : jv_H} {k : Nat} (x : jv_E) (hk : k < h.2.1) : (jv_ws dA G h).set k (G.1 + k, jv_ce dA (jv_ad G) x) = jv_ws dA G (jv_put h k x) := by
  apply List.ext_getElem?
  intro j
  by_cases hj : k = j
  · subst hj
    rw [List.getElem?_set_self (by simp [jv_ws, hk]), jv_ws_get (h := jv_put h k x) hk]
    simp [jv_put, jv_up]
  · rw [List.getElem?_set_ne hj]
    by_cases hlt : j < h.2.1
    · rw [jv_ws_get hlt, jv_ws_get (h := jv_put h k x) hlt]
      simp [jv_put, jv_up, Ne.symm hj]
    · rw [List.getElem?_eq_none (by simp [jv_ws]; omega), List.getElem?_eq_none (by simp [jv_ws, jv_put]; omega)]
theorem jv_ws_add {dA : Nat → ClassId} {G : jv_G} {h : jv_H} (x : jv_E) (n : Nat) : jv_ws dA G (jv_add h x n) = jv_ws dA G h ++ [(G.1 + h.2.1, jv_ce dA (jv_ad G) x)] := by
  unfold jv_ws jv_add
  simp only [List.range_succ, List.map_append, List.map_cons, List.map_nil]
  congr 1
  · apply List.map_congr_left
    intro k hk
    have h1 := List.mem_range.mp hk
    simp [jv_up, Nat.ne_of_lt h1]
  · simp [jv_up]
theorem jv_ws_D {dA : Nat → ClassId} {G : jv_G} {h : jv_H} : va_D (fun q => G.1 ≤ q) (jv_ws dA G h) := by
  refine ⟨fun i j p q hp hq hpq => ?_, fun k q hk => ?_⟩
  · rw [jv_ws_inv hp, jv_ws_inv hq] at hpq
    omega
  · show G.1 ≤ q.1
    rw [jv_ws_inv hk]
    omega
/-- what never changes: the script -/
def jv_fix (L : Nat) (xs : Nat → Int32) (h : jv_H) : Prop := h.1 1000000 = .inl (9, L, xs)
theorem jv_fix.up {L : Nat} {xs : Nat → Int32} {h h' : jv_H} (hf : jv_fix L xs h) {k : Nat} (hk : k < 1000000) {x : jv_E} (he : h'.1 = jv_up h.1 k x) : jv_fix L xs h' := by
  unfold jv_fix
  rw [he]
  unfold jv_up
  rw [if_neg (by omega)]
  exact hf
def jv_Rep (D : va_G) (dA : Nat → ClassId) (G : jv_G) (L : Nat) (xs : Nat → Int32) (h : jv_H) (H : Heap) : Prop := H.size = G.1 + h.2.1 ∧ h.2.1 ≤ 1000000 ∧ va_P D vwCl (jv_ws dA G h) H ∧ jv_fix L xs h
abbrev jv_tys (dA : Nat → ClassId) : List (ClassId × FieldType) := [(dA 0, .int), (dA 1, .boolean), (dA 2, .object "SeatSwap$Traveller"), (dA 3, .object "SeatSwap$Train")]
/-- what is said of classes, nest mates and the JDK's statics -/
def jv_K2 (G : jv_G) (U : State) : Prop := va_AO "SeatSwap$Traveller" U ∧ va_AO "SeatSwap$Train" U ∧ (∀ w ∈ jv_nests, va_Nw w U) ∧ va_Z "java/lang/String" "COMPACT_STRINGS" "Z" (.int 1) (fun q => G.1 ≤ q) U U.heap ∧
  ∃ v : Value, (v = .null ∨ ∃ a, v = .ref a) ∧ va_Z "jdk/internal/util/Preconditions" "SIOOBE_FORMATTER" "Ljava/util/function/BiFunction;" v (fun q => G.1 ≤ q) U U.heap
/-- what a method knows beside its cells -/
def jv_Kn (D : va_G) (dA : Nat → ClassId) (G : jv_G) (adV : Nat → Nat) (L : Nat) (xs : Nat → Int32) (U : State) : Prop :=
  va_K D vwCl (jv_tys dA) U ∧ va_X G.2.1 L xs U U.heap ∧ G.2.1 < G.1 ∧ G.1 ≤ U.heap.size ∧ vk_S 20 jv_lens jv_byt G.2.2 adV (fun q => G.1 ≤ q) U U.heap ∧ (∀ (i : Nat) (q : String × Nat × String), jv_str[i]? = some q → vk_R q.1 q.2.1 q.2.2 (G.2.2 i) U) ∧ jv_K2 G U
theorem jv_vl_fits (ad : Nat → Nat) (ty : FieldType) (v : Value) : fits ty (jv_vl ad v) = fits ty v := by
  cases v <;> first | rfl | (cases ty <;> rfl)
theorem jv_vl_narrow (ad : Nat → Nat) (ty : FieldType) (v : Value) (h : narrow ty v = v) : narrow ty (jv_vl ad v) = jv_vl ad v := by
  cases v <;> first | exact h | (cases ty <;> rfl)
theorem jv_vl_default (ad : Nat → Nat) (ty : FieldType) : jv_vl ad (defaultValue ty) = defaultValue ty := by
  cases ty <;> rfl
section JHP
variable {p : Program} {l : Launch} {e : Env} {R : Room} {s : State} {m : MethodId} {args : Array Value} {below : List Frame} {meth : Method} {c : Code} {H : Heap} {locs : List Loc} {cells slots : Nat} {Q : State → Prop}
variable {cc : ByteArray} {pc : Nat} {ls : Array Slot} {rest : List Value} {D : va_G} {cl : List vw_C} {A : Nat → Prop} {a : Nat} {tys : List (ClassId × FieldType)} {ws : va_W} {H0 : Heap}
/-- a field is written (a final one: in its class's constructor), and nothing is made -/
theorem jv_putW (hexec : p.tables.exec = Jvm.exec) (hb : c.code = cc) {own C : String} {T : u_T} {N ci index : Nat} {Ts : List Cond} (hts : ∀ w ∈ Ts, w.before args s = true) (hin : ∀ w ∈ u_ws C T N, w ∈ Ts) (ty0 : Nat → FieldType) (hty : ∀ k, k < N → parseFieldDescriptor (T k).2.2.1 = some (ty0 k)) (hnm : ∀ a, a < N → ∀ b, b < N → a ≠ b → (T a).2.1 ≠ (T b).2.1) (hown : s.vm.findClass own = some m.cls)
    (hK : va_K D cl tys s) (hP : va_P D cl ws H) (hD : va_D A ws) (hS0 : va_S A H0 H locs) (q0 : Nat) {fs : List Value} (he : ws[q0]? = some (a, .inr (ci, fs))) (hc : cl[ci]? = some (C, T, N)) (k : Nat) (hk : k < N) (hlink : (Cond.fieldLink own index (T k).1 (T k).2.1 (T k).2.2.1).before args s = true) (hfin : (T k).2.2.2 = false ∨ ((T k).2.2.2 = true ∧ meth.name = "<init>" ∧ (T k).1 = own))
    {v : Value} (hn : narrow (ty0 k) v = v) (hfit : fits (ty0 k) v = true) (hl : k < fs.length) (hdg : decode cc pc = .ok (.putfield index, 3))
    (kk : ∀ (H1 : Heap) (locs1 : List Loc), H1.size = H.size → va_P D cl (ws.set q0 (a, .inr (ci, fs.set k v))) H1 → va_S A H0 H1 locs1 → W p l e R s m args below meth c H1 locs1 cells slots Q (F0 m (pc + 3) ls rest)) : W p l e R s m args below meth c H locs cells slots Q (F0 m pc ls (v :: .ref a :: rest)) := by
  have hap := va_apart (own := own) hts hin ty0 hty hnm hK hc
  obtain ⟨r, h1, cell, q1, q2, q3, q4⟩ := hP q0 _ he
  have hr : r = (C, T, N) := Option.some.inj (h1.symm.trans hc)
  subst hr
  obtain ⟨hS, hfc, kC, hkC, hkind⟩ := hK.1 ci _ hc
  obtain ⟨cf, kf, fi, f, hi, hsl⟩ := hS k hk
  have hst := (u_facts hfc hkC (u_lays hts hin hk) hi).1
  have fin : ∀ H' : Heap, H'[a]? = some (cell.setSlot f.slot v) → (∀ q, q ≠ a → H'[q]? = H[q]?) → va_P D cl (ws.set q0 (a, .inr (ci, fs.set k v))) H' := by
    intro H' e1 e3
    rw [hsl] at e1
    exact hP.set hD he ⟨_, hc, t_OB.to (V := updV (vp_V fs) k v) ⟨_, e1, q2, q3, t_set q4 hap hk v⟩ (fun j _ => vp_updV_set hl v j)⟩ e3
  have hlay := hts _ (hin _ (u_in_lay hk))
  unfold u_lay at hlay
  rcases hfin with hfin | ⟨hfin, hin2, hdecl⟩
  · rw [if_neg (by rw [hfin]; decide)] at hlay
    have h6 := u_store hfc hkC hkind hlay hi (hty k hk) hn hfit
    exact W.putK hexec hb (f := f) ⟨hown, hlink, ⟨_, _, _, hi⟩, hst⟩ (by rw [q2]; exact h6) q1 q3 (by rw [hsl]; exact k2_hasslot (q4 k hk)) rfl rfl hdg fun H' e1 e2 e3 => kk H' _ e2 (fin H' e1 e3) (hS0.put e2 e3 (hD.2 q0 _ he))
  · rw [if_pos hfin] at hlay
    have hcf : m.cls = cf := by
      obtain ⟨_, _, c', _, _, _, -, -, hf', -, -, -, hown2, -⟩ := Cond.laysFinal_spec hlay
      have e1 : c' = cf := by have := hi.symm.trans hf'; simp at this; exact this.1.symm
      rw [hdecl] at hown2
      rw [← e1]; exact Option.some.inj (hown.symm.trans hown2)
    have h6 := u_fits hfc hkC hkind (Or.inr hlay) hi (hty k hk) hn hfit
    exact W.putFinK hexec hb hown hlink hi hst hcf hin2 (by rw [q2]; exact h6) q1 q3 (by rw [hsl]; exact k2_hasslot (q4 k hk)) rfl rfl hdg fun H' e1 e2 e3 => kk H' _ e2 (fin H' e1 e3) (hS0.put e2 e3 (hD.2 q0 _ he))
theorem jv_iastW (hexec : p.tables.exec = Jvm.exec) (hb : c.code = cc) (hK : va_K D cl tys s) (hP : va_P D cl ws H) (hD : va_D A ws) (hS : va_S A H0 H locs) (q0 t0 : Nat) {cA : ClassId} {n : Nat} {f : Nat → Int32} (ha : ws[q0]? = some (a, .inl (cA, n, .inl f))) (ht : tys[t0]? = some (cA, .int)) {i : Int32} {x : Int32} (hin : vp_in i n) (hdg : decode cc pc = .ok (.iastore, 1))
    (kk : ∀ (H1 : Heap) (locs1 : List Loc), H1.size = H.size → va_P D cl (ws.set q0 (a, .inl (cA, n, .inl (upd f i.toNatClampNeg x)))) H1 → va_S A H0 H1 locs1 → W p l e R s m args below meth c H1 locs1 cells slots Q (F0 m (pc + 1) ls rest)) : W p l e R s m args below meth c H locs cells slots Q (F0 m pc ls (.int x :: .int i :: .ref a :: rest)) := by
  refine W.iast hexec hb (hP q0 _ ha) ((hK.2 t0 _ ht).1 n (fun j => .int (f j))) (fun q => by cases q) (by show ¬ (i < 0 ∨ (arrV _ _ _).slots.size ≤ _); rw [arrV_size]; exact hin) rfl rfl hdg fun H1 e z oq => ?_
  refine kk H1 _ z (hP.set hD ha ?_ oq) (hS.put z oq (hD.2 q0 _ ha))
  show H1[a]? = some (vp_cell _ _)
  rw [e, vp_cell_i, vp_cell_i, arrV_store]
  congr 2
  funext q
  by_cases hq : q = i.toNatClampNeg
  · subst hq
    simp [updV, upd]
  · simp [updV, upd, hq]
theorem jv_zastW (hexec : p.tables.exec = Jvm.exec) (hb : c.code = cc) (hK : va_K D cl tys s) (hP : va_P D cl ws H) (hD : va_D A ws) (hS : va_S A H0 H locs) (q0 t0 : Nat) {cA : ClassId} {n : Nat} {f : Nat → Int32} (ha : ws[q0]? = some (a, .inl (cA, n, .inl f))) (ht : tys[t0]? = some (cA, .boolean)) {i : Int32} {x : Int32} (hx1 : x &&& 1 = x) (hin : vp_in i n) (hdg : decode cc pc = .ok (.bastore, 1))
    (kk : ∀ (H1 : Heap) (locs1 : List Loc), H1.size = H.size → va_P D cl (ws.set q0 (a, .inl (cA, n, .inl (upd f i.toNatClampNeg x)))) H1 → va_S A H0 H1 locs1 → W p l e R s m args below meth c H1 locs1 cells slots Q (F0 m (pc + 1) ls rest)) : W p l e R s m args below meth c H locs cells slots Q (F0 m pc ls (.int x :: .int i :: .ref a :: rest)) := by
  refine W.zast hexec hb (hP q0 _ ha) ((hK.2 t0 _ ht).1 n (fun j => .int (f j))) (fun q => by cases q) (by show ¬ (i < 0 ∨ (arrV _ _ _).slots.size ≤ _); rw [arrV_size]; exact hin) rfl rfl hdg fun H1 e z oq => ?_
  refine kk H1 _ z (hP.set hD ha ?_ oq) (hS.put z oq (hD.2 q0 _ ha))
  show H1[a]? = some (vp_cell _ _)
  rw [e, vp_cell_i, vp_cell_i, arrV_store]
  congr 2
  funext q
  by_cases hq : q = i.toNatClampNeg
  · subst hq
    simp [updV, upd, narrow, hx1]
  · simp [updV, upd, hq]
theorem jv_aastW (hexec : p.tables.exec = Jvm.exec) (hb : c.code = cc) (hK : va_K D cl tys s) (hP : va_P D cl ws H) (hD : va_D A ws) (hS : va_S A H0 H locs) (q0 t0 qk ci : Nat) {cA : ClassId} {r : vw_C} {n v : Nat} {vs : List Value} {f : Nat → Option Nat} (ha : ws[q0]? = some (a, .inl (cA, n, .inr (.inr (.inr (.inr f)))))) (ht : tys[t0]? = some (cA, .object r.1)) (hv : ws[qk]? = some (v, .inr (ci, vs))) (hc : cl[ci]? = some r) {i : Int32} (hin : vp_in i n) (hdg : decode cc pc = .ok (.aastore, 1))
    (kk : ∀ (H1 : Heap) (locs1 : List Loc), H1.size = H.size → va_P D cl (ws.set q0 (a, .inl (cA, n, .inr (.inr (.inr (.inr (va_up f i.toNatClampNeg (some v)))))))) H1 → va_S A H0 H1 locs1 → W p l e R s m args below meth c H1 locs1 cells slots Q (F0 m (pc + 1) ls rest)) : W p l e R s m args below meth c H locs cells slots Q (F0 m pc ls (.ref v :: .int i :: .ref a :: rest)) := by
  have hlt : i.toNatClampNeg < n := Nat.not_le.mp fun q => hin (Or.inr q)
  have h0 : ¬ i < 0 := fun q => hin (Or.inl q)
  obtain ⟨r', hr', cellV, g1, g2, g3, -⟩ := hP qk _ hv
  have hcls := (hK.1 ci r hc).2
  obtain ⟨kA, comp, k1, k2, k3, -⟩ := (hK.2 t0 _ ht).2
  have hcomp : comp = D.1 ci := Option.some.inj (k3.symm.trans hcls.1)
  subst hcomp
  obtain ⟨kC, hkC, -⟩ := hcls.2
  refine W.aast hexec hb (hP q0 _ ha) (fun q h => by cases h) (fun h => by cases h) k1 k2 rfl hkC ⟨h0, by show _ < (arrV _ _ _).slots.size; rw [arrV_size]; exact hlt⟩ g1 (fun q h => by rw [g3] at h; cases h) (by rw [g2]; exact hkC) (by rw [g2]; exact va_assign hcls) rfl rfl hdg fun H1 e z oq => ?_
  refine kk H1 _ z (hP.set hD ha ?_ oq) (hS.put z oq (hD.2 q0 _ ha))
  show H1[a]? = some (vp_cell _ _)
  rw [e, vp_cell_q, vp_cell_q, arrV_store]
  congr 2
  funext q
  by_cases hq : q = i.toNatClampNeg
  · subst hq
    simp [updV, va_up, va_rf]
  · simp [updV, va_up, hq]
end JHP
theorem jv_get_eq {ow idx : Nat} {st st' : List Value} {h : jv_H} (h0 : jv_get ow idx st h = some st') : ∃ (a : Nat) (r : List Value) (cx k : Nat) (fs : List Value) (v : Value), st = .ref a :: r ∧ jv_fld ow idx = some (cx, k) ∧ a < h.2.1 ∧ h.1 a = .inr (.inr (cx, fs)) ∧ fs[k]? = some v ∧ st' = v :: r := by
  unfold jv_get at h0
  split at h0
  · rename_i a r
    split at h0
    · rename_i cx k hf
      split at h0
      · rename_i ha
        split at h0
        · rename_i d fs hc
          split at h0
          · rename_i hd
            subst hd
            split at h0
            · rename_i v hv
              cases h0
              exact ⟨a, r, _, k, fs, v, rfl, hf, ha, hc, hv, rfl⟩
            · cases h0
          · cases h0
        · cases h0
      · cases h0
    · cases h0
  · cases h0
theorem jv_set_eq {ow idx : Nat} {ini : Bool} {st st' : List Value} {h h' : jv_H} (h0 : jv_set ow ini idx st h = some (st', h')) : ∃ (v : Value) (a : Nat) (cx k : Nat) (fs : List Value), st = v :: .ref a :: st' ∧ jv_fld ow idx = some (cx, k) ∧ a < h.2.1 ∧ h.1 a = .inr (.inr (cx, fs)) ∧ k < fs.length ∧ narrow (jv_fty cx k) v = v ∧ fits (jv_fty cx k) v = true ∧ ((jv_fT cx k).2.2.2 = false ∨ (ini = true ∧ cx = ow)) ∧ h' = jv_put h a (.inr (.inr (cx, fs.set k v))) := by
  unfold jv_set at h0
  split at h0
  · rename_i v a r
    split at h0
    · rename_i cx k hf
      split at h0
      · rename_i ha
        obtain ⟨ha, hn, hfi, hfin⟩ := ha
        split at h0
        · rename_i d fs hc
          split at h0
          · rename_i hd
            obtain ⟨hd, hk⟩ := hd
            subst hd
            cases h0
            exact ⟨v, a, _, k, fs, rfl, hf, ha, hc, hk, hn, hfi, hfin, rfl⟩
          · cases h0
        · cases h0
      · cases h0
    · cases h0
  · cases h0
section JHQ
variable {p : Program} {l : Launch} {e : Env} {R : Room} {s : State} {m : MethodId} {args : Array Value} {below : List Frame} {meth : Method} {c : Code} {H : Heap} {locs : List Loc} {cells slots : Nat} {Q : State → Prop}
variable {cc : ByteArray} {pc : Nat} {ls : Array Slot} {D : va_G} {dA : Nat → ClassId} {G : jv_G} {adV : Nat → Nat} {L : Nat} {xs : Nat → Int32}
theorem jv_Rep.at {h : jv_H} (hR : jv_Rep D dA G L xs h H) {a : Nat} (ha : a < h.2.1) {x : jv_E} (he : h.1 a = x) : (jv_ws dA G h)[a]? = some (jv_ad G a, jv_ce dA (jv_ad G) x) := by
  have h1 := hR.2.1
  rw [jv_ad_lt (by omega), ← he]
  exact jv_ws_get ha
theorem jv_Rep.put {h : jv_H} {H1 : Heap} (hR : jv_Rep D dA G L xs h H) {a : Nat} (ha : a < h.2.1) {x : jv_E} (hz : H1.size = H.size) (hP : va_P D vwCl ((jv_ws dA G h).set a (jv_ad G a, jv_ce dA (jv_ad G) x)) H1) : jv_Rep D dA G L xs (jv_put h a x) H1 := by
  have h1 := hR.2.1
  refine ⟨hz.trans hR.1, hR.2.1, ?_, hR.2.2.2.up (k := a) (x := x) (by omega) rfl⟩
  rw [jv_ad_lt (by omega), jv_ws_set x ha] at hP
  exact hP
theorem jv_Rep.add {h : jv_H} {H1 : Heap} (hR : jv_Rep D dA G L xs h H) {x : jv_E} {n : Nat} (hm : h.2.1 + 1 ≤ 1000000) (hz : H1.size = H.size + 1) (o1 : ∀ q : Nat, q < H.size → H1[q]? = H[q]?) (hat : va_at D vwCl (G.1 + h.2.1, jv_ce dA (jv_ad G) x) H1) : jv_Rep D dA G L xs (jv_add h x n) H1 := by
  refine ⟨?_, hm, ?_, hR.2.2.2.up (k := h.2.1) (x := x) (by omega) rfl⟩
  · rw [hz, hR.1]
    show G.1 + h.2.1 + 1 = G.1 + (h.2.1 + 1)
    omega
  · rw [jv_ws_add]
    refine (hR.2.2.1.kept (fun k q hk => o1 q.1 ((hR.2.2.1 k q hk).lt))).app (fun k q hk => ?_)
    have hz : k < 1 := (List.getElem?_eq_some_iff.mp hk).1
    rw [show k = 0 by omega] at hk
    cases hk
    exact hat
theorem jv_grow {A : Nat → Prop} {H0 H1 : Heap} (hS : va_S A H0 H locs) (hz : H1.size = H.size + 1) (o1 : ∀ q : Nat, q < H.size → H1[q]? = H[q]?) : va_S A H0 H1 locs :=
  ⟨Nat.le_trans hS.1 (by omega), fun x h1 h2 => (o1 x (Nat.lt_of_lt_of_le h1 hS.1)).trans (hS.2.1 x h1 h2), hS.2.2⟩
/-- what every case of jv_heap_ok has -/
def jv_Cx (p : Program) (s : State) (m : MethodId) (args : Array Value) (meth : Method) (c : Code) (cc : ByteArray) (ow : Nat) (ini : Bool) (D : va_G) (dA : Nat → ClassId) (G : jv_G) (adV : Nat → Nat) (L : Nat) (xs : Nat → Int32) (h : jv_H) (H : Heap) (locs : List Loc) : Prop :=
  p.tables.exec = Jvm.exec ∧ c.code = cc ∧ s.vm.findClass (jv_own ow) = some m.cls ∧ (∀ w ∈ jv_T, w.before args s = true) ∧ jv_Kn D dA G adV L xs s ∧ jv_Rep D dA G L xs h H ∧ va_S (fun q => G.1 ≤ q) s.heap H locs ∧ (ini = true → meth.name = "<init>")
set_option maxHeartbeats 8000000 in
set_option maxRecDepth 100000 in
theorem jv_h_getfield {ow : Nat} {ini : Bool} {h h' : jv_H} (X : jv_Cx p s m args meth c cc ow ini D dA G adV L xs h H locs) {idx : Nat} {len : Nat} {st st' : List Value} (hdg : decode cc pc = .ok (.getfield idx, len)) (hl : jv_sw (.getfield idx) = true ∨ len = jv_len (.getfield idx)) (h0 : jv_heap ow ini (.getfield idx) st h = some (st', h')) (hm : h'.2.1 ≤ 1000000) (hc : cells + (h'.2.1 - h.2.1) ≤ R.cells) (hs : slots + (h'.2.2 - h.2.2) ≤ R.slots)
    (k : ∀ (H' : Heap) (locs' : List Loc) (cells' slots' : Nat), cells' = cells + (h'.2.1 - h.2.1) → slots' = slots + (h'.2.2 - h.2.2) → jv_Rep D dA G L xs h' H' → va_S (fun q => G.1 ≤ q) s.heap H' locs' → W p l e R s m args below meth c H' locs' cells' slots' Q (F0 m (pc + len) ls (st'.map (jv_vl (jv_ad G))))) :
    W p l e R s m args below meth c H locs cells slots Q (F0 m pc ls (st.map (jv_vl (jv_ad G)))) := by
  obtain ⟨hx, hb, hown, hts, hK, hR, hS, hini⟩ := X
  unfold jv_heap at h0
  dsimp only at h0
  have e := jv_len1 hl rfl; subst e
  split at h0
  · rename_i st1 hg
    cases h0
    obtain ⟨a, r, cx, kf, fs, v, rfl, hf, ha, he, hv, rfl⟩ := jv_get_eq hg
    have hck := jv_ckf_ok hf
    simp only [jv_ckf1, Bool.and_eq_true, decide_eq_true_eq] at hck
    obtain ⟨⟨hcx, hkf⟩, hw⟩ := hck
    exact va_get (D := D) (ci := cx) (v := jv_vl (jv_ad G) v) hx hb hts (jv_ws_in cx hcx) hown hK.1 hR.2.2.1 a (hR.at ha he) (jv_cls_ok cx hcx) kf hkf (hts _ (jv_in_ok hw)) (fun _ q => q) (by rw [List.getElem?_map, hv]; rfl) hdg (k H locs cells slots (by omega) (by omega) hR hS)
  · cases h0
set_option maxHeartbeats 8000000 in
set_option maxRecDepth 100000 in
theorem jv_h_putfield {ow : Nat} {ini : Bool} {h h' : jv_H} (X : jv_Cx p s m args meth c cc ow ini D dA G adV L xs h H locs) {idx : Nat} {len : Nat} {st st' : List Value} (hdg : decode cc pc = .ok (.putfield idx, len)) (hl : jv_sw (.putfield idx) = true ∨ len = jv_len (.putfield idx)) (h0 : jv_heap ow ini (.putfield idx) st h = some (st', h')) (hm : h'.2.1 ≤ 1000000) (hc : cells + (h'.2.1 - h.2.1) ≤ R.cells) (hs : slots + (h'.2.2 - h.2.2) ≤ R.slots)
    (k : ∀ (H' : Heap) (locs' : List Loc) (cells' slots' : Nat), cells' = cells + (h'.2.1 - h.2.1) → slots' = slots + (h'.2.2 - h.2.2) → jv_Rep D dA G L xs h' H' → va_S (fun q => G.1 ≤ q) s.heap H' locs' → W p l e R s m args below meth c H' locs' cells' slots' Q (F0 m (pc + len) ls (st'.map (jv_vl (jv_ad G))))) :
    W p l e R s m args below meth c H locs cells slots Q (F0 m pc ls (st.map (jv_vl (jv_ad G)))) := by
  obtain ⟨hx, hb, hown, hts, hK, hR, hS, hini⟩ := X
  unfold jv_heap at h0
  dsimp only at h0
  have e := jv_len1 hl rfl; subst e
  obtain ⟨v, a, cx, kf, fs, rfl, hf, ha, he, hkl, hn, hfi, hfin, rfl⟩ := jv_set_eq h0
  have hck := jv_ckf_ok hf
  simp only [jv_ckf1, Bool.and_eq_true, decide_eq_true_eq] at hck
  obtain ⟨⟨hcx, hkf⟩, hw⟩ := hck
  refine jv_putW (D := D) (ci := cx) (v := jv_vl (jv_ad G) v) hx hb hts (jv_ws_in cx hcx) (jv_fty cx) (jv_ty_ok cx hcx) (jv_nm_ok cx hcx) hown hK.1 hR.2.2.1 jv_ws_D hS a (hR.at ha he) (jv_cls_ok cx hcx) kf hkf (hts _ (jv_in_ok hw)) ?_ (jv_vl_narrow _ _ _ hn) (by rw [jv_vl_fits]; exact hfi) (by rw [List.length_map]; exact hkl) hdg (fun H1 locs1 z hP1 hS1 => ?_)
  · rcases hfin with q | ⟨q1, q2⟩
    · exact Or.inl q
    · by_cases hf2 : (jv_fT cx kf).2.2.2 = true
      · exact Or.inr ⟨hf2, hini q1, by rw [← q2]; exact jv_dcl_ok cx hcx kf hkf⟩
      · exact Or.inl (by simpa using hf2)
  · refine k H1 locs1 cells slots (by show cells = cells + (h.2.1 - h.2.1); omega) (by show slots = slots + (h.2.2 - h.2.2); omega) (hR.put ha z ?_) hS1
    rw [← List.map_set] at hP1
    exact hP1
set_option maxHeartbeats 8000000 in
set_option maxRecDepth 100000 in
theorem jv_h_iaload {ow : Nat} {ini : Bool} {h h' : jv_H} (X : jv_Cx p s m args meth c cc ow ini D dA G adV L xs h H locs)  {len : Nat} {st st' : List Value} (hdg : decode cc pc = .ok (.iaload, len)) (hl : jv_sw (.iaload) = true ∨ len = jv_len (.iaload)) (h0 : jv_heap ow ini (.iaload) st h = some (st', h')) (hm : h'.2.1 ≤ 1000000) (hc : cells + (h'.2.1 - h.2.1) ≤ R.cells) (hs : slots + (h'.2.2 - h.2.2) ≤ R.slots)
    (k : ∀ (H' : Heap) (locs' : List Loc) (cells' slots' : Nat), cells' = cells + (h'.2.1 - h.2.1) → slots' = slots + (h'.2.2 - h.2.2) → jv_Rep D dA G L xs h' H' → va_S (fun q => G.1 ≤ q) s.heap H' locs' → W p l e R s m args below meth c H' locs' cells' slots' Q (F0 m (pc + len) ls (st'.map (jv_vl (jv_ad G))))) :
    W p l e R s m args below meth c H locs cells slots Q (F0 m pc ls (st.map (jv_vl (jv_ad G)))) := by
  obtain ⟨hx, hb, hown, hts, hK, hR, hS, hini⟩ := X
  unfold jv_heap at h0
  dsimp only at h0
  have e := jv_len1 hl rfl; subst e
  split at h0
  · rename_i j a r
    split at h0
    · split at h0
      · rename_i ty n f he
        split at h0
        · rename_i hq
          cases h0
          obtain ⟨h1 | h1, hin⟩ := hq
          · obtain ⟨rfl, ha⟩ := h1
            exact va_iald (D := D) hx hb hK.1 hR.2.2.1 a 0 (hR.at ha he) rfl hin hdg (k H locs cells slots (by omega) (by omega) hR hS)
          · obtain ⟨rfl, rfl⟩ := h1
            rw [show h.1 1000000 = .inl (9, L, xs) from hR.2.2.2] at he
            cases he
            show W p l e R s m args below meth c H locs cells slots Q (F0 m pc ls (.int j :: .ref (jv_ad G 1000000) :: r.map (jv_vl (jv_ad G))))
            rw [jv_ad_scr]
            exact va_sld hx hb hK.2.1 (Nat.lt_of_lt_of_le hK.2.2.1 hK.2.2.2.1) (Nat.not_le.mpr hK.2.2.1) hS hin hdg (k H locs cells slots (by omega) (by omega) hR hS)
        · cases h0
      · cases h0
    · cases h0
  · cases h0
set_option maxHeartbeats 8000000 in
set_option maxRecDepth 100000 in
theorem jv_h_baload {ow : Nat} {ini : Bool} {h h' : jv_H} (X : jv_Cx p s m args meth c cc ow ini D dA G adV L xs h H locs)  {len : Nat} {st st' : List Value} (hdg : decode cc pc = .ok (.baload, len)) (hl : jv_sw (.baload) = true ∨ len = jv_len (.baload)) (h0 : jv_heap ow ini (.baload) st h = some (st', h')) (hm : h'.2.1 ≤ 1000000) (hc : cells + (h'.2.1 - h.2.1) ≤ R.cells) (hs : slots + (h'.2.2 - h.2.2) ≤ R.slots)
    (k : ∀ (H' : Heap) (locs' : List Loc) (cells' slots' : Nat), cells' = cells + (h'.2.1 - h.2.1) → slots' = slots + (h'.2.2 - h.2.2) → jv_Rep D dA G L xs h' H' → va_S (fun q => G.1 ≤ q) s.heap H' locs' → W p l e R s m args below meth c H' locs' cells' slots' Q (F0 m (pc + len) ls (st'.map (jv_vl (jv_ad G))))) :
    W p l e R s m args below meth c H locs cells slots Q (F0 m pc ls (st.map (jv_vl (jv_ad G)))) := by
  obtain ⟨hx, hb, hown, hts, hK, hR, hS, hini⟩ := X
  unfold jv_heap at h0
  dsimp only at h0
  have e := jv_len1 hl rfl; subst e
  split at h0
  · rename_i j a r
    split at h0
    · rename_i ha
      split at h0
      · rename_i ty n f he
        split at h0
        · rename_i hq
          cases h0
          obtain ⟨rfl, hin⟩ := hq
          exact va_zald (D := D) hx hb hK.1 hR.2.2.1 a 1 (hR.at ha he) rfl hin hdg (k H locs cells slots (by omega) (by omega) hR hS)
        · cases h0
      · cases h0
    · cases h0
  · cases h0
set_option maxHeartbeats 8000000 in
set_option maxRecDepth 100000 in
theorem jv_h_aaload {ow : Nat} {ini : Bool} {h h' : jv_H} (X : jv_Cx p s m args meth c cc ow ini D dA G adV L xs h H locs)  {len : Nat} {st st' : List Value} (hdg : decode cc pc = .ok (.aaload, len)) (hl : jv_sw (.aaload) = true ∨ len = jv_len (.aaload)) (h0 : jv_heap ow ini (.aaload) st h = some (st', h')) (hm : h'.2.1 ≤ 1000000) (hc : cells + (h'.2.1 - h.2.1) ≤ R.cells) (hs : slots + (h'.2.2 - h.2.2) ≤ R.slots)
    (k : ∀ (H' : Heap) (locs' : List Loc) (cells' slots' : Nat), cells' = cells + (h'.2.1 - h.2.1) → slots' = slots + (h'.2.2 - h.2.2) → jv_Rep D dA G L xs h' H' → va_S (fun q => G.1 ≤ q) s.heap H' locs' → W p l e R s m args below meth c H' locs' cells' slots' Q (F0 m (pc + len) ls (st'.map (jv_vl (jv_ad G))))) :
    W p l e R s m args below meth c H locs cells slots Q (F0 m pc ls (st.map (jv_vl (jv_ad G)))) := by
  obtain ⟨hx, hb, hown, hts, hK, hR, hS, hini⟩ := X
  unfold jv_heap at h0
  dsimp only at h0
  have e := jv_len1 hl rfl; subst e
  split at h0
  · rename_i j a r
    split at h0
    · rename_i ha
      split at h0
      · rename_i ty n f he
        split at h0
        · rename_i hq
          obtain ⟨hty, hin⟩ := hq
          split at h0
          · rename_i b hfb
            cases h0
            have kk := k H locs cells slots (by omega) (by omega) hR hS
            rcases hty with rfl | rfl
            · refine va_aldq (D := D) hx hb hK.1 hR.2.2.1 a 2 (hR.at ha he) rfl hin hdg ?_
              rw [hfb]
              exact kk
            · refine va_aldq (D := D) hx hb hK.1 hR.2.2.1 a 3 (hR.at ha he) rfl hin hdg ?_
              rw [hfb]
              exact kk
          · cases h0
        · cases h0
      · cases h0
    · cases h0
  · cases h0
set_option maxHeartbeats 8000000 in
set_option maxRecDepth 100000 in
theorem jv_h_iastore {ow : Nat} {ini : Bool} {h h' : jv_H} (X : jv_Cx p s m args meth c cc ow ini D dA G adV L xs h H locs)  {len : Nat} {st st' : List Value} (hdg : decode cc pc = .ok (.iastore, len)) (hl : jv_sw (.iastore) = true ∨ len = jv_len (.iastore)) (h0 : jv_heap ow ini (.iastore) st h = some (st', h')) (hm : h'.2.1 ≤ 1000000) (hc : cells + (h'.2.1 - h.2.1) ≤ R.cells) (hs : slots + (h'.2.2 - h.2.2) ≤ R.slots)
    (k : ∀ (H' : Heap) (locs' : List Loc) (cells' slots' : Nat), cells' = cells + (h'.2.1 - h.2.1) → slots' = slots + (h'.2.2 - h.2.2) → jv_Rep D dA G L xs h' H' → va_S (fun q => G.1 ≤ q) s.heap H' locs' → W p l e R s m args below meth c H' locs' cells' slots' Q (F0 m (pc + len) ls (st'.map (jv_vl (jv_ad G))))) :
    W p l e R s m args below meth c H locs cells slots Q (F0 m pc ls (st.map (jv_vl (jv_ad G)))) := by
  obtain ⟨hx, hb, hown, hts, hK, hR, hS, hini⟩ := X
  unfold jv_heap at h0
  dsimp only at h0
  have e := jv_len1 hl rfl; subst e
  split at h0
  · rename_i x j a r
    split at h0
    · rename_i ha
      split at h0
      · rename_i ty n f he
        split at h0
        · rename_i hq
          obtain ⟨rfl, hin⟩ := hq
          cases h0
          exact jv_iastW (D := D) hx hb hK.1 hR.2.2.1 jv_ws_D hS a 0 (hR.at ha he) rfl hin hdg (fun H1 locs1 z hP1 hS1 => k H1 locs1 cells slots (by show cells = cells + (h.2.1 - h.2.1); omega) (by show slots = slots + (h.2.2 - h.2.2); omega) (hR.put ha z hP1) hS1)
        · cases h0
      · cases h0
    · cases h0
  · cases h0
set_option maxHeartbeats 8000000 in
set_option maxRecDepth 100000 in
theorem jv_h_bastore {ow : Nat} {ini : Bool} {h h' : jv_H} (X : jv_Cx p s m args meth c cc ow ini D dA G adV L xs h H locs)  {len : Nat} {st st' : List Value} (hdg : decode cc pc = .ok (.bastore, len)) (hl : jv_sw (.bastore) = true ∨ len = jv_len (.bastore)) (h0 : jv_heap ow ini (.bastore) st h = some (st', h')) (hm : h'.2.1 ≤ 1000000) (hc : cells + (h'.2.1 - h.2.1) ≤ R.cells) (hs : slots + (h'.2.2 - h.2.2) ≤ R.slots)
    (k : ∀ (H' : Heap) (locs' : List Loc) (cells' slots' : Nat), cells' = cells + (h'.2.1 - h.2.1) → slots' = slots + (h'.2.2 - h.2.2) → jv_Rep D dA G L xs h' H' → va_S (fun q => G.1 ≤ q) s.heap H' locs' → W p l e R s m args below meth c H' locs' cells' slots' Q (F0 m (pc + len) ls (st'.map (jv_vl (jv_ad G))))) :
    W p l e R s m args below meth c H locs cells slots Q (F0 m pc ls (st.map (jv_vl (jv_ad G)))) := by
  obtain ⟨hx, hb, hown, hts, hK, hR, hS, hini⟩ := X
  unfold jv_heap at h0
  dsimp only at h0
  have e := jv_len1 hl rfl; subst e
  split at h0
  · rename_i x j a r
    split at h0
    · rename_i ha
      obtain ⟨ha, hx1⟩ := ha
      split at h0
      · rename_i ty n f he
        split at h0
        · rename_i hq
          obtain ⟨rfl, hin⟩ := hq
          cases h0
          exact jv_zastW (D := D) hx hb hK.1 hR.2.2.1 jv_ws_D hS a 1 (hR.at ha he) rfl hx1 hin hdg (fun H1 locs1 z hP1 hS1 => k H1 locs1 cells slots (by show cells = cells + (h.2.1 - h.2.1); omega) (by show slots = slots + (h.2.2 - h.2.2); omega) (hR.put ha z hP1) hS1)
        · cases h0
      · cases h0
    · cases h0
  · cases h0
set_option maxHeartbeats 8000000 in
set_option maxRecDepth 100000 in
theorem jv_h_aastore {ow : Nat} {ini : Bool} {h h' : jv_H} (X : jv_Cx p s m args meth c cc ow ini D dA G adV L xs h H locs)  {len : Nat} {st st' : List Value} (hdg : decode cc pc = .ok (.aastore, len)) (hl : jv_sw (.aastore) = true ∨ len = jv_len (.aastore)) (h0 : jv_heap ow ini (.aastore) st h = some (st', h')) (hm : h'.2.1 ≤ 1000000) (hc : cells + (h'.2.1 - h.2.1) ≤ R.cells) (hs : slots + (h'.2.2 - h.2.2) ≤ R.slots)
    (k : ∀ (H' : Heap) (locs' : List Loc) (cells' slots' : Nat), cells' = cells + (h'.2.1 - h.2.1) → slots' = slots + (h'.2.2 - h.2.2) → jv_Rep D dA G L xs h' H' → va_S (fun q => G.1 ≤ q) s.heap H' locs' → W p l e R s m args below meth c H' locs' cells' slots' Q (F0 m (pc + len) ls (st'.map (jv_vl (jv_ad G))))) :
    W p l e R s m args below meth c H locs cells slots Q (F0 m pc ls (st.map (jv_vl (jv_ad G)))) := by
  obtain ⟨hx, hb, hown, hts, hK, hR, hS, hini⟩ := X
  unfold jv_heap at h0
  dsimp only at h0
  have e := jv_len1 hl rfl; subst e
  split at h0
  · rename_i b j a r
    split at h0
    · rename_i ha
      obtain ⟨ha, hb1⟩ := ha
      split at h0
      · rename_i ty n f d vs he heb
        split at h0
        · rename_i hq
          obtain ⟨hty, hin⟩ := hq
          cases h0
          have hup : (fun q => ((va_up f j.toNatClampNeg (some b)) q).map (jv_ad G)) = va_up (fun q => (f q).map (jv_ad G)) j.toNatClampNeg (some (jv_ad G b)) := by
            funext q
            unfold va_up
            split <;> rfl
          have fin : ∀ (H1 : Heap) (locs1 : List Loc), H1.size = H.size → va_P D vwCl ((jv_ws dA G h).set a (jv_ad G a, .inl (dA ty, n, .inr (.inr (.inr (.inr (va_up (fun q => (f q).map (jv_ad G)) j.toNatClampNeg (some (jv_ad G b))))))))) H1 → va_S (fun q => G.1 ≤ q) s.heap H1 locs1 → W p l e R s m args below meth c H1 locs1 cells slots Q (F0 m (pc + 1) ls (st'.map (jv_vl (jv_ad G)))) := by
            intro H1 locs1 z hP1 hS1
            rw [← hup] at hP1
            exact k H1 locs1 cells slots (by show cells = cells + (h.2.1 - h.2.1); omega) (by show slots = slots + (h.2.2 - h.2.2); omega) (hR.put (x := .inr (.inl (ty, n, va_up f j.toNatClampNeg (some b)))) ha z hP1) hS1
          rcases hty with ⟨rfl, rfl⟩ | ⟨rfl, rfl⟩
          · exact jv_aastW (D := D) (r := (jv_own 6, jv_fT 6, jv_fn 6)) hx hb hK.1 hR.2.2.1 jv_ws_D hS a 2 b 6 (hR.at ha he) rfl (hR.at hb1 heb) (jv_cls_ok 6 (by decide)) hin hdg fin
          · exact jv_aastW (D := D) (r := (jv_own 5, jv_fT 5, jv_fn 5)) hx hb hK.1 hR.2.2.1 jv_ws_D hS a 3 b 5 (hR.at ha he) rfl (hR.at hb1 heb) (jv_cls_ok 5 (by decide)) hin hdg fin
        · cases h0
      · cases h0
    · cases h0
  · cases h0
set_option maxHeartbeats 8000000 in
set_option maxRecDepth 100000 in
theorem jv_h_arraylength {ow : Nat} {ini : Bool} {h h' : jv_H} (X : jv_Cx p s m args meth c cc ow ini D dA G adV L xs h H locs)  {len : Nat} {st st' : List Value} (hdg : decode cc pc = .ok (.arraylength, len)) (hl : jv_sw (.arraylength) = true ∨ len = jv_len (.arraylength)) (h0 : jv_heap ow ini (.arraylength) st h = some (st', h')) (hm : h'.2.1 ≤ 1000000) (hc : cells + (h'.2.1 - h.2.1) ≤ R.cells) (hs : slots + (h'.2.2 - h.2.2) ≤ R.slots)
    (k : ∀ (H' : Heap) (locs' : List Loc) (cells' slots' : Nat), cells' = cells + (h'.2.1 - h.2.1) → slots' = slots + (h'.2.2 - h.2.2) → jv_Rep D dA G L xs h' H' → va_S (fun q => G.1 ≤ q) s.heap H' locs' → W p l e R s m args below meth c H' locs' cells' slots' Q (F0 m (pc + len) ls (st'.map (jv_vl (jv_ad G))))) :
    W p l e R s m args below meth c H locs cells slots Q (F0 m pc ls (st.map (jv_vl (jv_ad G)))) := by
  obtain ⟨hx, hb, hown, hts, hK, hR, hS, hini⟩ := X
  unfold jv_heap at h0
  dsimp only at h0
  have e := jv_len1 hl rfl; subst e
  split at h0
  · rename_i a r
    split at h0
    · split at h0
      · rename_i ty n f he
        split at h0
        · rename_i hq
          cases h0
          have kk := k H locs cells slots (by omega) (by omega) hR hS
          rcases hq with ⟨hty, ha⟩ | ⟨rfl, rfl⟩
          · match ty, hty with
            | 0, _ => exact va_alen (D := D) hx hb hK.1 hR.2.2.1 a 0 (hR.at ha he) rfl rfl hdg kk
            | 1, _ => exact va_alen (D := D) hx hb hK.1 hR.2.2.1 a 1 (hR.at ha he) rfl rfl hdg kk
            | q + 2, hq => omega
          · rw [show h.1 1000000 = .inl (9, L, xs) from hR.2.2.2] at he
            cases he
            show W p l e R s m args below meth c H locs cells slots Q (F0 m pc ls (.ref (jv_ad G 1000000) :: r.map (jv_vl (jv_ad G))))
            rw [jv_ad_scr]
            exact va_slen hx hb hK.2.1 (Nat.lt_of_lt_of_le hK.2.2.1 hK.2.2.2.1) (Nat.not_le.mpr hK.2.2.1) hS hdg kk
        · cases h0
      · rename_i ty n f he
        split at h0
        · rename_i hq
          cases h0
          obtain ⟨hty, ha⟩ := hq
          have kk := k H locs cells slots (by omega) (by omega) hR hS
          rcases hty with rfl | rfl
          · exact va_alen (D := D) hx hb hK.1 hR.2.2.1 a 2 (hR.at ha he) rfl rfl hdg kk
          · exact va_alen (D := D) hx hb hK.1 hR.2.2.1 a 3 (hR.at ha he) rfl rfl hdg kk
        · cases h0
      · cases h0
    · cases h0
  · cases h0
set_option maxHeartbeats 8000000 in
set_option maxRecDepth 100000 in
theorem jv_h_new {ow : Nat} {ini : Bool} {h h' : jv_H} (X : jv_Cx p s m args meth c cc ow ini D dA G adV L xs h H locs) {idx : Nat} {len : Nat} {st st' : List Value} (hdg : decode cc pc = .ok (.new idx, len)) (hl : jv_sw (.new idx) = true ∨ len = jv_len (.new idx)) (h0 : jv_heap ow ini (.new idx) st h = some (st', h')) (hm : h'.2.1 ≤ 1000000) (hc : cells + (h'.2.1 - h.2.1) ≤ R.cells) (hs : slots + (h'.2.2 - h.2.2) ≤ R.slots)
    (k : ∀ (H' : Heap) (locs' : List Loc) (cells' slots' : Nat), cells' = cells + (h'.2.1 - h.2.1) → slots' = slots + (h'.2.2 - h.2.2) → jv_Rep D dA G L xs h' H' → va_S (fun q => G.1 ≤ q) s.heap H' locs' → W p l e R s m args below meth c H' locs' cells' slots' Q (F0 m (pc + len) ls (st'.map (jv_vl (jv_ad G))))) :
    W p l e R s m args below meth c H locs cells slots Q (F0 m pc ls (st.map (jv_vl (jv_ad G)))) := by
  obtain ⟨hx, hb, hown, hts, hK, hR, hS, hini⟩ := X
  unfold jv_heap at h0
  dsimp only at h0
  have e := jv_len1 hl rfl; subst e
  split at h0
  · rename_i cx hn
    cases h0
    have hck := jv_ckn_ok hn
    simp only [jv_ckn1, Bool.and_eq_true, decide_eq_true_eq] at hck
    obtain ⟨hcx, hw⟩ := hck
    have hKn := hK.1.1 cx _ (jv_cls_ok cx hcx)
    have hi := jv_inst_ok cx hcx
    have hsz := hR.1
    have hc1 : cells + 1 ≤ R.cells := by
      have : (h.2.1 + 1) - h.2.1 = 1 := by omega
      have h9 : cells + ((h.2.1 + 1) - h.2.1) ≤ R.cells := hc
      omega
    have hs1 : slots + jv_fn cx ≤ R.slots := by
      have h9 : slots + ((h.2.2 + jv_fn cx) - h.2.2) ≤ R.slots := hs
      omega
    refine W.newcK (n := jv_fn cx) hx hb hown (hts _ (jv_in_ok hw)) (hts _ (jv_in_ok hi.1)) (hts _ (jv_in_ok hi.2)) rfl hdg hc1 hs1 hKn.2.1 rfl fun H1 kC hkC e1 z1 o1 => ?_
    have hadr : jv_ad G h.2.1 = H.size := by rw [hsz]; exact jv_ad_lt (Nat.lt_of_lt_of_le (Nat.lt_succ_self _) hm)
    have kk := k H1 locs (cells + 1) (slots + jv_fn cx) (by show cells + 1 = cells + ((h.2.1 + 1) - h.2.1); omega) (by show slots + jv_fn cx = slots + ((h.2.2 + jv_fn cx) - h.2.2); omega) (hR.add hm z1 o1 ?_) (jv_grow hS z1 o1)
    · have kk2 : W p l e R s m args below meth c H1 locs (cells + 1) (slots + jv_fn cx) Q (F0 m (pc + 3) ls (.ref (jv_ad G h.2.1) :: st.map (jv_vl (jv_ad G)))) := kk
      rw [hadr] at kk2
      exact kk2
    · rw [← hsz]
      refine ⟨_, jv_cls_ok cx hcx, (u_born (jv_fty cx) hts (jv_ws_in cx hcx) hKn hkC e1 (jv_ty_ok cx hcx)).to ?_⟩
      intro j hj
      simp [vp_V, List.getD_eq_getElem?_getD, show j < jv_fn cx from hj, jv_vl_default]
  · cases h0
set_option maxHeartbeats 8000000 in
set_option maxRecDepth 100000 in
theorem jv_h_newarray {ow : Nat} {ini : Bool} {h h' : jv_H} (X : jv_Cx p s m args meth c cc ow ini D dA G adV L xs h H locs) {t : ArrayType} {len : Nat} {st st' : List Value} (hdg : decode cc pc = .ok (.newarray t, len)) (hl : jv_sw (.newarray t) = true ∨ len = jv_len (.newarray t)) (h0 : jv_heap ow ini (.newarray t) st h = some (st', h')) (hm : h'.2.1 ≤ 1000000) (hc : cells + (h'.2.1 - h.2.1) ≤ R.cells) (hs : slots + (h'.2.2 - h.2.2) ≤ R.slots)
    (k : ∀ (H' : Heap) (locs' : List Loc) (cells' slots' : Nat), cells' = cells + (h'.2.1 - h.2.1) → slots' = slots + (h'.2.2 - h.2.2) → jv_Rep D dA G L xs h' H' → va_S (fun q => G.1 ≤ q) s.heap H' locs' → W p l e R s m args below meth c H' locs' cells' slots' Q (F0 m (pc + len) ls (st'.map (jv_vl (jv_ad G))))) :
    W p l e R s m args below meth c H locs cells slots Q (F0 m pc ls (st.map (jv_vl (jv_ad G)))) := by
  obtain ⟨hx, hb, hown, hts, hK, hR, hS, hini⟩ := X
  unfold jv_heap at h0
  dsimp only at h0
  have e := jv_len1 hl rfl; subst e
  split at h0
  · rename_i n r
    split at h0
    · rename_i hn
      obtain ⟨hn0, hn1⟩ := hn
      have hsz := hR.1
      split at h0
      · cases h0
        have hc1 : cells + 1 ≤ R.cells := by
          have h9 : cells + ((h.2.1 + 1) - h.2.1) ≤ R.cells := hc
          omega
        have hs1 : slots + n.toNatClampNeg ≤ R.slots := by
          have h9 : slots + ((h.2.2 + n.toNatClampNeg) - h.2.2) ≤ R.slots := hs
          omega
        refine va_newaK hx hb (hts _ (jv_in_ok jv_arrI)) rfl hdg rfl hn0 rfl (by show n.toNatClampNeg * 4 ≤ 536870912; omega) hc1 hs1 rfl fun H1 cA e1 z1 o1 hAr hNm => ?_
        have hadr : jv_ad G h.2.1 = H.size := by rw [hsz]; exact jv_ad_lt (Nat.lt_of_lt_of_le (Nat.lt_succ_self _) hm)
        have hcA : cA = dA 0 := Option.some.inj (hNm.symm.trans (hK.1.2 0 _ rfl).2)
        subst hcA
        have kk := k H1 locs (cells + 1) (slots + n.toNatClampNeg) (by show cells + 1 = cells + ((h.2.1 + 1) - h.2.1); omega) (by show slots + n.toNatClampNeg = slots + ((h.2.2 + n.toNatClampNeg) - h.2.2); omega) (hR.add hm z1 o1 (by rw [← hsz]; exact e1)) (jv_grow hS z1 o1)
        have kk2 : W p l e R s m args below meth c H1 locs (cells + 1) (slots + n.toNatClampNeg) Q (F0 m (pc + 2) ls (.ref (jv_ad G h.2.1) :: r.map (jv_vl (jv_ad G)))) := kk
        rw [hadr] at kk2
        exact kk2
      · cases h0
        have hc1 : cells + 1 ≤ R.cells := by
          have h9 : cells + ((h.2.1 + 1) - h.2.1) ≤ R.cells := hc
          omega
        have hs1 : slots + n.toNatClampNeg ≤ R.slots := by
          have h9 : slots + ((h.2.2 + n.toNatClampNeg) - h.2.2) ≤ R.slots := hs
          omega
        refine va_newaK hx hb (hts _ (jv_in_ok jv_arrZ)) rfl hdg rfl hn0 rfl (by show n.toNatClampNeg * 1 ≤ 536870912; omega) hc1 hs1 rfl fun H1 cA e1 z1 o1 hAr hNm => ?_
        have hadr : jv_ad G h.2.1 = H.size := by rw [hsz]; exact jv_ad_lt (Nat.lt_of_lt_of_le (Nat.lt_succ_self _) hm)
        have hcA : cA = dA 1 := Option.some.inj (hNm.symm.trans (hK.1.2 1 _ rfl).2)
        subst hcA
        have kk := k H1 locs (cells + 1) (slots + n.toNatClampNeg) (by show cells + 1 = cells + ((h.2.1 + 1) - h.2.1); omega) (by show slots + n.toNatClampNeg = slots + ((h.2.2 + n.toNatClampNeg) - h.2.2); omega) (hR.add hm z1 o1 (by rw [← hsz]; exact e1)) (jv_grow hS z1 o1)
        have kk2 : W p l e R s m args below meth c H1 locs (cells + 1) (slots + n.toNatClampNeg) Q (F0 m (pc + 2) ls (.ref (jv_ad G h.2.1) :: r.map (jv_vl (jv_ad G)))) := kk
        rw [hadr] at kk2
        exact kk2
      · cases h0
    · cases h0
  · cases h0
set_option maxHeartbeats 8000000 in
set_option maxRecDepth 100000 in
theorem jv_h_anewarray {ow : Nat} {ini : Bool} {h h' : jv_H} (X : jv_Cx p s m args meth c cc ow ini D dA G adV L xs h H locs) {idx : Nat} {len : Nat} {st st' : List Value} (hdg : decode cc pc = .ok (.anewarray idx, len)) (hl : jv_sw (.anewarray idx) = true ∨ len = jv_len (.anewarray idx)) (h0 : jv_heap ow ini (.anewarray idx) st h = some (st', h')) (hm : h'.2.1 ≤ 1000000) (hc : cells + (h'.2.1 - h.2.1) ≤ R.cells) (hs : slots + (h'.2.2 - h.2.2) ≤ R.slots)
    (k : ∀ (H' : Heap) (locs' : List Loc) (cells' slots' : Nat), cells' = cells + (h'.2.1 - h.2.1) → slots' = slots + (h'.2.2 - h.2.2) → jv_Rep D dA G L xs h' H' → va_S (fun q => G.1 ≤ q) s.heap H' locs' → W p l e R s m args below meth c H' locs' cells' slots' Q (F0 m (pc + len) ls (st'.map (jv_vl (jv_ad G))))) :
    W p l e R s m args below meth c H locs cells slots Q (F0 m pc ls (st.map (jv_vl (jv_ad G)))) := by
  obtain ⟨hx, hb, hown, hts, hK, hR, hS, hini⟩ := X
  unfold jv_heap at h0
  dsimp only at h0
  have e := jv_len1 hl rfl; subst e
  split at h0
  · rename_i n r
    split at h0
    · rename_i hn
      obtain ⟨hn0, hn1⟩ := hn
      have hsz := hR.1
      split at h0
      · rename_i cx hnw
        have hck := jv_ckn_ok hnw
        simp only [jv_ckn1, Bool.and_eq_true, decide_eq_true_eq] at hck
        obtain ⟨hcx, hw⟩ := hck
        have key : ∀ (t0 : Nat) (C : String), jv_own cx = C → (jv_tys dA)[t0]? = some (dA t0, .object C) → (Cond.arrayOver (.object C)).before args s = true → some (.ref h.2.1 :: r, jv_add h (.inr (.inl (t0, n.toNatClampNeg, fun _ => none))) n.toNatClampNeg) = some (st', h') → W p l e R s m args below meth c H locs cells slots Q (F0 m pc ls (.int n :: r.map (jv_vl (jv_ad G)))) := by
          intro t0 C hC ht hover h0
          subst hC
          cases h0
          have hc1 : cells + 1 ≤ R.cells := by
            have h9 : cells + ((h.2.1 + 1) - h.2.1) ≤ R.cells := hc
            omega
          have hs1 : slots + n.toNatClampNeg ≤ R.slots := by
            have h9 : slots + ((h.2.2 + n.toNatClampNeg) - h.2.2) ≤ R.slots := hs
            omega
          refine W.anew hx hb hown (hts _ (jv_in_ok hw)) hover rfl hdg rfl hn0 (by omega) hc1 hs1 fun cA kA comp f1 f2 f3 f4 => ?_
          generalize hH1 : H.push ({ cls := cA, slots := Array.replicate n.toNatClampNeg .null, vm := .none } : Cell) = H1
          have z1 : H1.size = H.size + 1 := by rw [← hH1, Array.size_push]
          have e1 : H1[H.size]? = some (arrV cA n.toNatClampNeg (fun _ => .null)) := by rw [← hH1, Array.getElem?_push_size, ← arrV_new]
          have o1 : ∀ q : Nat, q < H.size → H1[q]? = H[q]? := fun q hq => by rw [← hH1, Array.getElem?_push, if_neg (Nat.ne_of_lt hq)]
          have hadr : jv_ad G h.2.1 = H.size := by rw [hsz]; exact jv_ad_lt (Nat.lt_of_lt_of_le (Nat.lt_succ_self _) hm)
          obtain ⟨kA2, comp2, g1, g2, g3, g4⟩ := (hK.1.2 t0 _ ht).2
          have hcA : cA = dA t0 := Option.some.inj (f1.symm.trans g4)
          subst hcA
          have kk := k H1 locs (cells + 1) (slots + n.toNatClampNeg) (by show cells + 1 = cells + ((h.2.1 + 1) - h.2.1); omega) (by show slots + n.toNatClampNeg = slots + ((h.2.2 + n.toNatClampNeg) - h.2.2); omega) (hR.add hm z1 o1 (by rw [← hsz]; exact e1)) (jv_grow hS z1 o1)
          have kk2 : W p l e R s m args below meth c H1 locs (cells + 1) (slots + n.toNatClampNeg) Q (F0 m (pc + 3) ls (.ref (jv_ad G h.2.1) :: r.map (jv_vl (jv_ad G)))) := kk
          rw [hadr] at kk2
          exact kk2
        split at h0
        · rename_i h6
          subst h6
          exact key 2 _ rfl rfl (va_AO.use hK.2.2.2.2.2.2.1) h0
        · split at h0
          · rename_i h5
            subst h5
            exact key 3 _ rfl rfl (va_AO.use hK.2.2.2.2.2.2.2.1) h0
          · cases h0
      · cases h0
    · cases h0
  · cases h0
set_option maxHeartbeats 8000000 in
set_option maxRecDepth 100000 in
theorem jv_h_ldc {ow : Nat} {ini : Bool} {h h' : jv_H} (X : jv_Cx p s m args meth c cc ow ini D dA G adV L xs h H locs) {idx : Nat} {len : Nat} {st st' : List Value} (hdg : decode cc pc = .ok (.ldc idx, len)) (hl : jv_sw (.ldc idx) = true ∨ len = jv_len (.ldc idx)) (h0 : jv_heap ow ini (.ldc idx) st h = some (st', h')) (hm : h'.2.1 ≤ 1000000) (hc : cells + (h'.2.1 - h.2.1) ≤ R.cells) (hs : slots + (h'.2.2 - h.2.2) ≤ R.slots)
    (k : ∀ (H' : Heap) (locs' : List Loc) (cells' slots' : Nat), cells' = cells + (h'.2.1 - h.2.1) → slots' = slots + (h'.2.2 - h.2.2) → jv_Rep D dA G L xs h' H' → va_S (fun q => G.1 ≤ q) s.heap H' locs' → W p l e R s m args below meth c H' locs' cells' slots' Q (F0 m (pc + len) ls (st'.map (jv_vl (jv_ad G))))) :
    W p l e R s m args below meth c H locs cells slots Q (F0 m pc ls (st.map (jv_vl (jv_ad G)))) := by
  obtain ⟨hx, hb, hown, hts, hK, hR, hS, hini⟩ := X
  unfold jv_heap at h0
  dsimp only at h0
  have e := jv_len1 hl rfl; subst e
  split at h0
  · rename_i v hv
    cases h0
    have kk := k H locs cells slots (by omega) (by omega) hR hS
    have hck := jv_ckl_ok hv
    cases v with
    | int x => exact W.ldc hx hb hown (hts _ (jv_in_ok hck)) rfl hdg kk
    | ref a =>
      unfold jv_ckl1 at hck
      dsimp only at hck
      cases htx : jv_tix a with
      | none => rw [htx] at hck; cases hck
      | some ix =>
        rw [htx] at hck
        dsimp only at hck
        obtain ⟨hi20, rfl⟩ := jv_tix_eq htx
        cases hst : jv_str[ix]? with
        | none => rw [hst] at hck; cases hck
        | some q =>
          obtain ⟨own, idx2, tx⟩ := q
          rw [hst] at hck
          dsimp only at hck
          obtain ⟨h4, h5⟩ := of_decide_eq_true hck
          subst h4
          subst h5
          have hvk := hK.2.2.2.2.2.1 _ _ hst
          have kk2 : W p l e R s m args below meth c H locs cells slots Q (F0 m (pc + 2) ls (.ref (jv_ad G (1000001 + ix)) :: st.map (jv_vl (jv_ad G)))) := kk
          rw [jv_ad_txt] at kk2
          exact va_ldcS hx hb hown hvk hdg kk2
    | long x => cases hck
    | float x => cases hck
    | double x => cases hck
    | null => cases hck
    | retAddr x => cases hck
  · cases h0
set_option maxHeartbeats 8000000 in
theorem jv_heap_ok (hx : p.tables.exec = Jvm.exec) (hb : c.code = cc) {ow : Nat} {ini : Bool} (hown : s.vm.findClass (jv_own ow) = some m.cls) (hts : ∀ w ∈ jv_T, w.before args s = true) (hK : jv_Kn D dA G adV L xs s) {h h' : jv_H} (hR : jv_Rep D dA G L xs h H) (hS : va_S (fun q => G.1 ≤ q) s.heap H locs) (hini : ini = true → meth.name = "<init>")
    {i : Instr} {len : Nat} {st st' : List Value} (hdg : decode cc pc = .ok (i, len)) (hl : jv_sw i = true ∨ len = jv_len i) (h0 : jv_heap ow ini i st h = some (st', h')) (hm : h'.2.1 ≤ 1000000) (hc : cells + (h'.2.1 - h.2.1) ≤ R.cells) (hs : slots + (h'.2.2 - h.2.2) ≤ R.slots)
    (k : ∀ (H' : Heap) (locs' : List Loc) (cells' slots' : Nat), cells' = cells + (h'.2.1 - h.2.1) → slots' = slots + (h'.2.2 - h.2.2) → jv_Rep D dA G L xs h' H' → va_S (fun q => G.1 ≤ q) s.heap H' locs' → W p l e R s m args below meth c H' locs' cells' slots' Q (F0 m (pc + len) ls (st'.map (jv_vl (jv_ad G))))) :
    W p l e R s m args below meth c H locs cells slots Q (F0 m pc ls (st.map (jv_vl (jv_ad G)))) := by
  have X : jv_Cx p s m args meth c cc ow ini D dA G adV L xs h H locs := ⟨hx, hb, hown, hts, hK, hR, hS, hini⟩
  have h00 := h0
  unfold jv_heap at h0
  split at h0
  · exact jv_h_getfield X hdg hl h00 hm hc hs k
  · exact jv_h_putfield X hdg hl h00 hm hc hs k
  · exact jv_h_iaload X hdg hl h00 hm hc hs k
  · exact jv_h_baload X hdg hl h00 hm hc hs k
  · exact jv_h_aaload X hdg hl h00 hm hc hs k
  · exact jv_h_iastore X hdg hl h00 hm hc hs k
  · exact jv_h_bastore X hdg hl h00 hm hc hs k
  · exact jv_h_aastore X hdg hl h00 hm hc hs k
  · exact jv_h_arraylength X hdg hl h00 hm hc hs k
  · exact jv_h_new X hdg hl h00 hm hc hs k
  · exact jv_h_newarray X hdg hl h00 hm hc hs k
  · exact jv_h_anewarray X hdg hl h00 hm hc hs k
  · exact jv_h_ldc X hdg hl h00 hm hc hs k
  · cases h0
end JHQ
end
section
/-! THE J MACHINE IS RIGHT: methods, calls, by induction on the fuel -/
theorem jv_heap_mono {ow : Nat} {ini : Bool} {i : Instr} {st st' : List Value} {h h' : jv_H} (h0 : jv_heap ow ini i st h = some (st', h')) : h.2.1 ≤ h'.2.1 ∧ h.2.2 ≤ h'.2.2 := by
  unfold jv_heap at h0
  split at h0
  case h_2 =>
    obtain ⟨v, a, cx, kf, fs, rfl, hf, ha, he, hkl, hn, hfi, hfin, rfl⟩ := jv_set_eq h0
    exact ⟨Nat.le_refl _, Nat.le_refl _⟩
  all_goals (repeat' split at h0)
  all_goals first
    | (cases h0; done)
    | (cases h0; exact ⟨Nat.le_refl _, Nat.le_refl _⟩)
    | (cases h0; exact ⟨Nat.le_succ _, Nat.le_add_right _ _⟩)
theorem jv_step_mono {ow : Nat} {ini : Bool} {i : Instr} {len pc pc' : Nat} {L L' : List (Option Value)} {st st' : List Value} {h h' : jv_H} (h0 : jv_step ow ini i len pc L st h = some (pc', L', st', h')) : h.2.1 ≤ h'.2.1 ∧ h.2.2 ≤ h'.2.2 := by
  unfold jv_step at h0
  split at h0
  · cases h0; exact ⟨Nat.le_refl _, Nat.le_refl _⟩
  · split at h0
    · cases h0; exact ⟨Nat.le_refl _, Nat.le_refl _⟩
    · split at h0
      · cases h0; exact ⟨Nat.le_refl _, Nat.le_refl _⟩
      · split at h0
        · cases h0; exact ⟨Nat.le_refl _, Nat.le_refl _⟩
        · split at h0
          · rename_i hh
            cases h0; exact jv_heap_mono hh
          · cases h0
/-- the J machine's one step, what it can be -/
theorem jv_run_inv {n y pc : Nat} {L : List (Option Value)} {st : List Value} {h h' : jv_H} {r : Option Value} (h0 : jv_run (n + 1) y pc L st h = some (r, h')) :
    ∃ (ow kd na mL fr lo : Nat) (i : Instr) (len : Nat), jv_inf y = some (ow, kd, na, mL, fr, lo) ∧ jv_code y pc = some (i, len) ∧
      ((jv_ret (jv_ym y).2.2 i st = some r ∧ h' = h) ∨
       (∃ (pc' : Nat) (L' : List (Option Value)) (st' : List Value) (h1 : jv_H), jv_step ow (decide (kd = 2)) i len pc L st h = some (pc', L', st', h1) ∧ jv_run n y pc' L' st' h1 = some (r, h')) ∨
       (∃ (ck idx z na' ne : Nat), jv_isC i = some (ck, idx) ∧ jv_cal ow idx = some (z, na', ne) ∧
         ((z = 900 ∧ ∃ (a : Nat) (rst : List Value), st = .ref a :: rst ∧ ck = 2 ∧ 1 ≤ fr ∧ jv_wd rst + 12 ≤ lo ∧ jv_run n y (pc + 3) L rst h = some (r, h')) ∨
          (z = 901 ∧ ∃ st' : List Value, jv_strlen st = some st' ∧ ck = 1 ∧ 2 ≤ fr ∧ 40 ≤ lo ∧ jv_wd (st.drop 1) ≤ 8 ∧ jv_run n y (pc + 3) L st' h = some (r, h')) ∨
          (z = 902 ∧ ∃ st' : List Value, jv_strat st = some st' ∧ ck = 1 ∧ 6 ≤ fr ∧ 120 ≤ lo ∧ jv_wd (st.drop 2) ≤ 8 ∧ jv_run n y (pc + 3) L st' h = some (r, h')) ∨
          (z ≠ 900 ∧ z ≠ 901 ∧ z ≠ 902 ∧ ∃ (q : Nat × Nat × Nat × Nat × Nat × Nat) (r1 : Option Value) (h1 : jv_H), jv_inf z = some q ∧ jv_may ck fr lo q na' st h = true ∧
            jv_run n z 0 ((st.take na').reverse.map some ++ List.replicate (q.2.2.2.1 - na') none) [] h = some (r1, h1) ∧ jv_run n y (pc + 3) L (r1.toList ++ st.drop na') h1 = some (r, h'))))) := by
  unfold jv_run at h0
  split at h0
  · cases h0
  · rename_i ow kd na mL fr lo hinf
    split at h0
    · cases h0
    · rename_i i len hcode
      refine ⟨ow, kd, na, mL, fr, lo, i, len, hinf, hcode, ?_⟩
      split at h0
      · rename_i r0 hr
        cases h0
        exact Or.inl ⟨hr, rfl⟩
      · split at h0
        · split at h0
          · rename_i hs
            exact Or.inr (Or.inl ⟨_, _, _, _, hs, h0⟩)
          · cases h0
        · rename_i ck idx hc
          split at h0
          · cases h0
          · rename_i z na' ne hcal
            refine Or.inr (Or.inr ⟨ck, idx, z, na', ne, hc, hcal, ?_⟩)
            split at h0
            · rename_i hz
              split at h0
              · split at h0
                · rename_i hq
                  exact Or.inl ⟨hz, _, _, rfl, hq.1, hq.2.1, hq.2.2, h0⟩
                · cases h0
              · cases h0
            · rename_i hz0
              split at h0
              · rename_i hz
                split at h0
                · rename_i st' hst
                  split at h0
                  · rename_i hq
                    exact Or.inr (Or.inl ⟨hz, st', hst, hq.1, hq.2.1, hq.2.2.1, hq.2.2.2, h0⟩)
                  · cases h0
                · cases h0
              · rename_i hz1
                split at h0
                · rename_i hz
                  split at h0
                  · rename_i st' hst
                    split at h0
                    · rename_i hq
                      exact Or.inr (Or.inr (Or.inl ⟨hz, st', hst, hq.1, hq.2.1, hq.2.2.1, hq.2.2.2, h0⟩))
                    · cases h0
                  · cases h0
                · rename_i hz2
                  split at h0
                  · cases h0
                  · rename_i q hq
                    split at h0
                    · rename_i hmay
                      split at h0
                      · rename_i r1 h1 hrun
                        exact Or.inr (Or.inr (Or.inr ⟨hz0, hz1, hz2, q, r1, h1, hq, hmay, hrun, h0⟩))
                      · cases h0
                    · cases h0
theorem jv_run_mono : ∀ (n : Nat) {y pc : Nat} {L : List (Option Value)} {st : List Value} {h h' : jv_H} {r : Option Value}, jv_run n y pc L st h = some (r, h') → h.2.1 ≤ h'.2.1 ∧ h.2.2 ≤ h'.2.2
  | 0, _, _, _, _, _, _, _, h0 => by cases h0
  | n + 1, y, pc, L, st, h, h', r, h0 => by
    obtain ⟨ow, kd, na, mL, fr, lo, i, len, -, -, ⟨-, rfl⟩ | ⟨pc', L', st', h1, hs, hr⟩ | ⟨ck, idx, z, na', ne, -, -, hz⟩⟩ := jv_run_inv h0
    · exact ⟨Nat.le_refl _, Nat.le_refl _⟩
    · have a := jv_step_mono hs
      have b := jv_run_mono n hr
      omega
    · rcases hz with ⟨-, a, rst, -, -, -, -, hr⟩ | ⟨-, st', -, -, -, -, -, hr⟩ | ⟨-, st', -, -, -, -, -, hr⟩ | ⟨-, -, -, q, r1, h1, -, -, hr1, hr⟩
      · exact jv_run_mono n hr
      · exact jv_run_mono n hr
      · exact jv_run_mono n hr
      · have a := jv_run_mono n hr1
        have b := jv_run_mono n hr
        omega
def jv_Pc (D : va_G) (dA : Nat → ClassId) (G : jv_G) (adV : Nat → Nat) (L : Nat) (xs : Nat → Int32) (a : List Value) (h : jv_H) : Array Value → State → Prop := fun v U => v = (a.map (jv_vl (jv_ad G))).toArray ∧ jv_Rep D dA G L xs h U.heap ∧ jv_Kn D dA G adV L xs U
def jv_Qc (D : va_G) (dA : Nat → ClassId) (G : jv_G) (L : Nat) (xs : Nat → Int32) (r : Option Value) (h' : jv_H) : Array Value → State → Outcome → State → Prop := fun _ st o t => o = .returned (r.map (jv_vl (jv_ad G))) ∧ jv_Rep D dA G L xs h' t.heap ∧ va_F (fun q => G.1 ≤ q) st t
theorem jv_nests_warm {s U : State} (hW : s.WarmedH U.vm) : ∀ w ∈ jv_nests, va_Nw w s → va_Nw w U := by
  intro w hw h
  simp only [jv_nests, List.mem_cons, List.not_mem_nil, or_false] at hw
  rcases hw with rfl | rfl | rfl | rfl | rfl <;> exact va_Nw.warmM hW h
theorem jv_nests_same {u U : State} (hv : u.vm = U.vm) : ∀ w ∈ jv_nests, va_Nw w u → va_Nw w U := by
  intro w hw h
  simp only [jv_nests, List.mem_cons, List.not_mem_nil, or_false] at hw
  rcases hw with rfl | rfl | rfl | rfl | rfl <;> exact va_Nw.same rfl hv h
theorem jv_Kn.same {D : va_G} {dA : Nat → ClassId} {G : jv_G} {adV : Nat → Nat} {L : Nat} {xs : Nat → Int32} {u U : State} (hv : U.vm = u.vm) (hh : U.heap = u.heap) (h : jv_Kn D dA G adV L xs u) : jv_Kn D dA G adV L xs U := by
  obtain ⟨h1, h2, h3, h4, h5, h6, k1, k2, k3, k4, v, hv0, k5⟩ := h
  have ha : u.vm.Alike U.vm := by rw [hv]; exact Vm.Alike.refl u.vm
  refine ⟨va_K.moved ha h1, ?_, h3, by rw [hh]; exact h4, ?_, fun i q hq => vk_R.same hv (h6 i q hq), k1.moved ha, k2.moved ha, fun w hw => jv_nests_same hv.symm w hw (k3 w hw), ?_, v, hv0, ?_⟩
  · rw [hh]; exact va_X.moved ha h2
  · rw [hh]; exact vk_S.moved ha h5
  · rw [hh]; exact va_Z.moved ha k4
  · rw [hh]; exact va_Z.moved ha k5
theorem jv_Kn.next {D : va_G} {dA : Nat → ClassId} {G : jv_G} {adV : Nat → Nat} {L : Nat} {xs : Nat → Int32} {s U : State} {locs : List Loc} (h : jv_Kn D dA G adV L xs s) (hS : va_S (fun q => G.1 ≤ q) s.heap U.heap locs) (hW : s.WarmedH U.vm) : jv_Kn D dA G adV L xs U := by
  obtain ⟨h1, h2, h3, h4, h5, h6, k1, k2, k3, k4, v, hv0, k5⟩ := h
  exact ⟨va_K.moved hW.alike h1, (h2.kept (hS.2.1 G.2.1 (Nat.lt_of_lt_of_le h3 h4) (Nat.not_le.mpr h3))).moved hW.alike, h3, Nat.le_trans h4 hS.1, (h5.kept hS.2.1).moved hW.alike, fun i q hq => vk_R.warm hW (h6 i q hq), k1.moved hW.alike, k2.moved hW.alike, fun w hw => jv_nests_warm hW w hw (k3 w hw), (k4.kept hS.2.1).moved hW.alike, v, hv0, (k5.kept hS.2.1).moved hW.alike⟩
theorem jv_blind {D : va_G} {dA : Nat → ClassId} {G : jv_G} {adV : Nat → Nat} {L : Nat} {xs : Nat → Int32} {a : List Value} {h : jv_H} : FrameBlind (jv_Pc D dA G adV L xs a h) := by
  intro v U g mk hp
  exact ⟨hp.1, hp.2.1, jv_Kn.same (u := U) (U := U.calling g mk v) rfl rfl hp.2.2⟩
theorem jv_wd_map (ad : Nat → Nat) (st : List Value) : ((st.map (jv_vl ad)).map fun v => v.category).sum = jv_wd st := by
  unfold jv_wd
  rw [List.map_map]
  congr 1
  apply List.map_congr_left
  intro v _
  exact jv_vl_cat ad v
theorem jv_wd_one : ∀ (u : List Value), jv_wd u = u.length → ∀ v ∈ u, v.category = 1
  | [], _, v, hv => by cases hv
  | w :: u, h, v, hv => by
    have hge : ∀ u : List Value, u.length ≤ jv_wd u := by
      intro u
      induction u with
      | nil => exact Nat.le_refl _
      | cons x t ih =>
        have h2 : jv_wd (x :: t) = x.category + jv_wd t := by simp [jv_wd]
        rcases lv_cat x with h3 | h3 <;> simp only [List.length_cons] <;> omega
    have h1 : jv_wd (w :: u) = w.category + jv_wd u := by simp [jv_wd]
    have h2 := hge u
    simp only [List.length_cons] at h
    rcases lv_cat w with h3 | h3
    · rcases List.mem_cons.mp hv with rfl | hv
      · exact h3
      · exact jv_wd_one u (by omega) v hv
    · omega
theorem jv_sl : ∀ (vs : List Value), (∀ v ∈ vs, v.category = 1) → lg_sl vs = vs.map Slot.val
  | [], _ => rfl
  | v :: vs, h => by
    have h1 : ¬ v.category = 2 := by rw [h v List.mem_cons_self]; decide
    have h2 := jv_sl vs (fun w hw => h w (List.mem_cons_of_mem _ hw))
    unfold lg_sl at h2 ⊢
    rw [List.flatMap_cons, h2, if_neg h1]
    rfl
theorem jv_args_mem : ∀ (vs : List Value) (k i : Nat) (v : Value), (∀ w ∈ vs, w.category = 1) → vs[i]? = some v → (k + i, v) ∈ lv_args k vs
  | [], k, i, v, _, h => by simp at h
  | w :: vs, k, i, v, hc, h => by
    have h1 : ¬ w.category = 2 := by rw [hc w List.mem_cons_self]; decide
    unfold lv_args
    rw [if_neg h1]
    cases i with
    | zero =>
      rw [List.getElem?_cons_zero] at h
      cases h
      exact List.mem_cons_self
    | succ i =>
      rw [List.getElem?_cons_succ] at h
      have h2 := jv_args_mem vs (k + 1) i v (fun x hx => hc x (List.mem_cons_of_mem _ hx)) h
      rw [show k + (i + 1) = k + 1 + i by omega]
      exact List.mem_cons_of_mem _ h2
/-- a method's first locals -/
theorem jv_entry (ad : Nat → Nat) (a : List Value) (mL : Nat) (hc : ∀ v ∈ a, v.category = 1) (hn : a.length ≤ mL) : jv_Lc ad ((lg_sl (a.map (jv_vl ad)) ++ List.replicate (mL - (lg_sl (a.map (jv_vl ad))).length) Slot.unset).toArray) mL (a.map some ++ List.replicate (mL - a.length) none) := by
  have hc2 : ∀ v ∈ a.map (jv_vl ad), v.category = 1 := by
    intro v hv
    obtain ⟨w, hw, rfl⟩ := List.mem_map.mp hv
    rw [jv_vl_cat]
    exact hc w hw
  have hsl := jv_sl _ hc2
  have hlen : (lg_sl (a.map (jv_vl ad))).length = a.length := by rw [hsl]; simp
  have hE := lv_entry (a.map (jv_vl ad)) (n := mL) (by omega)
  refine ⟨hE.1, by simp; omega, hE.2.1, fun i v hv => ?_⟩
  have hi : a[i]? = some v := by
    by_cases hlt : i < a.length
    · rw [List.getElem?_append_left (by simpa using hlt), List.getElem?_map] at hv
      cases ha : a[i]? with
      | none => rw [ha] at hv; cases hv
      | some w => rw [ha] at hv; cases hv; rfl
    · rw [List.getElem?_append_right (by simp; omega)] at hv
      have h3 := List.mem_of_getElem? hv
      have h4 := List.eq_of_mem_replicate h3
      cases h4
  have h5 := jv_args_mem (a.map (jv_vl ad)) 0 i (jv_vl ad v) hc2 (by rw [List.getElem?_map, hi]; rfl)
  rw [Nat.zero_add] at h5
  exact hE.2.2 (i, jv_vl ad v) h5
end
section
/-! THE J MACHINE IS RIGHT: the induction -/
section JSM
variable {p : Program} {l : Launch} {e : Env} {R : Room} {s : State} {m : MethodId} {args : Array Value} {below : List Frame} {meth : Method} {c : Code} {H : Heap} {locs : List Loc} {cells slots : Nat} {Q : State → Prop}
variable {cc : ByteArray} {pc nL : Nat} {ls : Array Slot} {D : va_G} {dA : Nat → ClassId} {G : jv_G} {adV : Nat → Nat} {L : Nat} {xs : Nat → Int32}
theorem jv_back {mc ms : Nat} {r : Option Value} {h' : jv_H} {st0 rest : List Value} {a : Array Value} (hr : va_Run p l e R s m args below meth c H locs cells slots mc ms (F0 m pc ls st0) rest (jv_Qc D dA G L xs r h' a) (fun q => G.1 ≤ q)) (hS : va_S (fun q => G.1 ≤ q) s.heap H locs)
    (kk : ∀ (H1 : Heap) (locs1 : List Loc), jv_Rep D dA G L xs h' H1 → va_S (fun q => G.1 ≤ q) s.heap H1 locs1 → W p l e R s m args below meth c H1 locs1 (cells + mc) (slots + ms) Q (F0 m (pc + 3) ls ((r.map (jv_vl (jv_ad G))).toList ++ rest))) : W p l e R s m args below meth c H locs cells slots Q (F0 m pc ls st0) := by
  intro T hT X
  obtain ⟨v, st₀, t, T', L1, h0, X', hL, e1, e2, ⟨hv, hRep, hz, hk⟩, st⟩ := hr T hT X
  cases hv
  rw [h0] at hz hk
  obtain ⟨t2, a1, b1⟩ := kk T'.heap (locs ++ L1) (by rw [e1]; exact hRep) ⟨Nat.le_trans hS.1 (by rw [e1]; exact hz), fun q h1 h2 => by rw [e1, hk q (Nat.lt_of_lt_of_le h1 hS.1) h2]; exact hS.2.1 q h1 h2, fun q hq => by
      rcases List.mem_append.mp hq with h | h
      · exact hS.2.2 q h
      · exact hL q h⟩ T' rfl X'
  exact ⟨t2, st t2 a1, b1⟩
set_option maxHeartbeats 4000000 in
theorem jv_step_ok (hx : p.tables.exec = Jvm.exec) (hb : c.code = cc) {ow : Nat} {ini : Bool} (hown : s.vm.findClass (jv_own ow) = some m.cls) (hts : ∀ w ∈ jv_T, w.before args s = true) (hK : jv_Kn D dA G adV L xs s) {h h' : jv_H} (hR : jv_Rep D dA G L xs h H) (hS : va_S (fun q => G.1 ≤ q) s.heap H locs) (hini : ini = true → meth.name = "<init>")
    {i : Instr} {len pc' : Nat} {Lv Lv' : List (Option Value)} {st st' : List Value} (hL : jv_Lc (jv_ad G) ls nL Lv) (hdg : decode cc pc = .ok (i, len)) (hl : jv_sw i = true ∨ len = jv_len i) (h0 : jv_step ow ini i len pc Lv st h = some (pc', Lv', st', h')) (hm : h'.2.1 ≤ 1000000) (hc : cells + (h'.2.1 - h.2.1) ≤ R.cells) (hs : slots + (h'.2.2 - h.2.2) ≤ R.slots)
    (k : ∀ (H' : Heap) (locs' : List Loc) (ls' : Array Slot) (cells' slots' : Nat), cells' = cells + (h'.2.1 - h.2.1) → slots' = slots + (h'.2.2 - h.2.2) → jv_Rep D dA G L xs h' H' → va_S (fun q => G.1 ≤ q) s.heap H' locs' → jv_Lc (jv_ad G) ls' nL Lv' → W p l e R s m args below meth c H' locs' cells' slots' Q (F0 m pc' ls' (st'.map (jv_vl (jv_ad G))))) :
    W p l e R s m args below meth c H locs cells slots Q (F0 m pc ls (st.map (jv_vl (jv_ad G)))) := by
  unfold jv_step at h0
  split at h0
  · rename_i h1
    cases h0
    exact jv_pure_ok hx hb hdg hl h1 (k H locs ls cells slots (by omega) (by omega) hR hS hL)
  · split at h0
    · rename_i h1
      cases h0
      exact jv_ld_ok hx hb hdg hl hL h1 (k H locs ls cells slots (by omega) (by omega) hR hS hL)
    · split at h0
      · rename_i h1
        cases h0
        exact jv_br_ok hx hb hdg hl h1 (k H locs ls cells slots (by omega) (by omega) hR hS hL)
      · split at h0
        · rename_i h1
          cases h0
          exact jv_sto_ok hx hb hdg hl hL h1 (fun ls' hL' => k H locs ls' cells slots (by omega) (by omega) hR hS hL')
        · split at h0
          · rename_i h1
            cases h0
            exact jv_heap_ok hx hb hown hts hK hR hS hini hdg hl h1 hm hc hs (fun H' locs' cells' slots' e1 e2 hR' hS' => k H' locs' ls cells' slots' e1 e2 hR' hS' hL)
          · cases h0
theorem jv_isC_eq {i : Instr} {ck idx : Nat} (h : jv_isC i = some (ck, idx)) : (ck = 0 ∧ i = .invokestatic idx) ∨ (ck = 1 ∧ i = .invokevirtual idx) ∨ (ck = 2 ∧ i = .invokespecial idx) := by
  unfold jv_isC at h
  split at h
  · cases h; exact Or.inl ⟨rfl, rfl⟩
  · cases h; exact Or.inr (Or.inl ⟨rfl, rfl⟩)
  · cases h; exact Or.inr (Or.inr ⟨rfl, rfl⟩)
  · cases h
/-- what the tables say of method z -/
theorem jv_ckm_eq {z ow kd na mL fr lo : Nat} (hz : z < 271) (hq : jv_inf z = some (ow, kd, na, mL, fr, lo)) :
    Cond.code (jv_ym z).1 (jv_ym z).2.1 mL (jv_ym z).2.2 ∈ jv_T ∧ Cond.initialized (jv_ym z).1.cls ∈ jv_T ∧ plainFor (jv_ym z).1 = true ∧ (jv_ym z).1.cls = jv_own ow ∧
    ((jv_ym z).1.cls ≠ "java/lang/invoke/MethodHandle" ∧ (jv_ym z).1.cls ≠ "java/lang/invoke/VarHandle" ∧ (parseMethodDescriptor (jv_ym z).1.desc).map (fun d => d.parameters.length) = some (if kd = 0 then na else na - 1)) ∧ na ≤ mL ∧ (kd ≠ 0 → 1 ≤ na) ∧
    (kd = 0 → Cond.static (jv_ym z).1 ∈ jv_T) ∧ (kd = 1 → Cond.instanceMethod (jv_ym z).1 ∈ jv_T ∧ Cond.selects (jv_ym z).1.cls (jv_ym z).1 (jv_ym z).1 ∈ jv_T) ∧ (kd ≠ 0 → kd ≠ 1 → kd = 2 ∧ Cond.instanceMethod (jv_ym z).1 ∈ jv_T ∧ (jv_ym z).1.name = "<init>" ∧ (jv_ym z).2.2 = none) := by
  have h := jv_ckm_ok z hz
  unfold jv_ckm at h
  rw [hq] at h
  split at h
  · rename_i ow1 kd1 na1 mL1 fr1 lo1 a b c1 d he hhm
    cases he
    simp only [Bool.and_eq_true, decide_eq_true_eq] at h
    obtain ⟨⟨⟨⟨h1, h2⟩, h3⟩, h4, h5, h6, h7⟩, h8⟩ := h
    refine ⟨jv_in_ok h1, jv_in_ok h2, h3, h4, h5, h6, h7, fun hk => ?_, fun hk => ?_, fun hk0 hk1 => ?_⟩
    · subst hk
      exact jv_in_ok h8
    · subst hk
      simp only [Bool.and_eq_true] at h8
      exact ⟨jv_in_ok h8.1, jv_in_ok h8.2⟩
    · split at h8
      · exact absurd rfl hk0
      · exact absurd rfl hk1
      · simp only [Bool.and_eq_true, decide_eq_true_eq] at h8
        exact ⟨h8.2.2.2, jv_in_ok h8.1, h8.2.1, h8.2.2.1⟩
  · cases h
theorem jv_good {w : Cond} (hw : w ∈ jv_T) : GoodIn jv_T (w :: jv_T) := by
  have key : ∀ v ∈ jv_T, v ∈ jv_T ∧ ((v.onTables && v.keeps) = true ∨ ∃ ty, v = .arrayClass ty) := fun v hv => ⟨hv, good_of_word (List.mem_filter.mp hv).2⟩
  intro v hv
  rcases List.mem_cons.mp hv with rfl | hv
  · exact key _ hw
  · exact key _ hv
set_option maxHeartbeats 8000000 in
theorem jv_call_ok {ow fr lo : Nat} (S : CallFix p m c cc nL s args jv_T (jv_own ow)) (hK : jv_Kn D dA G adV L xs s) {h h1 : jv_H} (hR : jv_Rep D dA G L xs h H) (hS : va_S (fun q => G.1 ≤ q) s.heap H locs) {z ow2 kd2 na2 mL2 fr2 lo2 na ne ck idx len : Nat} {i : Instr} {st : List Value} {r1 : Option Value}
    (hq : jv_inf z = some (ow2, kd2, na2, mL2, fr2, lo2)) (hcal : jv_cal ow idx = some (z, na, ne)) (hz0 : z ≠ 900) (hz1 : z ≠ 901) (hz2 : z ≠ 902) (hdg : decode cc pc = .ok (i, len)) (hci : jv_isC i = some (ck, idx)) (hl : jv_sw i = true ∨ len = jv_len i) (hmay : jv_may ck fr lo (ow2, kd2, na2, mL2, fr2, lo2) na st h = true) (hfr : fr ≤ R.frames) (hlo : lo ≤ R.locals) (hsz : ls.size = nL) {mc ms : Nat}
    (hM : Met l (jv_ym z).1 (Cond.code (jv_ym z).1 (jv_ym z).2.1 mL2 (jv_ym z).2.2 :: jv_T) ({ frames := fr2, cells := mc, slots := ms, locals := lo2 } : Room) (jv_Pc D dA G adV L xs (st.take na).reverse h) (jv_Qc D dA G L xs r1 h1) mc ms (fun q => G.1 ≤ q)) (hf : cells + mc ≤ R.cells ∧ slots + ms ≤ R.slots)
    (kk : ∀ (H1 : Heap) (locs1 : List Loc), jv_Rep D dA G L xs h1 H1 → va_S (fun q => G.1 ≤ q) s.heap H1 locs1 → W p l e R s m args below meth c H1 locs1 (cells + mc) (slots + ms) Q (F0 m (pc + 3) ls ((r1.toList ++ st.drop na).map (jv_vl (jv_ad G))))) :
    W p l e R s m args below meth c H locs cells slots Q (F0 m pc ls (st.map (jv_vl (jv_ad G)))) := by
  have hckc := jv_ckc_ok hcal
  unfold jv_ckc1 at hckc
  rw [if_neg hz0, if_neg hz1, if_neg hz2, hq] at hckc
  simp only [Bool.and_eq_true, decide_eq_true_eq] at hckc
  obtain ⟨⟨hna, hz⟩, hlink⟩ := hckc
  subst hna
  obtain ⟨w1, w2, -, w4, w5, w6, w7, w8, w9, w10⟩ := jv_ckm_eq hz hq
  have hts := S.2.2.2.2
  unfold jv_may at hmay
  simp only [Bool.and_eq_true, decide_eq_true_eq] at hmay
  obtain ⟨⟨hk, hn1, hn2, hn3, hf1, hf2, hw1, hw2⟩, hrec⟩ := hmay
  subst hk
  have hRm : fr2 + 1 ≤ R.frames ∧ 8 + (mL2 + 11) + lo2 ≤ R.locals := ⟨by omega, by omega⟩
  have hst : st.map (jv_vl (jv_ad G)) = (st.take na2).map (jv_vl (jv_ad G)) ++ (st.drop na2).map (jv_vl (jv_ad G)) := by rw [← List.map_append, List.take_append_drop]
  have hu : (st.take na2).length = na2 := by rw [List.length_take]; omega
  have hWd : ∀ g : JFrame, g.monitorRoom = 0 → 2 * g.monitorRoom + (((st.drop na2).map (jv_vl (jv_ad G))).map fun v => v.category).sum ≤ 8 := by
    intro g hg
    rw [hg, jv_wd_map]
    omega
  have hpre : ∀ U : State, U.heap = H → s.WarmedH U.vm → ∀ v : Array Value, v = ((st.take na2).reverse.map (jv_vl (jv_ad G))).toArray → jv_Pc D dA G adV L xs (st.take na2).reverse h v U := by
    intro U hU hW v hv
    refine ⟨hv, by rw [hU]; exact hR, hK.next (by rw [hU]; exact hS) hW⟩
  have kk2 : ∀ (H1 : Heap) (locs1 : List Loc), jv_Rep D dA G L xs h1 H1 → va_S (fun q => G.1 ≤ q) s.heap H1 locs1 → W p l e R s m args below meth c H1 locs1 (cells + mc) (slots + ms) Q (F0 m (pc + 3) ls ((r1.map (jv_vl (jv_ad G))).toList ++ (st.drop na2).map (jv_vl (jv_ad G)))) := by
    intro H1 locs1 a1 a2
    have a3 := kk H1 locs1 a1 a2
    rw [List.map_append] at a3
    cases r1 <;> exact a3
  rcases jv_isC_eq hci with ⟨rfl, rfl⟩ | ⟨rfl, rfl⟩ | ⟨rfl, rfl⟩
  · -- static
    have e := jv_len1 hl rfl; subst e
    have hstack : (F0 m pc ls (st.map (jv_vl (jv_ad G)))).stack = ((st.take na2).reverse.map (jv_vl (jv_ad G))).reverse ++ (st.drop na2).map (jv_vl (jv_ad G)) := by
      show st.map (jv_vl (jv_ad G)) = _
      rw [hst]
      simp
    have hps : PreS s H (jv_Pc D dA G adV L xs (st.take na2).reverse h) ((st.take na2).reverse.map (jv_vl (jv_ad G))) := ⟨jv_blind, fun U hU hW => hpre U hU hW _ rfl⟩
    rw [if_pos rfl] at w5
    by_cases hne : ne = 0
    · rw [if_pos hne] at hlink
      exact jv_back (va_runS S hM ⟨callB_of na2 hts (jv_good w1) rfl rfl rfl (hts _ w2) (hts _ (jv_in_ok hlink)) w5 hRm, hts _ (w8 rfl)⟩ hps rfl (by rw [List.length_map, List.length_reverse]; exact hu) hsz hstack (hWd _ rfl) hdg hf) hS kk2
    · rw [if_neg hne, decide_eq_true_eq] at hlink
      exact jv_back (va_runSN S hM ⟨va_cnB na2 hts (jv_good w1) rfl rfl rfl (hK.2.2.2.2.2.2.2.2.1 _ hlink) (hts _ w2) w5 hRm, hts _ (w8 rfl), trivial⟩ hps rfl (by rw [List.length_map, List.length_reverse]; exact hu) hsz hstack (hWd _ rfl) hdg hf) hS kk2
  · -- virtual
    have e := jv_len1 hl rfl; subst e
    rw [if_neg (by decide)] at w5
    have hpos := w7 (by decide)
    split at hrec
    · rename_i h0; cases h0
    · split at hrec
      · rename_i a hlast
        simp only [Bool.and_eq_true, decide_eq_true_eq] at hrec
        obtain ⟨ha, hrec⟩ := hrec
        split at hrec
        · rename_i dcl fs hcell
          rw [decide_eq_true_eq] at hrec
          have hdec := List.getLast?_eq_some_iff.mp hlast
          obtain ⟨u0, hu0⟩ := hdec
          have hcl9 : ow2 < 9 := by
            rcases Nat.lt_or_ge ow2 9 with q | q
            · exact q
            · exfalso
              rw [hrec] at hcell
              have h9 := hR.2.2.1 a _ (hR.at ha hcell)
              obtain ⟨r9, h10, -⟩ := h9
              have : vwCl[ow2]? = none := List.getElem?_eq_none (by show 9 ≤ ow2; exact q)
              rw [this] at h10
              cases h10
          subst hrec
          have hArr : (Value.ref (jv_ad G a) :: u0.reverse.map (jv_vl (jv_ad G))) = (st.take na2).reverse.map (jv_vl (jv_ad G)) := by rw [hu0]; simp [jv_vl]
          have hlen0 : u0.length = na2 - 1 := by
            have : (u0 ++ [Value.ref a]).length = na2 := by rw [← hu0]; exact hu
            simp only [List.length_append, List.length_cons, List.length_nil] at this
            omega
          have hstack : (F0 m pc ls (st.map (jv_vl (jv_ad G)))).stack = (u0.reverse.map (jv_vl (jv_ad G))).reverse ++ .ref (jv_ad G a) :: (st.drop na2).map (jv_vl (jv_ad G)) := by
            show st.map (jv_vl (jv_ad G)) = _
            rw [hst, hu0]
            simp [jv_vl]
          have hpv : PreV s H (jv_ym z).1.cls (jv_ad G a) (jv_Pc D dA G adV L xs (st.take na2).reverse h) (u0.reverse.map (jv_vl (jv_ad G))) := by
            refine ⟨jv_blind, ?_, fun U hU hW => hpre U hU hW _ (by rw [hArr])⟩
            rw [w4]
            exact va_recv hK.1 hR.2.2.1 (jv_cls_ok dcl hcl9) (hR.at ha hcell)
          by_cases hne : ne = 0
          · rw [if_pos hne] at hlink
            exact jv_back (va_runV S hM ⟨callB_of (na2 - 1) hts (jv_good w1) rfl rfl rfl (hts _ w2) (hts _ (jv_in_ok hlink)) w5 hRm, hts _ (w9 rfl).1, hts _ (w9 rfl).2⟩ hpv rfl (by rw [List.length_map, List.length_reverse]; exact hlen0) hsz hstack (hWd _ rfl) hdg hf) hS kk2
          · rw [if_neg hne, decide_eq_true_eq] at hlink
            exact jv_back (va_runVN S hM ⟨va_cnB (na2 - 1) hts (jv_good w1) rfl rfl rfl (hK.2.2.2.2.2.2.2.2.1 _ hlink) (hts _ w2) w5 hRm, hts _ (w9 rfl).1, hts _ (w9 rfl).2⟩ hpv rfl (by rw [List.length_map, List.length_reverse]; exact hlen0) hsz hstack (hWd _ rfl) hdg hf) hS kk2
        · cases hrec
      · cases hrec
  · -- constructor
    have e := jv_len1 hl rfl; subst e
    rw [if_neg (by decide)] at w5
    obtain ⟨-, x1, x2, x3⟩ := w10 (by decide) (by decide)
    split at hrec
    · rename_i h0; cases h0
    · split at hrec
      · rename_i a hlast
        have hdec := List.getLast?_eq_some_iff.mp hlast
        obtain ⟨u0, hu0⟩ := hdec
        have hArr : (Value.ref (jv_ad G a) :: u0.reverse.map (jv_vl (jv_ad G))) = (st.take na2).reverse.map (jv_vl (jv_ad G)) := by rw [hu0]; simp [jv_vl]
        have hlen0 : u0.length = na2 - 1 := by
          have : (u0 ++ [Value.ref a]).length = na2 := by rw [← hu0]; exact hu
          simp only [List.length_append, List.length_cons, List.length_nil] at this
          omega
        have hstack : (F0 m pc ls (st.map (jv_vl (jv_ad G)))).stack = (u0.reverse.map (jv_vl (jv_ad G))).reverse ++ .ref (jv_ad G a) :: (st.drop na2).map (jv_vl (jv_ad G)) := by
          show st.map (jv_vl (jv_ad G)) = _
          rw [hst, hu0]
          simp [jv_vl]
        have hpv : PreS s H (jv_Pc D dA G adV L xs (st.take na2).reverse h) (.ref (jv_ad G a) :: u0.reverse.map (jv_vl (jv_ad G))) := ⟨jv_blind, fun U hU hW => hpre U hU hW _ (by rw [hArr])⟩
        rw [x3] at hM w1
        by_cases hne : ne = 0
        · rw [if_pos hne] at hlink
          exact jv_back (va_runI S hM ⟨callB_of (na2 - 1) hts (jv_good w1) rfl rfl rfl (hts _ w2) (hts _ (jv_in_ok hlink)) w5 hRm, x2, hts _ x1⟩ hpv rfl (by rw [List.length_map, List.length_reverse]; exact hlen0) hsz hstack (hWd _ rfl) hdg hf) hS kk2
        · rw [if_neg hne, decide_eq_true_eq] at hlink
          exact jv_back (va_runIN S hM ⟨va_cnB (na2 - 1) hts (jv_good w1) rfl rfl rfl (hK.2.2.2.2.2.2.2.2.1 _ hlink) (hts _ w2) w5 hRm, x2, hts _ x1⟩ hpv rfl (by rw [List.length_map, List.length_reverse]; exact hlen0) hsz hstack (hWd _ rfl) hdg hf) hS kk2
      · cases hrec
/-- what the J machine's run says of the machine, from the middle of a method -/
def jv_OK (l : Launch) (D : va_G) (dA : Nat → ClassId) (G : jv_G) (adV : Nat → Nat) (L : Nat) (xs : Nat → Int32) (y pc : Nat) (Lv : List (Option Value)) (st : List Value) (h : jv_H) (r : Option Value) (h' : jv_H) : Prop :=
  ∀ (p : Program) (e : Env) (R : Room) (s : State) (m : MethodId) (args : Array Value) (below : List Frame) (meth : Method) (c : Code) (H : Heap) (locs : List Loc) (cells slots tc ts : Nat) (Q : State → Prop) (ls : Array Slot) (ow kd na mL fr lo : Nat),
    jv_inf y = some (ow, kd, na, mL, fr, lo) → CallFix p m c (jv_ym y).2.1 mL s args jv_T (jv_own ow) → (kd = 2 → meth.name = "<init>") → jv_Kn D dA G adV L xs s → jv_Rep D dA G L xs h H → va_S (fun q => G.1 ≤ q) s.heap H locs → jv_Lc (jv_ad G) ls mL Lv → h'.2.1 ≤ 1000000 → fr ≤ R.frames → lo ≤ R.locals →
    tc = cells + (h'.2.1 - h.2.1) → ts = slots + (h'.2.2 - h.2.2) → tc ≤ R.cells → ts ≤ R.slots →
    (∀ (H' : Heap) (locs' : List Loc) (pc' : Nat) (ls' : Array Slot) (st' : List Value) (i : Instr) (len : Nat), decode (jv_ym y).2.1 pc' = .ok (i, len) → (jv_sw i = true ∨ len = jv_len i) → jv_ret (jv_ym y).2.2 i st' = some r → jv_Rep D dA G L xs h' H' → va_S (fun q => G.1 ≤ q) s.heap H' locs' → W p l e R s m args below meth c H' locs' tc ts Q (F0 m pc' ls' (st'.map (jv_vl (jv_ad G))))) →
    W p l e R s m args below meth c H locs cells slots Q (F0 m pc ls (st.map (jv_vl (jv_ad G))))
set_option maxHeartbeats 4000000 in
/-- a method's contract out of its body -/
theorem jv_met {z ow kd na mL fr lo : Nat} (hz : z < 271) (hq : jv_inf z = some (ow, kd, na, mL, fr, lo)) {a : List Value} (ha : ∀ v ∈ a, v.category = 1) (hn : a.length ≤ mL) {h h' : jv_H} {r : Option Value} (hok : jv_OK l D dA G adV L xs z 0 (a.map some ++ List.replicate (mL - a.length) none) [] h r h') (hm : h'.2.1 ≤ 1000000) :
    Met l (jv_ym z).1 (Cond.code (jv_ym z).1 (jv_ym z).2.1 mL (jv_ym z).2.2 :: jv_T) ({ frames := fr, cells := h'.2.1 - h.2.1, slots := h'.2.2 - h.2.2, locals := lo } : Room) (jv_Pc D dA G adV L xs a h) (jv_Qc D dA G L xs r h') (h'.2.1 - h.2.1) (h'.2.2 - h.2.2) (fun q => G.1 ≤ q) := by
  obtain ⟨w1, w2, w3, w4, w5, w6, w7, w8, w9, w10⟩ := jv_ckm_eq hz hq
  refine va_MetF (cc := (jv_ym z).2.1) (maxL := mL) (ret := (jv_ym z).2.2) (ws' := jv_T) w3 rfl ?_
  intro p e s m args below meth c s₁ B hml hP
  obtain ⟨rfl, hRep, hKn⟩ := hP
  have hx := B.exec
  have hb := B.bytes
  have hr := B.returns
  have hlocks := B.notSynchronized
  have hts : ∀ w ∈ jv_T, w.before (a.map (jv_vl (jv_ad G))).toArray s = true := fun w hw => atoms_spec (ws := Cond.code (jv_ym z).1 (jv_ym z).2.1 mL (jv_ym z).2.2 :: jv_T) B.pre w (List.mem_cons_of_mem _ hw)
  have hown : s.vm.findClass (jv_own ow) = some m.cls := by rw [← w4]; exact findClass_of_methodNamed B.named
  rw [lg_entry_eq]
  refine hok p e _ s m _ below meth c s.heap [] 0 0 (h'.2.1 - h.2.1) (h'.2.2 - h.2.2) _ _ ow kd na mL fr lo hq ⟨hx, hb, hml, hown, hts⟩ ?_ hKn hRep va_S.rf (jv_entry (jv_ad G) a mL ha hn) hm (Nat.le_refl _) (Nat.le_refl _) (Nat.zero_add _).symm (Nat.zero_add _).symm (Nat.le_refl _) (Nat.le_refl _) ?_
  · intro hk
    rw [(name_of_methodNamed B.named B.method).1]
    exact (w10 (by omega) (by omega)).2.2.1
  · intro H' locs' pc' ls' st' i len hd hl hret hR' hS'
    have hq2 : ∀ t : State, t.heap = H' → jv_Qc D dA G L xs r h' (a.map (jv_vl (jv_ad G))).toArray s (.returned (r.map (jv_vl (jv_ad G)))) t := fun t ht => ⟨rfl, by rw [ht]; exact hR', hS'.F ht⟩
    generalize hrt : (jv_ym z).2.2 = rt at hret hr
    unfold jv_ret at hret
    split at hret
    · have e := jv_len1 hl rfl; subst e
      cases hret
      exact W.vret hx hb hr (fun t ht _ => hq2 t ht) hS'.2.2 hd
    · have e := jv_len1 hl rfl; subst e
      split at hret
      · rename_i hnar
        cases hret
        exact W.zret hx hb hr hnar (fun t ht _ => hq2 t ht) hS'.2.2 hd
      · cases hret
    · have e := jv_len1 hl rfl; subst e
      cases hret
      exact W.aret hx hb hr (Or.inl ⟨_, rfl⟩) (Or.inr ⟨_, rfl⟩) (fun t ht _ => hq2 t ht) hS'.2.2 hd
    · have e := jv_len1 hl rfl; subst e
      cases hret
      exact W.fret hx hb hr (fun t ht _ => hq2 t ht) hS'.2.2 hd
    · have e := jv_len1 hl rfl; subst e
      cases hret
      exact W.dret hx hb hr (fun t ht _ => hq2 t ht) hS'.2.2 hd
    · cases hret
/-- the two members of String, by contract -/
def jv_LenMet (l : Launch) (D : va_G) (dA : Nat → ClassId) (G : jv_G) (adV : Nat → Nat) (L : Nat) (xs : Nat → Int32) : Prop := ∀ (i : Nat) (h : jv_H), i < 20 → Met l yJ0_length_8abf5 (Cond.code yJ0_length_8abf5 cJ0_length_8abf5 1 (some .int) :: jv_T) ({ frames := 1, cells := 0, slots := 0, locals := 20 } : Room) (jv_Pc D dA G adV L xs [.ref (1000001 + i)] h) (jv_Qc D dA G L xs (some (.int (Int32.ofNat (jv_byt.getD i []).length))) h) 0 0 (fun q => G.1 ≤ q)
def jv_ChrMet (l : Launch) (D : va_G) (dA : Nat → ClassId) (G : jv_G) (adV : Nat → Nat) (L : Nat) (xs : Nat → Int32) : Prop := ∀ (i : Nat) (j : Int32) (h : jv_H), i < 20 → ¬ (j < 0 ∨ (jv_byt.getD i []).length ≤ j.toNatClampNeg) → Met l yJ0_charAt_5068e (Cond.code yJ0_charAt_5068e cJ0_charAt_5068e 2 (some .char) :: jv_T) ({ frames := 5, cells := 0, slots := 0, locals := 99 } : Room) (jv_Pc D dA G adV L xs [.ref (1000001 + i), .int j] h) (jv_Qc D dA G L xs (some (.int ((jv_byt.getD i []).getD j.toNatClampNeg 0))) h) 0 0 (fun q => G.1 ≤ q)
end JSM
end
section
/-! THE TEXTS: String.length, String.charAt and what they call, over the claim's own literals; words by wip/gen/strs.py -/
theorem jw_codeLEN : Cond.code yJ0_length_8abf5 cJ0_length_8abf5 1 (some .int) ∈ jv_T := jv_in_ok (i := 2168) (by decide +kernel)
theorem jw_codeCH : Cond.code yJ0_charAt_5068e cJ0_charAt_5068e 2 (some .char) ∈ jv_T := jv_in_ok (i := 2178) (by decide +kernel)
theorem jw_codeCO : Cond.code yJ0_coder_7d493 cJ0_coder_7d493 1 (some .byte) ∈ jv_T := jv_in_ok (i := 2172) (by decide +kernel)
theorem jw_codeLA : Cond.code yJ0_isLatin1_aae02 cJ0_isLatin1_aae02 1 (some .boolean) ∈ jv_T := jv_in_ok (i := 2182) (by decide +kernel)
theorem jw_codeCI : Cond.code yJ0_checkIndex_df160 cJ0_checkIndex_df160 2 none ∈ jv_T := jv_in_ok (i := 2188) (by decide +kernel)
theorem jw_codeC1 : Cond.code yJ1_charAt_3b067 cJ1_charAt_3b067 2 (some .char) ∈ jv_T := jv_in_ok (i := 2185) (by decide +kernel)
theorem jw_codeC3 : Cond.code yJ3_checkIndex_8e157 cJ3_checkIndex_8e157 3 (some .int) ∈ jv_T := jv_in_ok (i := 2193) (by decide +kernel)
theorem jw_insLEN : Cond.instanceMethod yJ0_length_8abf5 ∈ jv_T := jv_in_ok (i := 2166) (by decide +kernel)
theorem jw_selLEN : Cond.selects RJ0 yJ0_length_8abf5 yJ0_length_8abf5 ∈ jv_T := jv_in_ok (i := 2167) (by decide +kernel)
theorem jw_insCH : Cond.instanceMethod yJ0_charAt_5068e ∈ jv_T := jv_in_ok (i := 2176) (by decide +kernel)
theorem jw_selCH : Cond.selects RJ0 yJ0_charAt_5068e yJ0_charAt_5068e ∈ jv_T := jv_in_ok (i := 2177) (by decide +kernel)
theorem jw_insCO : Cond.instanceMethod yJ0_coder_7d493 ∈ jv_T := jv_in_ok (i := 2170) (by decide +kernel)
theorem jw_selCO : Cond.selects RJ0 yJ0_coder_7d493 yJ0_coder_7d493 ∈ jv_T := jv_in_ok (i := 2171) (by decide +kernel)
theorem jw_insLA : Cond.instanceMethod yJ0_isLatin1_aae02 ∈ jv_T := jv_in_ok (i := 2180) (by decide +kernel)
theorem jw_selLA : Cond.selects RJ0 yJ0_isLatin1_aae02 yJ0_isLatin1_aae02 ∈ jv_T := jv_in_ok (i := 2181) (by decide +kernel)
theorem jw_staCI : Cond.static yJ0_checkIndex_df160 ∈ jv_T := jv_in_ok (i := 2187) (by decide +kernel)
theorem jw_staC1 : Cond.static yJ1_charAt_3b067 ∈ jv_T := jv_in_ok (i := 2184) (by decide +kernel)
theorem jw_staC3 : Cond.static yJ3_checkIndex_8e157 ∈ jv_T := jv_in_ok (i := 2192) (by decide +kernel)
theorem jw_ini0 : Cond.initialized RJ0 ∈ jv_T := jv_in_ok (i := 1034) (by decide +kernel)
theorem jw_ini1 : Cond.initialized RJ1 ∈ jv_T := jv_in_ok (i := 1035) (by decide +kernel)
theorem jw_ini3 : Cond.initialized RJ3 ∈ jv_T := jv_in_ok (i := 1036) (by decide +kernel)
theorem jw_lCO : Cond.methodLink RJ0 335 yJ0_coder_7d493 ∈ jv_T := jv_in_ok (i := 2169) (by decide +kernel)
theorem jw_lLA : Cond.methodLink RJ0 492 yJ0_isLatin1_aae02 ∈ jv_T := jv_in_ok (i := 2179) (by decide +kernel)
theorem jw_lC1 : Cond.methodLink RJ0 495 yJ1_charAt_3b067 ∈ jv_T := jv_in_ok (i := 2183) (by decide +kernel)
theorem jw_lCI : Cond.methodLink RJ1 9 yJ0_checkIndex_df160 ∈ jv_T := jv_in_ok (i := 2186) (by decide +kernel)
theorem jw_lC3 : Cond.methodLink RJ0 1059 yJ3_checkIndex_8e157 ∈ jv_T := jv_in_ok (i := 2191) (by decide +kernel)
theorem jw_fV : Cond.fieldLink RJ0 9 "java/lang/String" "value" "[B" ∈ jv_T := jv_in_ok (i := 7199) (by decide +kernel)
theorem jw_fC : Cond.fieldLink RJ0 15 "java/lang/String" "coder" "B" ∈ jv_T := jv_in_ok (i := 7200) (by decide +kernel)
theorem jw_fS : Cond.fieldLink RJ0 38 "java/lang/String" "COMPACT_STRINGS" "Z" ∈ jv_T := jv_in_ok (i := 2173) (by decide +kernel)
theorem jw_fF : Cond.fieldLink RJ0 1053 "jdk/internal/util/Preconditions" "SIOOBE_FORMATTER" "Ljava/util/function/BiFunction;" ∈ jv_T := jv_in_ok (i := 2189) (by decide +kernel)
theorem dJ0_length_8abf5_0 : decode cJ0_length_8abf5 0 = .ok (.aload_n 0, 1) := by decide +kernel
theorem dJ0_length_8abf5_1 : decode cJ0_length_8abf5 1 = .ok (.getfield 9, 3) := by decide +kernel
theorem dJ0_length_8abf5_4 : decode cJ0_length_8abf5 4 = .ok (.arraylength, 1) := by decide +kernel
theorem dJ0_length_8abf5_5 : decode cJ0_length_8abf5 5 = .ok (.aload_n 0, 1) := by decide +kernel
theorem dJ0_length_8abf5_6 : decode cJ0_length_8abf5 6 = .ok (.invokevirtual 335, 3) := by decide +kernel
theorem dJ0_length_8abf5_9 : decode cJ0_length_8abf5 9 = .ok (.ishr, 1) := by decide +kernel
theorem dJ0_length_8abf5_10 : decode cJ0_length_8abf5 10 = .ok (.ireturn, 1) := by decide +kernel
theorem dJ0_charAt_5068e_0 : decode cJ0_charAt_5068e 0 = .ok (.aload_n 0, 1) := by decide +kernel
theorem dJ0_charAt_5068e_1 : decode cJ0_charAt_5068e 1 = .ok (.invokevirtual 492, 3) := by decide +kernel
theorem dJ0_charAt_5068e_4 : decode cJ0_charAt_5068e 4 = .ok (.ifCond .eq 12, 3) := by decide +kernel
theorem dJ0_charAt_5068e_7 : decode cJ0_charAt_5068e 7 = .ok (.aload_n 0, 1) := by decide +kernel
theorem dJ0_charAt_5068e_8 : decode cJ0_charAt_5068e 8 = .ok (.getfield 9, 3) := by decide +kernel
theorem dJ0_charAt_5068e_11 : decode cJ0_charAt_5068e 11 = .ok (.iload_n 1, 1) := by decide +kernel
theorem dJ0_charAt_5068e_12 : decode cJ0_charAt_5068e 12 = .ok (.invokestatic 495, 3) := by decide +kernel
theorem dJ0_charAt_5068e_15 : decode cJ0_charAt_5068e 15 = .ok (.ireturn, 1) := by decide +kernel
theorem dJ0_charAt_5068e_16 : decode cJ0_charAt_5068e 16 = .ok (.aload_n 0, 1) := by decide +kernel
theorem dJ0_charAt_5068e_17 : decode cJ0_charAt_5068e 17 = .ok (.getfield 9, 3) := by decide +kernel
theorem dJ0_charAt_5068e_20 : decode cJ0_charAt_5068e 20 = .ok (.iload_n 1, 1) := by decide +kernel
theorem dJ0_charAt_5068e_21 : decode cJ0_charAt_5068e 21 = .ok (.invokestatic 498, 3) := by decide +kernel
theorem dJ0_charAt_5068e_24 : decode cJ0_charAt_5068e 24 = .ok (.ireturn, 1) := by decide +kernel
theorem dJ0_coder_7d493_0 : decode cJ0_coder_7d493 0 = .ok (.getstatic 38, 3) := by decide +kernel
theorem dJ0_coder_7d493_3 : decode cJ0_coder_7d493 3 = .ok (.ifCond .eq 10, 3) := by decide +kernel
theorem dJ0_coder_7d493_6 : decode cJ0_coder_7d493 6 = .ok (.aload_n 0, 1) := by decide +kernel
theorem dJ0_coder_7d493_7 : decode cJ0_coder_7d493 7 = .ok (.getfield 15, 3) := by decide +kernel
theorem dJ0_coder_7d493_10 : decode cJ0_coder_7d493 10 = .ok (.goto 4, 3) := by decide +kernel
theorem dJ0_coder_7d493_13 : decode cJ0_coder_7d493 13 = .ok (.iconst 1, 1) := by decide +kernel
theorem dJ0_coder_7d493_14 : decode cJ0_coder_7d493 14 = .ok (.ireturn, 1) := by decide +kernel
theorem dJ0_isLatin1_aae02_0 : decode cJ0_isLatin1_aae02 0 = .ok (.getstatic 38, 3) := by decide +kernel
theorem dJ0_isLatin1_aae02_3 : decode cJ0_isLatin1_aae02 3 = .ok (.ifCond .eq 14, 3) := by decide +kernel
theorem dJ0_isLatin1_aae02_6 : decode cJ0_isLatin1_aae02 6 = .ok (.aload_n 0, 1) := by decide +kernel
theorem dJ0_isLatin1_aae02_7 : decode cJ0_isLatin1_aae02 7 = .ok (.getfield 15, 3) := by decide +kernel
theorem dJ0_isLatin1_aae02_10 : decode cJ0_isLatin1_aae02 10 = .ok (.ifCond .ne 7, 3) := by decide +kernel
theorem dJ0_isLatin1_aae02_13 : decode cJ0_isLatin1_aae02 13 = .ok (.iconst 1, 1) := by decide +kernel
theorem dJ0_isLatin1_aae02_14 : decode cJ0_isLatin1_aae02 14 = .ok (.goto 4, 3) := by decide +kernel
theorem dJ0_isLatin1_aae02_17 : decode cJ0_isLatin1_aae02 17 = .ok (.iconst 0, 1) := by decide +kernel
theorem dJ0_isLatin1_aae02_18 : decode cJ0_isLatin1_aae02 18 = .ok (.ireturn, 1) := by decide +kernel
theorem dJ0_checkIndex_df160_0 : decode cJ0_checkIndex_df160 0 = .ok (.iload_n 0, 1) := by decide +kernel
theorem dJ0_checkIndex_df160_1 : decode cJ0_checkIndex_df160 1 = .ok (.iload_n 1, 1) := by decide +kernel
theorem dJ0_checkIndex_df160_2 : decode cJ0_checkIndex_df160 2 = .ok (.getstatic 1053, 3) := by decide +kernel
theorem dJ0_checkIndex_df160_5 : decode cJ0_checkIndex_df160 5 = .ok (.invokestatic 1059, 3) := by decide +kernel
theorem dJ0_checkIndex_df160_8 : decode cJ0_checkIndex_df160 8 = .ok (.pop, 1) := by decide +kernel
theorem dJ0_checkIndex_df160_9 : decode cJ0_checkIndex_df160 9 = .ok (.return_, 1) := by decide +kernel
theorem dJ1_charAt_3b067_0 : decode cJ1_charAt_3b067 0 = .ok (.iload_n 1, 1) := by decide +kernel
theorem dJ1_charAt_3b067_1 : decode cJ1_charAt_3b067 1 = .ok (.aload_n 0, 1) := by decide +kernel
theorem dJ1_charAt_3b067_2 : decode cJ1_charAt_3b067 2 = .ok (.arraylength, 1) := by decide +kernel
theorem dJ1_charAt_3b067_3 : decode cJ1_charAt_3b067 3 = .ok (.invokestatic 9, 3) := by decide +kernel
theorem dJ1_charAt_3b067_6 : decode cJ1_charAt_3b067 6 = .ok (.aload_n 0, 1) := by decide +kernel
theorem dJ1_charAt_3b067_7 : decode cJ1_charAt_3b067 7 = .ok (.iload_n 1, 1) := by decide +kernel
theorem dJ1_charAt_3b067_8 : decode cJ1_charAt_3b067 8 = .ok (.baload, 1) := by decide +kernel
theorem dJ1_charAt_3b067_9 : decode cJ1_charAt_3b067 9 = .ok (.sipush 255, 3) := by decide +kernel
theorem dJ1_charAt_3b067_12 : decode cJ1_charAt_3b067 12 = .ok (.iand, 1) := by decide +kernel
theorem dJ1_charAt_3b067_13 : decode cJ1_charAt_3b067 13 = .ok (.i2c, 1) := by decide +kernel
theorem dJ1_charAt_3b067_14 : decode cJ1_charAt_3b067 14 = .ok (.ireturn, 1) := by decide +kernel
theorem dJ3_checkIndex_8e157_0 : decode cJ3_checkIndex_8e157 0 = .ok (.iload_n 0, 1) := by decide +kernel
theorem dJ3_checkIndex_8e157_1 : decode cJ3_checkIndex_8e157 1 = .ok (.ifCond .lt 8, 3) := by decide +kernel
theorem dJ3_checkIndex_8e157_4 : decode cJ3_checkIndex_8e157 4 = .ok (.iload_n 0, 1) := by decide +kernel
theorem dJ3_checkIndex_8e157_5 : decode cJ3_checkIndex_8e157 5 = .ok (.iload_n 1, 1) := by decide +kernel
theorem dJ3_checkIndex_8e157_6 : decode cJ3_checkIndex_8e157 6 = .ok (.if_icmp .lt 10, 3) := by decide +kernel
theorem dJ3_checkIndex_8e157_9 : decode cJ3_checkIndex_8e157 9 = .ok (.aload_n 2, 1) := by decide +kernel
theorem dJ3_checkIndex_8e157_10 : decode cJ3_checkIndex_8e157 10 = .ok (.iload_n 0, 1) := by decide +kernel
theorem dJ3_checkIndex_8e157_11 : decode cJ3_checkIndex_8e157 11 = .ok (.iload_n 1, 1) := by decide +kernel
theorem dJ3_checkIndex_8e157_12 : decode cJ3_checkIndex_8e157 12 = .ok (.invokestatic 95, 3) := by decide +kernel
theorem dJ3_checkIndex_8e157_15 : decode cJ3_checkIndex_8e157 15 = .ok (.athrow, 1) := by decide +kernel
theorem dJ3_checkIndex_8e157_16 : decode cJ3_checkIndex_8e157 16 = .ok (.iload_n 0, 1) := by decide +kernel
theorem dJ3_checkIndex_8e157_17 : decode cJ3_checkIndex_8e157 17 = .ok (.ireturn, 1) := by decide +kernel
theorem jv_getD_mem {bl : List Int32} {n : Nat} (h : n < bl.length) : bl.getD n 0 ∈ bl := by
  rw [List.getD_eq_getElem?_getD, List.getElem?_eq_getElem h]
  exact List.getElem_mem h
theorem jv_byt_ok : ∀ i, i < 20 → jv_lens.getD i 0 = (jv_byt.getD i []).length ∧ (jv_byt.getD i []).length < 100 ∧ Int32.ofNat (jv_byt.getD i []).length >>> ((0 : Int32) &&& 31) = Int32.ofNat (jv_byt.getD i []).length ∧ ∀ x ∈ jv_byt.getD i [], ((x &&& 255).toUInt32 % 65536).toInt32 = x ∧ narrow .char (.int x) = .int x := by decide +kernel
section JST
variable {p : Program} {l : Launch} {e : Env} {R : Room} {s : State} {m : MethodId} {args : Array Value} {below : List Frame} {meth : Method} {c : Code} {H : Heap} {locs : List Loc} {cells slots : Nat} {Q : State → Prop}
variable {cc : ByteArray} {pc nL : Nat} {ls : Array Slot} {D : va_G} {dA : Nat → ClassId} {G : jv_G} {adV : Nat → Nat} {L : Nat} {xs : Nat → Int32}
def jv_Pr (D : va_G) (dA : Nat → ClassId) (G : jv_G) (adV : Nat → Nat) (L : Nat) (xs : Nat → Int32) (a : List Value) (h : jv_H) : Array Value → State → Prop := fun v U => v = a.toArray ∧ jv_Rep D dA G L xs h U.heap ∧ jv_Kn D dA G adV L xs U
theorem jv_blindR {a : List Value} {h : jv_H} : FrameBlind (jv_Pr D dA G adV L xs a h) := fun v U g mk hp => ⟨hp.1, hp.2.1, jv_Kn.same (u := U) (U := U.calling g mk v) rfl rfl hp.2.2⟩
/-- a static method of the JDK's is called -/
theorem jv_jS {own : String} (S : CallFix p m c cc nL s args jv_T own) (hK : jv_Kn D dA G adV L xs s) {h : jv_H} (hR : jv_Rep D dA G L xs h H) (hS : va_S (fun q => G.1 ≤ q) s.heap H locs) {y : MethodName} {bytes : ByteArray} {maxL index n f lo : Nat} {ret : Option FieldType} {As rest : List Value} {r : Option Value}
    (hM : Met l y (Cond.code y bytes maxL ret :: jv_T) ({ frames := f, cells := 0, slots := 0, locals := lo } : Room) (jv_Pr D dA G adV L xs As h) (jv_Qc D dA G L xs r h) 0 0 (fun q => G.1 ≤ q)) (w1 : Cond.code y bytes maxL ret ∈ jv_T) (w2 : Cond.initialized y.cls ∈ jv_T) (w3 : Cond.methodLink own index y ∈ jv_T) (w4 : Cond.static y ∈ jv_T)
    (hd : y.cls ≠ "java/lang/invoke/MethodHandle" ∧ y.cls ≠ "java/lang/invoke/VarHandle" ∧ (parseMethodDescriptor y.desc).map (fun d => d.parameters.length) = some n) (hRm : f + 1 ≤ R.frames ∧ 8 + (maxL + 11) + lo ≤ R.locals) (hn : As.length = n) (hsz : ls.size = nL) (hWd : jv_wd rest ≤ 8) (hdg : decode cc pc = .ok (.invokestatic index, 3)) (hf : cells ≤ R.cells ∧ slots ≤ R.slots)
    {st : List Value} (hst : st = As.reverse ++ rest)
    (kk : ∀ (H1 : Heap) (locs1 : List Loc), jv_Rep D dA G L xs h H1 → va_S (fun q => G.1 ≤ q) s.heap H1 locs1 → W p l e R s m args below meth c H1 locs1 cells slots Q (F0 m (pc + 3) ls ((r.map (jv_vl (jv_ad G))).toList ++ rest))) : W p l e R s m args below meth c H locs cells slots Q (F0 m pc ls st) := by
  have hts := S.2.2.2.2
  exact jv_back (va_runS S hM ⟨callB_of n hts (jv_good w1) rfl rfl rfl (hts _ w2) (hts _ w3) hd hRm, hts _ w4⟩ ⟨jv_blindR, fun U hU hW => ⟨rfl, by rw [hU]; exact hR, hK.next (by rw [hU]; exact hS) hW⟩⟩ rfl hn hsz hst (by show 2 * 0 + _ ≤ 8; unfold jv_wd at hWd; omega) hdg ⟨hf.1, hf.2⟩) hS kk
/-- a virtual method of String's is called -/
theorem jv_jV {own C : String} (S : CallFix p m c cc nL s args jv_T own) (hK : jv_Kn D dA G adV L xs s) {h : jv_H} (hR : jv_Rep D dA G L xs h H) (hS : va_S (fun q => G.1 ≤ q) s.heap H locs) {y : MethodName} {bytes : ByteArray} {maxL index n f lo b : Nat} {ret : Option FieldType} {As rest : List Value} {r : Option Value}
    (hM : Met l y (Cond.code y bytes maxL ret :: jv_T) ({ frames := f, cells := 0, slots := 0, locals := lo } : Room) (jv_Pr D dA G adV L xs (.ref b :: As) h) (jv_Qc D dA G L xs r h) 0 0 (fun q => G.1 ≤ q)) (w1 : Cond.code y bytes maxL ret ∈ jv_T) (w2 : Cond.initialized y.cls ∈ jv_T) (w3 : Cond.methodLink own index y ∈ jv_T) (w4 : Cond.instanceMethod y ∈ jv_T) (w5 : Cond.selects C y y ∈ jv_T)
    (hrv : ∃ cell : Cell, H[b]? = some cell ∧ cell.vm.isStatics = false ∧ s.vm.findClass C = some cell.cls)
    (hd : y.cls ≠ "java/lang/invoke/MethodHandle" ∧ y.cls ≠ "java/lang/invoke/VarHandle" ∧ (parseMethodDescriptor y.desc).map (fun d => d.parameters.length) = some n) (hRm : f + 1 ≤ R.frames ∧ 8 + (maxL + 11) + lo ≤ R.locals) (hn : As.length = n) (hsz : ls.size = nL) (hWd : jv_wd rest ≤ 8) (hdg : decode cc pc = .ok (.invokevirtual index, 3)) (hf : cells ≤ R.cells ∧ slots ≤ R.slots)
    {st : List Value} (hst : st = As.reverse ++ .ref b :: rest)
    (kk : ∀ (H1 : Heap) (locs1 : List Loc), jv_Rep D dA G L xs h H1 → va_S (fun q => G.1 ≤ q) s.heap H1 locs1 → W p l e R s m args below meth c H1 locs1 cells slots Q (F0 m (pc + 3) ls ((r.map (jv_vl (jv_ad G))).toList ++ rest))) : W p l e R s m args below meth c H locs cells slots Q (F0 m pc ls st) := by
  have hts := S.2.2.2.2
  exact jv_back (va_runV S hM ⟨callB_of n hts (jv_good w1) rfl rfl rfl (hts _ w2) (hts _ w3) hd hRm, hts _ w4, hts _ w5⟩ ⟨jv_blindR, hrv, fun U hU hW => ⟨rfl, by rw [hU]; exact hR, hK.next (by rw [hU]; exact hS) hW⟩⟩ rfl hn hsz hst (by show 2 * 0 + _ ≤ 8; unfold jv_wd at hWd; omega) hdg ⟨hf.1, hf.2⟩) hS kk
set_option maxRecDepth 100000 in
/-- Preconditions.checkIndex -/
theorem jv_metC3 (i n : Int32) (w : Value) (hw : w.category = 1) (h0 : ¬ i < 0) (h1 : i < n) (h : jv_H) : Met l yJ3_checkIndex_8e157 (Cond.code yJ3_checkIndex_8e157 cJ3_checkIndex_8e157 3 (some .int) :: jv_T) ({ frames := 0, cells := 0, slots := 0, locals := 0 } : Room) (jv_Pr D dA G adV L xs [.int i, .int n, w] h) (jv_Qc D dA G L xs (some (.int i)) h) 0 0 (fun q => G.1 ≤ q) := by
  refine va_MetF (cc := cJ3_checkIndex_8e157) (maxL := 3) (ret := some .int) (ws' := jv_T) (by decide +kernel) rfl ?_
  intro p e s m args below meth c s₁ B hml hP
  obtain ⟨rfl, hR, hK⟩ := hP
  have hx := B.exec
  have hb := B.bytes
  have hr := B.returns
  have hlocks := B.notSynchronized
  rw [lg_entry_eq]
  have hl := lv_entry [.int i, .int n, w] (n := 3) (by rw [jv_sl _ (by intro v hv; simp at hv; rcases hv with rfl | rfl | rfl <;> first | rfl | exact hw)]; exact Nat.le_refl 3)
  generalize ((lg_sl [.int i, .int n, w] ++ List.replicate (3 - (lg_sl [.int i, .int n, w]).length) Slot.unset).toArray) = ls at hl ⊢
  have l0 : ls[0]? = some (.val (.int i)) := hl.2.2 (0, .int i) (by simp [lv_args])
  have l1 : ls[1]? = some (.val (.int n)) := hl.2.2 (1, .int n) (by simp [lv_args, Value.category])
  refine lv_iload_n hx hb dJ3_checkIndex_8e157_0 rfl l0 ?_
  refine lv_if_lt (tgt := 9) hx hb dJ3_checkIndex_8e157_1 (by decide) (fun q => absurd q h0) (fun _ => ?_)
  refine lv_iload_n hx hb dJ3_checkIndex_8e157_4 rfl l0 ?_
  refine lv_iload_n hx hb dJ3_checkIndex_8e157_5 rfl l1 ?_
  refine lv_icmp_lt (tgt := 16) hx hb dJ3_checkIndex_8e157_6 (by decide) (fun _ => ?_) (fun q => absurd h1 q)
  refine lv_iload_n hx hb dJ3_checkIndex_8e157_16 rfl l0 ?_
  exact W.iret hx hb hr (fun t ht _ => ⟨rfl, by rw [ht]; exact hR, (va_S.rf (A := fun q => G.1 ≤ q)).F ht⟩) (fun q hq => by cases hq) dJ3_checkIndex_8e157_17
set_option maxRecDepth 100000 in
/-- String.checkIndex -/
theorem jv_metCI (i n : Int32) (h0 : ¬ i < 0) (h1 : i < n) (h : jv_H) : Met l yJ0_checkIndex_df160 (Cond.code yJ0_checkIndex_df160 cJ0_checkIndex_df160 2 none :: jv_T) ({ frames := 1, cells := 0, slots := 0, locals := 22 } : Room) (jv_Pr D dA G adV L xs [.int i, .int n] h) (jv_Qc D dA G L xs none h) 0 0 (fun q => G.1 ≤ q) := by
  refine va_MetF (cc := cJ0_checkIndex_df160) (maxL := 2) (ret := none) (ws' := jv_T) (by decide +kernel) rfl ?_
  intro p e s m args below meth c s₁ B hml hP
  obtain ⟨rfl, hR, hK⟩ := hP
  have hx := B.exec
  have hb := B.bytes
  have hr := B.returns
  have hlocks := B.notSynchronized
  have hts : ∀ w ∈ jv_T, w.before [Value.int i, .int n].toArray s = true := fun w hw => atoms_spec (ws := Cond.code yJ0_checkIndex_df160 cJ0_checkIndex_df160 2 none :: jv_T) B.pre w (List.mem_cons_of_mem _ hw)
  have hown : s.vm.findClass RJ0 = some m.cls := findClass_of_methodNamed B.named
  rw [lg_entry_eq]
  have hl := lv_entry [.int i, .int n] (n := 2) (Nat.le_of_ble_eq_true rfl)
  generalize ((lg_sl [.int i, .int n] ++ List.replicate (2 - (lg_sl [.int i, .int n]).length) Slot.unset).toArray) = ls at hl ⊢
  have l0 : ls[0]? = some (.val (.int i)) := hl.2.2 (0, .int i) (by simp [lv_args])
  have l1 : ls[1]? = some (.val (.int n)) := hl.2.2 (1, .int n) (by simp [lv_args, Value.category])
  have hS : va_S (fun q => G.1 ≤ q) s.heap s.heap [] := va_S.rf
  obtain ⟨v, hv, hZ⟩ := hK.2.2.2.2.2.2.2.2.2.2
  have hvc : v.category = 1 := by rcases hv with rfl | ⟨a, rfl⟩ <;> rfl
  refine lv_iload_n hx hb dJ0_checkIndex_df160_0 rfl l0 ?_
  refine lv_iload_n hx hb dJ0_checkIndex_df160_1 rfl l1 ?_
  refine va_gets hx hb hZ hS hown (hts _ jw_fF) (fun _ q => q) dJ0_checkIndex_df160_2 ?_
  refine jv_jS (n := 3) (As := [.int i, .int n, v]) (rest := []) ⟨hx, hb, hml, hown, hts⟩ hK hR hS (jv_metC3 i n v hvc h0 h1 h) jw_codeC3 jw_ini3 jw_lC3 jw_staC3 (by decide +kernel) ⟨Nat.le_refl _, Nat.le_refl _⟩ rfl hl.1 (by decide) dJ0_checkIndex_df160_5 ⟨Nat.le_refl _, Nat.le_refl _⟩ rfl (fun H1 locs1 hR1 hS1 => ?_)
  refine lv_pop (va := .int i) hx hb dJ0_checkIndex_df160_8 rfl ?_
  exact W.vret hx hb hr (fun t ht _ => ⟨rfl, by rw [ht]; exact hR1, hS1.F ht⟩) hS1.2.2 dJ0_checkIndex_df160_9
set_option maxRecDepth 100000 in
/-- StringLatin1.charAt over the bytes of text k -/
theorem jv_metC1 (k : Nat) (j : Int32) (hk : k < 20) (hj : ¬ (j < 0 ∨ (jv_byt.getD k []).length ≤ j.toNatClampNeg)) (h : jv_H) : Met l yJ1_charAt_3b067 (Cond.code yJ1_charAt_3b067 cJ1_charAt_3b067 2 (some .char) :: jv_T) ({ frames := 2, cells := 0, slots := 0, locals := 43 } : Room) (jv_Pr D dA G adV L xs [.ref (adV k), .int j] h) (jv_Qc D dA G L xs (some (.int ((jv_byt.getD k []).getD j.toNatClampNeg 0))) h) 0 0 (fun q => G.1 ≤ q) := by
  obtain ⟨hlen, hlt, hsh, hch⟩ := jv_byt_ok k hk
  refine va_MetF (cc := cJ1_charAt_3b067) (maxL := 2) (ret := some .char) (ws' := jv_T) (by decide +kernel) rfl ?_
  intro p e s m args below meth c s₁ B hml hP
  obtain ⟨rfl, hR, hK⟩ := hP
  have hx := B.exec
  have hb := B.bytes
  have hr := B.returns
  have hlocks := B.notSynchronized
  have hts : ∀ w ∈ jv_T, w.before [Value.ref (adV k), .int j].toArray s = true := fun w hw => atoms_spec (ws := Cond.code yJ1_charAt_3b067 cJ1_charAt_3b067 2 (some .char) :: jv_T) B.pre w (List.mem_cons_of_mem _ hw)
  have hown : s.vm.findClass RJ1 = some m.cls := findClass_of_methodNamed B.named
  rw [lg_entry_eq]
  have hl := lv_entry [.ref (adV k), .int j] (n := 2) (Nat.le_of_ble_eq_true rfl)
  generalize ((lg_sl [.ref (adV k), .int j] ++ List.replicate (2 - (lg_sl [.ref (adV k), .int j]).length) Slot.unset).toArray) = ls at hl ⊢
  have l0 : ls[0]? = some (.val (.ref (adV k))) := hl.2.2 (0, .ref (adV k)) (by simp [lv_args])
  have l1 : ls[1]? = some (.val (.int j)) := hl.2.2 (1, .int j) (by simp [lv_args, Value.category])
  have hS : va_S (fun q => G.1 ≤ q) s.heap s.heap [] := va_S.rf
  have hT := (hK.2.2.2.2.1.1 k hk).2.2.2
  rw [hlen] at hT
  have hj0 : ¬ j < 0 := fun q => hj (Or.inl q)
  have hjn : j.toNatClampNeg < (jv_byt.getD k []).length := Nat.not_le.mp (fun q => hj (Or.inr q))
  have hj1 : j < Int32.ofNat (jv_byt.getD k []).length := by
    have e1 : (0 : Int) ≤ j.toInt := by
      have := Int32.not_lt.mp hj0
      simpa using Int32.le_iff_toInt_le.mp this
    have e2 : j.toInt = (j.toNatClampNeg : Int) := by
      show j.toInt = ((j.toInt.toNat : Nat) : Int)
      omega
    rw [Int32.lt_iff_toInt_lt, e2, show (Int32.ofNat (jv_byt.getD k []).length).toInt = ((jv_byt.getD k []).length : Int) from nI_toInt (by omega)]
    omega
  have hmem : (jv_byt.getD k []).getD j.toNatClampNeg 0 ∈ jv_byt.getD k [] := jv_getD_mem hjn
  obtain ⟨hc1, hc2⟩ := hch _ hmem
  refine lv_iload_n hx hb dJ1_charAt_3b067_0 rfl l1 ?_
  refine lv_aload_n hx hb dJ1_charAt_3b067_1 rfl l0 ?_
  refine va_tlen hx hb hT hS rfl dJ1_charAt_3b067_2 ?_
  refine jv_jS (n := 2) (As := [.int j, .int (Int32.ofNat (jv_byt.getD k []).length)]) (rest := []) ⟨hx, hb, hml, hown, hts⟩ hK hR hS (jv_metCI j _ hj0 hj1 h) jw_codeCI jw_ini0 jw_lCI jw_staCI (by decide +kernel) ⟨Nat.le_refl _, Nat.le_refl _⟩ rfl hl.1 (by decide) dJ1_charAt_3b067_3 ⟨Nat.le_refl _, Nat.le_refl _⟩ rfl (fun H1 locs1 hR1 hS1 => ?_)
  refine lv_aload_n hx hb dJ1_charAt_3b067_6 rfl l0 ?_
  refine lv_iload_n hx hb dJ1_charAt_3b067_7 rfl l1 ?_
  refine va_tb hx hb hT hS1 hj rfl dJ1_charAt_3b067_8 ?_
  refine lv_sipush (v := 255) hx hb dJ1_charAt_3b067_9 (by decide) ?_
  refine lv_iand hx hb dJ1_charAt_3b067_12 ?_
  refine lv_i2c hx hb dJ1_charAt_3b067_13 hc1 ?_
  exact W.zret hx hb hr hc2 (fun t ht _ => ⟨rfl, by rw [ht]; exact hR1, hS1.F ht⟩) hS1.2.2 dJ1_charAt_3b067_14
set_option maxRecDepth 100000 in
/-- String.coder of text k -/
theorem jv_metCO (k : Nat) (hk : k < 20) (h : jv_H) : Met l yJ0_coder_7d493 (Cond.code yJ0_coder_7d493 cJ0_coder_7d493 1 (some .byte) :: jv_T) ({ frames := 0, cells := 0, slots := 0, locals := 0 } : Room) (jv_Pr D dA G adV L xs [.ref (G.2.2 k)] h) (jv_Qc D dA G L xs (some (.int 0)) h) 0 0 (fun q => G.1 ≤ q) := by
  refine va_MetF (cc := cJ0_coder_7d493) (maxL := 1) (ret := some .byte) (ws' := jv_T) (by decide +kernel) rfl ?_
  intro p e s m args below meth c s₁ B hml hP
  obtain ⟨rfl, hR, hK⟩ := hP
  have hx := B.exec
  have hb := B.bytes
  have hr := B.returns
  have hlocks := B.notSynchronized
  have hts : ∀ w ∈ jv_T, w.before [Value.ref (G.2.2 k)].toArray s = true := fun w hw => atoms_spec (ws := Cond.code yJ0_coder_7d493 cJ0_coder_7d493 1 (some .byte) :: jv_T) B.pre w (List.mem_cons_of_mem _ hw)
  have hown : s.vm.findClass RJ0 = some m.cls := findClass_of_methodNamed B.named
  rw [lg_entry_eq]
  have hl := lv_entry [.ref (G.2.2 k)] (n := 1) (Nat.le_of_ble_eq_true rfl)
  generalize ((lg_sl [.ref (G.2.2 k)] ++ List.replicate (1 - (lg_sl [.ref (G.2.2 k)]).length) Slot.unset).toArray) = ls at hl ⊢
  have l0 : ls[0]? = some (.val (.ref (G.2.2 k))) := hl.2.2 (0, .ref (G.2.2 k)) (by simp [lv_args])
  have hS : va_S (fun q => G.1 ≤ q) s.heap s.heap [] := va_S.rf
  refine va_gets hx hb hK.2.2.2.2.2.2.2.2.2.1 hS hown (hts _ jw_fS) (fun _ q => q) dJ0_coder_7d493_0 ?_
  refine lv_if_eq (tgt := 13) hx hb dJ0_coder_7d493_3 (by decide) (fun q => absurd q (by decide)) (fun _ => ?_)
  refine lv_aload_n hx hb dJ0_coder_7d493_6 rfl l0 ?_
  refine vk_getf hx hb (hK.2.2.2.2.1.1 k hk).2.1 hS hown (hts _ jw_fC) (fun _ q => q) dJ0_coder_7d493_7 ?_
  refine lv_goto (tgt := 14) hx hb dJ0_coder_7d493_10 (by decide) ?_
  exact W.zret hx hb hr (by decide) (fun t ht _ => ⟨rfl, by rw [ht]; exact hR, hS.F ht⟩) (fun q hq => by cases hq) dJ0_coder_7d493_14
set_option maxRecDepth 100000 in
/-- String.isLatin1 of text k -/
theorem jv_metLA (k : Nat) (hk : k < 20) (h : jv_H) : Met l yJ0_isLatin1_aae02 (Cond.code yJ0_isLatin1_aae02 cJ0_isLatin1_aae02 1 (some .boolean) :: jv_T) ({ frames := 0, cells := 0, slots := 0, locals := 0 } : Room) (jv_Pr D dA G adV L xs [.ref (G.2.2 k)] h) (jv_Qc D dA G L xs (some (.int 1)) h) 0 0 (fun q => G.1 ≤ q) := by
  refine va_MetF (cc := cJ0_isLatin1_aae02) (maxL := 1) (ret := some .boolean) (ws' := jv_T) (by decide +kernel) rfl ?_
  intro p e s m args below meth c s₁ B hml hP
  obtain ⟨rfl, hR, hK⟩ := hP
  have hx := B.exec
  have hb := B.bytes
  have hr := B.returns
  have hlocks := B.notSynchronized
  have hts : ∀ w ∈ jv_T, w.before [Value.ref (G.2.2 k)].toArray s = true := fun w hw => atoms_spec (ws := Cond.code yJ0_isLatin1_aae02 cJ0_isLatin1_aae02 1 (some .boolean) :: jv_T) B.pre w (List.mem_cons_of_mem _ hw)
  have hown : s.vm.findClass RJ0 = some m.cls := findClass_of_methodNamed B.named
  rw [lg_entry_eq]
  have hl := lv_entry [.ref (G.2.2 k)] (n := 1) (Nat.le_of_ble_eq_true rfl)
  generalize ((lg_sl [.ref (G.2.2 k)] ++ List.replicate (1 - (lg_sl [.ref (G.2.2 k)]).length) Slot.unset).toArray) = ls at hl ⊢
  have l0 : ls[0]? = some (.val (.ref (G.2.2 k))) := hl.2.2 (0, .ref (G.2.2 k)) (by simp [lv_args])
  have hS : va_S (fun q => G.1 ≤ q) s.heap s.heap [] := va_S.rf
  refine va_gets hx hb hK.2.2.2.2.2.2.2.2.2.1 hS hown (hts _ jw_fS) (fun _ q => q) dJ0_isLatin1_aae02_0 ?_
  refine lv_if_eq (tgt := 17) hx hb dJ0_isLatin1_aae02_3 (by decide) (fun q => absurd q (by decide)) (fun _ => ?_)
  refine lv_aload_n hx hb dJ0_isLatin1_aae02_6 rfl l0 ?_
  refine vk_getf hx hb (hK.2.2.2.2.1.1 k hk).2.1 hS hown (hts _ jw_fC) (fun _ q => q) dJ0_isLatin1_aae02_7 ?_
  refine lv_if_ne (tgt := 17) hx hb dJ0_isLatin1_aae02_10 (by decide) (fun q => absurd rfl q) (fun _ => ?_)
  refine lv_iconst (v := 1) hx hb dJ0_isLatin1_aae02_13 (by decide) ?_
  refine lv_goto (tgt := 18) hx hb dJ0_isLatin1_aae02_14 (by decide) ?_
  exact W.zret hx hb hr (by decide) (fun t ht _ => ⟨rfl, by rw [ht]; exact hR, hS.F ht⟩) (fun q hq => by cases hq) dJ0_isLatin1_aae02_18
set_option maxRecDepth 100000 in
theorem jv_len_met : jv_LenMet l D dA G adV L xs := by
  intro k h hk
  obtain ⟨hlen, hlt, hsh, hch⟩ := jv_byt_ok k hk
  refine va_MetF (cc := cJ0_length_8abf5) (maxL := 1) (ret := some .int) (ws' := jv_T) (by decide +kernel) rfl ?_
  intro p e s m args below meth c s₁ B hml hP
  obtain ⟨hargs, hR, hK⟩ := hP
  have hargs2 : args = [Value.ref (G.2.2 k)].toArray := by
    rw [hargs]
    show [Value.ref (jv_ad G (1000001 + k))].toArray = _
    rw [jv_ad_txt]
  subst hargs2
  have hx := B.exec
  have hb := B.bytes
  have hr := B.returns
  have hlocks := B.notSynchronized
  have hts : ∀ w ∈ jv_T, w.before [Value.ref (G.2.2 k)].toArray s = true := fun w hw => atoms_spec (ws := Cond.code yJ0_length_8abf5 cJ0_length_8abf5 1 (some .int) :: jv_T) B.pre w (List.mem_cons_of_mem _ hw)
  have hown : s.vm.findClass RJ0 = some m.cls := findClass_of_methodNamed B.named
  rw [lg_entry_eq]
  have hl := lv_entry [.ref (G.2.2 k)] (n := 1) (Nat.le_of_ble_eq_true rfl)
  generalize ((lg_sl [.ref (G.2.2 k)] ++ List.replicate (1 - (lg_sl [.ref (G.2.2 k)]).length) Slot.unset).toArray) = ls at hl ⊢
  have l0 : ls[0]? = some (.val (.ref (G.2.2 k))) := hl.2.2 (0, .ref (G.2.2 k)) (by simp [lv_args])
  have hS : va_S (fun q => G.1 ≤ q) s.heap s.heap [] := va_S.rf
  have hT := (hK.2.2.2.2.1.1 k hk).2.2.2
  rw [hlen] at hT
  refine lv_aload_n hx hb dJ0_length_8abf5_0 rfl l0 ?_
  refine vk_getf hx hb (hK.2.2.2.2.1.1 k hk).2.2.1 hS hown (hts _ jw_fV) (fun _ q => q) dJ0_length_8abf5_1 ?_
  refine va_tlen hx hb hT hS rfl dJ0_length_8abf5_4 ?_
  refine lv_aload_n hx hb dJ0_length_8abf5_5 rfl l0 ?_
  refine jv_jV (n := 0) (C := RJ0) (As := []) (b := G.2.2 k) (rest := [.int (Int32.ofNat (jv_byt.getD k []).length)]) ⟨hx, hb, hml, hown, hts⟩ hK hR hS (jv_metCO k hk h) jw_codeCO jw_ini0 jw_lCO jw_insCO jw_selCO (vk_recv hK.2.2.2.2.1 hk hS) (by decide +kernel) ⟨by decide, by decide⟩ rfl hl.1 (Nat.le_of_ble_eq_true rfl) dJ0_length_8abf5_6 ⟨Nat.le_refl _, Nat.le_refl _⟩ rfl (fun H1 locs1 hR1 hS1 => ?_)
  refine lv_ishr (x := Int32.ofNat (jv_byt.getD k []).length) (y := 0) hx hb dJ0_length_8abf5_9 ?_
  rw [hsh]
  exact W.iret hx hb hr (fun t ht _ => ⟨rfl, by rw [ht]; exact hR1, hS1.F ht⟩) hS1.2.2 dJ0_length_8abf5_10
set_option maxRecDepth 100000 in
theorem jv_chr_met : jv_ChrMet l D dA G adV L xs := by
  intro k j h hk hj
  refine va_MetF (cc := cJ0_charAt_5068e) (maxL := 2) (ret := some .char) (ws' := jv_T) (by decide +kernel) rfl ?_
  intro p e s m args below meth c s₁ B hml hP
  obtain ⟨hargs, hR, hK⟩ := hP
  have hargs2 : args = [Value.ref (G.2.2 k), .int j].toArray := by
    rw [hargs]
    show [Value.ref (jv_ad G (1000001 + k)), .int j].toArray = _
    rw [jv_ad_txt]
  subst hargs2
  have hx := B.exec
  have hb := B.bytes
  have hr := B.returns
  have hlocks := B.notSynchronized
  have hts : ∀ w ∈ jv_T, w.before [Value.ref (G.2.2 k), .int j].toArray s = true := fun w hw => atoms_spec (ws := Cond.code yJ0_charAt_5068e cJ0_charAt_5068e 2 (some .char) :: jv_T) B.pre w (List.mem_cons_of_mem _ hw)
  have hown : s.vm.findClass RJ0 = some m.cls := findClass_of_methodNamed B.named
  rw [lg_entry_eq]
  have hl := lv_entry [.ref (G.2.2 k), .int j] (n := 2) (Nat.le_of_ble_eq_true rfl)
  generalize ((lg_sl [.ref (G.2.2 k), .int j] ++ List.replicate (2 - (lg_sl [.ref (G.2.2 k), .int j]).length) Slot.unset).toArray) = ls at hl ⊢
  have l0 : ls[0]? = some (.val (.ref (G.2.2 k))) := hl.2.2 (0, .ref (G.2.2 k)) (by simp [lv_args])
  have l1 : ls[1]? = some (.val (.int j)) := hl.2.2 (1, .int j) (by simp [lv_args, Value.category])
  have hS : va_S (fun q => G.1 ≤ q) s.heap s.heap [] := va_S.rf
  obtain ⟨hlen, hlt, hsh, hch⟩ := jv_byt_ok k hk
  have hjn : j.toNatClampNeg < (jv_byt.getD k []).length := Nat.not_le.mp (fun q => hj (Or.inr q))
  have hmem : (jv_byt.getD k []).getD j.toNatClampNeg 0 ∈ jv_byt.getD k [] := jv_getD_mem hjn
  refine lv_aload_n hx hb dJ0_charAt_5068e_0 rfl l0 ?_
  refine jv_jV (n := 0) (C := RJ0) (As := []) (b := G.2.2 k) (rest := []) ⟨hx, hb, hml, hown, hts⟩ hK hR hS (jv_metLA k hk h) jw_codeLA jw_ini0 jw_lLA jw_insLA jw_selLA (vk_recv hK.2.2.2.2.1 hk hS) (by decide +kernel) ⟨by decide, by decide⟩ rfl hl.1 (by decide) dJ0_charAt_5068e_1 ⟨Nat.le_refl _, Nat.le_refl _⟩ rfl (fun H1 locs1 hR1 hS1 => ?_)
  refine lv_if_eq (x := 1) (tgt := 16) hx hb dJ0_charAt_5068e_4 (by decide) (fun q => absurd q (by decide)) (fun _ => ?_)
  refine lv_aload_n hx hb dJ0_charAt_5068e_7 rfl l0 ?_
  refine vk_getf hx hb (hK.2.2.2.2.1.1 k hk).2.2.1 hS1 hown (hts _ jw_fV) (fun _ q => q) dJ0_charAt_5068e_8 ?_
  refine lv_iload_n hx hb dJ0_charAt_5068e_11 rfl l1 ?_
  refine jv_jS (n := 2) (As := [.ref (adV k), .int j]) (rest := []) ⟨hx, hb, hml, hown, hts⟩ hK hR1 hS1 (jv_metC1 k j hk hj h) jw_codeC1 jw_ini1 jw_lC1 jw_staC1 (by decide +kernel) ⟨by decide, by decide⟩ rfl hl.1 (by decide) dJ0_charAt_5068e_12 ⟨Nat.le_refl _, Nat.le_refl _⟩ rfl (fun H2 locs2 hR2 hS2 => ?_)
  exact W.zret hx hb hr (hch _ hmem).2 (fun t ht _ => ⟨rfl, by rw [ht]; exact hR2, hS2.F ht⟩) hS2.2.2 dJ0_charAt_5068e_15
end JST
end
