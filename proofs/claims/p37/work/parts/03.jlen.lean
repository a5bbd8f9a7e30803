section
/-- the length of an instruction (switches apart) -/
def jv_len (i : Instr) : Nat := match i with
  | .bipush _ | .iload _ | .istore _ | .aload _ | .astore _ | .dload _ | .dstore _ | .ldc _ | .newarray _ => 2
  | .sipush _ | .iinc _ _ | .getfield _ | .putfield _ | .invokestatic _ | .invokevirtual _ | .invokespecial _ | .ifCond _ _ | .if_icmp _ _ | .goto _ | .new _ | .anewarray _ => 3
  | _ => 1
def jv_sw (i : Instr) : Bool := match i with
  | .tableswitch _ _ _ _ => true
  | .lookupswitch _ _ => true
  | _ => false
def jv_ck1 (b : ByteArray) (pc : Nat) : List jv_I → Bool
  | [] => true
  | none :: l => jv_ck1 b (pc + 1) l
  | some (i, len) :: l => decide (decode b pc = .ok (i, len)) && (jv_sw i || decide (len = jv_len i)) && jv_ck1 b (pc + 1) l
def jv_ck2 (b : ByteArray) (pc : Nat) : List (List jv_I) → Bool
  | [] => true
  | c :: l => decide (c.length ≤ 16) && jv_ck1 b pc c && jv_ck2 b (pc + 16) l
def jv_ck3 (y : Nat) : List (List (List jv_I)) → Bool
  | [] => true
  | c :: l => jv_ck2 (jv_ym y).2.1 0 c && jv_ck3 (y + 1) l
theorem jv_nil {α : Type} (n : Nat) : jv_nth ([] : List α) n = none := by cases n <;> rfl
theorem jv_ck1_of {b : ByteArray} {i : Instr} {len : Nat} : ∀ (l : List jv_I) (pc r : Nat), jv_ck1 b pc l = true → jv_nth l r = some (some (i, len)) → decode b (pc + r) = .ok (i, len) ∧ (jv_sw i = true ∨ len = jv_len i)
  | [], pc, r, _, h2 => by rw [jv_nil] at h2; cases h2
  | none :: l, pc, 0, h1, h2 => by cases h2
  | none :: l, pc, r + 1, h1, h2 => by
    have h3 := jv_ck1_of l (pc + 1) r h1 h2
    rw [show pc + (r + 1) = pc + 1 + r by omega]
    exact h3
  | some (j, len') :: l, pc, 0, h1, h2 => by
    simp only [jv_ck1, Bool.and_eq_true, decide_eq_true_eq, Bool.or_eq_true] at h1
    have h3 : some (some (j, len')) = some (some (i, len)) := h2
    cases h3
    exact ⟨h1.1.1, h1.1.2⟩
  | some (j, len') :: l, pc, r + 1, h1, h2 => by
    simp only [jv_ck1, Bool.and_eq_true] at h1
    have h3 := jv_ck1_of l (pc + 1) r h1.2 h2
    rw [show pc + (r + 1) = pc + 1 + r by omega]
    exact h3
theorem jv_ck2_of {b : ByteArray} {i : Instr} {len : Nat} {c : List jv_I} : ∀ (l : List (List jv_I)) (pc q r : Nat), jv_ck2 b pc l = true → jv_nth l q = some c → jv_nth c r = some (some (i, len)) → decode b (pc + 16 * q + r) = .ok (i, len) ∧ (jv_sw i = true ∨ len = jv_len i)
  | [], pc, q, r, _, h2, _ => by rw [jv_nil] at h2; cases h2
  | d :: l, pc, 0, r, h1, h2, h3 => by
    simp only [jv_ck2, Bool.and_eq_true] at h1
    have h4 : some d = some c := h2
    cases h4
    exact jv_ck1_of _ pc r h1.1.2 h3
  | d :: l, pc, q + 1, r, h1, h2, h3 => by
    simp only [jv_ck2, Bool.and_eq_true] at h1
    have h4 := jv_ck2_of l (pc + 16) q r h1.2 h2 h3
    rw [show pc + 16 * (q + 1) + r = pc + 16 + 16 * q + r by omega]
    exact h4
theorem jv_ck3_of {c : List (List jv_I)} : ∀ (l : List (List (List jv_I))) (y q : Nat), jv_ck3 y l = true → jv_nth l q = some c → jv_ck2 (jv_ym (y + q)).2.1 0 c = true
  | [], y, q, _, h2 => by rw [jv_nil] at h2; cases h2
  | d :: l, y, 0, h1, h2 => by
    simp only [jv_ck3, Bool.and_eq_true] at h1
    have h4 : some d = some c := h2
    cases h4
    exact h1.1
  | d :: l, y, q + 1, h1, h2 => by
    simp only [jv_ck3, Bool.and_eq_true] at h1
    rw [show y + (q + 1) = y + 1 + q by omega]
    exact jv_ck3_of l (y + 1) q h1.2 h2
def jv_ck4 (y : Nat) : List (List (List (List jv_I))) → Bool
  | [] => true
  | c :: l => jv_ck3 y c && jv_ck4 (y + 16) l
theorem jv_ck4_of {a : List (List (List jv_I))} : ∀ (l : List (List (List (List jv_I)))) (y q : Nat), jv_ck4 y l = true → jv_nth l q = some a → jv_ck3 (y + 16 * q) a = true
  | [], y, q, _, h2 => by rw [jv_nil] at h2; cases h2
  | d :: l, y, 0, h1, h2 => by
    simp only [jv_ck4, Bool.and_eq_true] at h1
    have h4 : some d = some a := h2
    cases h4
    exact h1.1
  | d :: l, y, q + 1, h1, h2 => by
    simp only [jv_ck4, Bool.and_eq_true] at h1
    rw [show y + 16 * (q + 1) = y + 16 + 16 * q by omega]
    exact jv_ck4_of l (y + 16) q h1.2 h2
theorem jv_and {a b : Bool} (h1 : a = true) (h2 : b = true) : (a && b) = true := by rw [h1, h2]; rfl
theorem jv_ck2_app {b : ByteArray} : ∀ (l1 l2 : List (List jv_I)) (pc : Nat), jv_ck2 b pc (l1 ++ l2) = (jv_ck2 b pc l1 && jv_ck2 b (pc + 16 * l1.length) l2)
  | [], l2, pc => by simp [jv_ck2]
  | c :: l1, l2, pc => by
    show (decide (c.length ≤ 16) && jv_ck1 b pc c && jv_ck2 b (pc + 16) (l1 ++ l2)) = (decide (c.length ≤ 16) && jv_ck1 b pc c && jv_ck2 b (pc + 16) l1 && jv_ck2 b (pc + 16 * (l1.length + 1)) l2)
    rw [jv_ck2_app l1 l2 (pc + 16), show pc + 16 + 16 * l1.length = pc + 16 * (l1.length + 1) by omega]
    simp only [Bool.and_assoc]
end
section
/-! A METHOD'S CODE CHECKED BY ITS BYTES AS A LIST (in an array each place costs its number): printed by wip/gen/fast.py -/
def fd_F (p : Nat) : {F : Nat → Decoder Instr // Decoder.instr p = Reader.u1 >>= F} := ⟨_, rfl⟩
theorem fd_u1 {b : ByteArray} {p : Nat} {x : UInt8} {r : List UInt8} (h : b.data.toList.drop p = x :: r) : Reader.runAt (Reader.u1 : Decoder Nat) b p = .ok (x.toNat, p + 1) ∧ b.data.toList.drop (p + 1) = r := by
  have hp : p < b.data.toList.length := by
    rcases Nat.lt_or_ge p b.data.toList.length with q | q
    · exact q
    · rw [List.drop_eq_nil_of_le q] at h; cases h
  have h2 := List.drop_eq_getElem_cons hp
  rw [h] at h2
  have e1 : x = b.data.toList[p] := (List.cons.inj h2).1
  have e2 : r = b.data.toList.drop (p + 1) := (List.cons.inj h2).2
  refine ⟨?_, e2.symm⟩
  have hs : p < b.size := hp
  show (if h : p < b.size then (do set (p + 1); pure (b[p]'h).toNat) else throw (HasTruncated.truncated p) : Decoder Nat) b p = _
  rw [dif_pos hs]
  show (Except.ok ((b[p]'hs).toNat, p + 1) : Except DecodeError (Nat × Nat)) = _
  rw [e1]
  rfl
theorem fd_u2 {b : ByteArray} {p : Nat} {x y : UInt8} {r : List UInt8} (h : b.data.toList.drop p = x :: y :: r) : Reader.runAt (Reader.u2 : Decoder Nat) b p = .ok (x.toNat * 256 + y.toNat, p + 2) := by
  obtain ⟨h1, h2⟩ := fd_u1 h
  have h3 := (fd_u1 h2).1
  show Except.bind (Reader.runAt (Reader.u1 : Decoder Nat) b p) (fun v => Except.bind (Reader.runAt (Reader.u1 : Decoder Nat) b v.2) (fun w => .ok (v.1 * 256 + w.1, w.2))) = _
  rw [h1]
  show Except.bind (Reader.runAt (Reader.u1 : Decoder Nat) b (p + 1)) (fun w => .ok (x.toNat * 256 + w.1, w.2)) = _
  rw [h3]
  rfl
theorem fd_s1 {b : ByteArray} {p : Nat} {x : UInt8} {r : List UInt8} (h : b.data.toList.drop p = x :: r) : Reader.runAt (Reader.s1 : Decoder Int) b p = .ok (Reader.signed 8 x.toNat, p + 1) := by
  show Except.bind (Reader.runAt (Reader.u1 : Decoder Nat) b p) (fun v => .ok (Reader.signed 8 v.1, v.2)) = _
  rw [(fd_u1 h).1]
  rfl
theorem fd_s2 {b : ByteArray} {p : Nat} {x y : UInt8} {r : List UInt8} (h : b.data.toList.drop p = x :: y :: r) : Reader.runAt (Reader.s2 : Decoder Int) b p = .ok (Reader.signed 16 (x.toNat * 256 + y.toNat), p + 2) := by
  show Except.bind (Reader.runAt (Reader.u2 : Decoder Nat) b p) (fun v => .ok (Reader.signed 16 v.1, v.2)) = _
  rw [fd_u2 h]
  rfl
theorem fd_go {b : ByteArray} {p k q : Nat} {i : Instr} (h1 : Reader.runAt (Reader.u1 : Decoder Nat) b p = .ok (k, p + 1)) (h2 : Reader.runAt ((fd_F p).1 k) b (p + 1) = .ok (i, p + 1 + q)) : decode b p = .ok (i, q + 1) := by
  unfold decode
  rw [(fd_F p).2]
  show Except.bind (Except.bind (Reader.runAt (Reader.u1 : Decoder Nat) b p) (fun v => Reader.runAt ((fd_F p).1 v.1) b v.2)) (fun v => .ok (v.1, v.2 - p)) = _
  rw [h1]
  show Except.bind (Reader.runAt ((fd_F p).1 k) b (p + 1)) (fun v => .ok (v.1, v.2 - p)) = _
  rw [h2]
  show Except.ok (i, p + 1 + q - p) = _
  rw [show p + 1 + q - p = q + 1 by omega]
theorem fd_map {α : Type} {m : Decoder α} {g : α → Instr} {b : ByteArray} {q q' : Nat} {a : α} (h : Reader.runAt m b q = .ok (a, q')) : Reader.runAt (m >>= fun v => pure (g v)) b q = .ok (g a, q') := by
  show Except.bind (Reader.runAt m b q) (fun v => .ok (g v.1, v.2)) = _
  rw [h]
  rfl
theorem fd_map2 {m : Decoder Nat} {m' : Decoder Int} {g : Nat → Int → Instr} {b : ByteArray} {q q' q'' : Nat} {a : Nat} {c : Int} (h : Reader.runAt m b q = .ok (a, q')) (h' : Reader.runAt m' b q' = .ok (c, q'')) : Reader.runAt (m >>= fun v => m' >>= fun w => pure (g v w)) b q = .ok (g a c, q'') := by
  show Except.bind (Reader.runAt m b q) (fun v => Except.bind (Reader.runAt m' b v.2) (fun w => .ok (g v.1 w.1, w.2))) = _
  rw [h]
  show Except.bind (Reader.runAt m' b q') (fun w => .ok (g a w.1, w.2)) = _
  rw [h']
  rfl
def fd_ic : Int → Nat
  | .ofNat 0 => 3
  | .ofNat 1 => 4
  | .ofNat 2 => 5
  | .ofNat 3 => 6
  | .ofNat 4 => 7
  | .ofNat 5 => 8
  | .negSucc 0 => 2
  | _ => 256
def fd_cn : ClassFile.Cond → Nat
  | .eq => 0
  | .ne => 1
  | .lt => 2
  | .ge => 3
  | .gt => 4
  | .le => 5
/-- the first byte (256: not looked at here) -/
def fd_op (i : Instr) : Nat := match i with
  | .ireturn => 172
  | .iaload => 46
  | .iadd => 96
  | .pop => 87
  | .return_ => 177
  | .isub => 100
  | .iastore => 79
  | .dup => 89
  | .imul => 104
  | .idiv => 108
  | .irem => 112
  | .dup2 => 92
  | .arraylength => 190
  | .ineg => 116
  | .iand => 126
  | .i2f => 134
  | .i2d => 135
  | .bastore => 84
  | .aaload => 50
  | .ishr => 122
  | .aastore => 83
  | .freturn => 174
  | .fdiv => 110
  | .f2d => 141
  | .dreturn => 175
  | .ddiv => 111
  | .baload => 51
  | .areturn => 176
  | .ixor => 130
  | .ishl => 120
  | .ior => 128
  | .iload _ => 21
  | .dload _ => 24
  | .aload _ => 25
  | .istore _ => 54
  | .dstore _ => 57
  | .astore _ => 58
  | .ldc _ => 18
  | .getfield _ => 180
  | .putfield _ => 181
  | .invokevirtual _ => 182
  | .invokespecial _ => 183
  | .invokestatic _ => 184
  | .new _ => 187
  | .anewarray _ => 189
  | .bipush _ => 16
  | .sipush _ => 17
  | .goto _ => 167
  | .aload_n n => 42 + n.val
  | .iload_n n => 26 + n.val
  | .istore_n n => 59 + n.val
  | .astore_n n => 75 + n.val
  | .iinc _ _ => 132
  | .iconst n => fd_ic n
  | .ifCond c _ => 153 + fd_cn c
  | .if_icmp c _ => 159 + fd_cn c
  | _ => 256
def fd_a1 (n : Nat) (r : List UInt8) : Bool := match r with
  | y :: _ => Nat.beq y.toNat n
  | [] => false
def fd_a2 (n : Nat) (r : List UInt8) : Bool := match r with
  | y :: z :: _ => Nat.beq (y.toNat * 256 + z.toNat) n
  | _ => false
def fd_b1 (n : Int) (r : List UInt8) : Bool := match r with
  | y :: _ => decide (Reader.signed 8 y.toNat = n)
  | [] => false
def fd_b2 (n : Int) (r : List UInt8) : Bool := match r with
  | y :: z :: _ => decide (Reader.signed 16 (y.toNat * 256 + z.toNat) = n)
  | _ => false
theorem fd_a1_ok {b : ByteArray} {p n : Nat} {r : List UInt8} (h : b.data.toList.drop p = r) (e : fd_a1 n r = true) : Reader.runAt (Reader.u1 : Decoder Nat) b p = .ok (n, p + 1) ∧ b.data.toList.drop (p + 1) = r.tail := by
  match r, h, e with
  | y :: r', h, e =>
    have e2 : y.toNat = n := Nat.eq_of_beq_eq_true e
    have h2 := fd_u1 h
    rw [e2] at h2
    exact h2
  | [], _, e => cases e
theorem fd_a2_ok {b : ByteArray} {p n : Nat} {r : List UInt8} (h : b.data.toList.drop p = r) (e : fd_a2 n r = true) : Reader.runAt (Reader.u2 : Decoder Nat) b p = .ok (n, p + 2) := by
  match r, h, e with
  | y :: z :: r', h, e =>
    have e2 : y.toNat * 256 + z.toNat = n := Nat.eq_of_beq_eq_true e
    have h2 := fd_u2 h
    rw [e2] at h2
    exact h2
  | [_], _, e => cases e
  | [], _, e => cases e
theorem fd_b1_ok {b : ByteArray} {p : Nat} {n : Int} {r : List UInt8} (h : b.data.toList.drop p = r) (e : fd_b1 n r = true) : Reader.runAt (Reader.s1 : Decoder Int) b p = .ok (n, p + 1) := by
  match r, h, e with
  | y :: r', h, e =>
    have e2 : Reader.signed 8 y.toNat = n := of_decide_eq_true e
    have h2 := fd_s1 h
    rw [e2] at h2
    exact h2
  | [], _, e => cases e
theorem fd_b2_ok {b : ByteArray} {p : Nat} {n : Int} {r : List UInt8} (h : b.data.toList.drop p = r) (e : fd_b2 n r = true) : Reader.runAt (Reader.s2 : Decoder Int) b p = .ok (n, p + 2) := by
  match r, h, e with
  | y :: z :: r', h, e =>
    have e2 : Reader.signed 16 (y.toNat * 256 + z.toNat) = n := of_decide_eq_true e
    have h2 := fd_s2 h
    rw [e2] at h2
    exact h2
  | [_], _, e => cases e
  | [], _, e => cases e
def fd_arg (i : Instr) (r : List UInt8) : Bool := match i with
  | .iload n => fd_a1 n r
  | .dload n => fd_a1 n r
  | .aload n => fd_a1 n r
  | .istore n => fd_a1 n r
  | .dstore n => fd_a1 n r
  | .astore n => fd_a1 n r
  | .ldc n => fd_a1 n r
  | .getfield n => fd_a2 n r
  | .putfield n => fd_a2 n r
  | .invokevirtual n => fd_a2 n r
  | .invokespecial n => fd_a2 n r
  | .invokestatic n => fd_a2 n r
  | .new n => fd_a2 n r
  | .anewarray n => fd_a2 n r
  | .bipush n => fd_b1 n r
  | .sipush n => fd_b2 n r
  | .goto n => fd_b2 n r
  | .ifCond _ n => fd_b2 n r
  | .if_icmp _ n => fd_b2 n r
  | .iinc a n => fd_a1 a r && fd_b1 n r.tail
  | _ => true
def fd_ck (i : Instr) (l : List UInt8) : Bool := match l with
  | x :: r => Nat.beq x.toNat (fd_op i) && fd_arg i r
  | [] => false
theorem fd_ok {b : ByteArray} {p : Nat} {i : Instr} {x : UInt8} {r : List UInt8} (h : b.data.toList.drop p = x :: r) (h1 : x.toNat = fd_op i) (h2 : fd_arg i r = true) : decode b p = .ok (i, jv_len i) := by
  have hx : x.toNat < 256 := x.toNat_lt
  rw [h1] at hx
  obtain ⟨hu, hr⟩ := fd_u1 h
  rw [h1] at hu
  cases i
  case ireturn => exact fd_go (k := 172) (q := 0) hu rfl
  case iaload => exact fd_go (k := 46) (q := 0) hu rfl
  case iadd => exact fd_go (k := 96) (q := 0) hu rfl
  case pop => exact fd_go (k := 87) (q := 0) hu rfl
  case return_ => exact fd_go (k := 177) (q := 0) hu rfl
  case isub => exact fd_go (k := 100) (q := 0) hu rfl
  case iastore => exact fd_go (k := 79) (q := 0) hu rfl
  case dup => exact fd_go (k := 89) (q := 0) hu rfl
  case imul => exact fd_go (k := 104) (q := 0) hu rfl
  case idiv => exact fd_go (k := 108) (q := 0) hu rfl
  case irem => exact fd_go (k := 112) (q := 0) hu rfl
  case dup2 => exact fd_go (k := 92) (q := 0) hu rfl
  case arraylength => exact fd_go (k := 190) (q := 0) hu rfl
  case ineg => exact fd_go (k := 116) (q := 0) hu rfl
  case iand => exact fd_go (k := 126) (q := 0) hu rfl
  case i2f => exact fd_go (k := 134) (q := 0) hu rfl
  case i2d => exact fd_go (k := 135) (q := 0) hu rfl
  case bastore => exact fd_go (k := 84) (q := 0) hu rfl
  case aaload => exact fd_go (k := 50) (q := 0) hu rfl
  case ishr => exact fd_go (k := 122) (q := 0) hu rfl
  case aastore => exact fd_go (k := 83) (q := 0) hu rfl
  case freturn => exact fd_go (k := 174) (q := 0) hu rfl
  case fdiv => exact fd_go (k := 110) (q := 0) hu rfl
  case f2d => exact fd_go (k := 141) (q := 0) hu rfl
  case dreturn => exact fd_go (k := 175) (q := 0) hu rfl
  case ddiv => exact fd_go (k := 111) (q := 0) hu rfl
  case baload => exact fd_go (k := 51) (q := 0) hu rfl
  case areturn => exact fd_go (k := 176) (q := 0) hu rfl
  case ixor => exact fd_go (k := 130) (q := 0) hu rfl
  case ishl => exact fd_go (k := 120) (q := 0) hu rfl
  case ior => exact fd_go (k := 128) (q := 0) hu rfl
  case iload n => exact fd_go (k := 21) (q := 1) hu (fd_map (g := Instr.iload) (fd_a1_ok hr h2).1)
  case dload n => exact fd_go (k := 24) (q := 1) hu (fd_map (g := Instr.dload) (fd_a1_ok hr h2).1)
  case aload n => exact fd_go (k := 25) (q := 1) hu (fd_map (g := Instr.aload) (fd_a1_ok hr h2).1)
  case istore n => exact fd_go (k := 54) (q := 1) hu (fd_map (g := Instr.istore) (fd_a1_ok hr h2).1)
  case dstore n => exact fd_go (k := 57) (q := 1) hu (fd_map (g := Instr.dstore) (fd_a1_ok hr h2).1)
  case astore n => exact fd_go (k := 58) (q := 1) hu (fd_map (g := Instr.astore) (fd_a1_ok hr h2).1)
  case ldc n => exact fd_go (k := 18) (q := 1) hu (fd_map (g := Instr.ldc) (fd_a1_ok hr h2).1)
  case getfield n => exact fd_go (k := 180) (q := 2) hu (fd_map (g := Instr.getfield) (fd_a2_ok hr h2))
  case putfield n => exact fd_go (k := 181) (q := 2) hu (fd_map (g := Instr.putfield) (fd_a2_ok hr h2))
  case invokevirtual n => exact fd_go (k := 182) (q := 2) hu (fd_map (g := Instr.invokevirtual) (fd_a2_ok hr h2))
  case invokespecial n => exact fd_go (k := 183) (q := 2) hu (fd_map (g := Instr.invokespecial) (fd_a2_ok hr h2))
  case invokestatic n => exact fd_go (k := 184) (q := 2) hu (fd_map (g := Instr.invokestatic) (fd_a2_ok hr h2))
  case new n => exact fd_go (k := 187) (q := 2) hu (fd_map (g := Instr.new) (fd_a2_ok hr h2))
  case anewarray n => exact fd_go (k := 189) (q := 2) hu (fd_map (g := Instr.anewarray) (fd_a2_ok hr h2))
  case bipush n => exact fd_go (k := 16) (q := 1) hu (fd_map (g := Instr.bipush) (fd_b1_ok hr h2))
  case sipush n => exact fd_go (k := 17) (q := 2) hu (fd_map (g := Instr.sipush) (fd_b2_ok hr h2))
  case goto n => exact fd_go (k := 167) (q := 2) hu (fd_map (g := Instr.goto) (fd_b2_ok hr h2))
  case aload_n n =>
    obtain ⟨n, hn⟩ := n
    match n, hn, hu, hx with
    | 0, _, hu, _ => exact fd_go (k := 42) (q := 0) hu rfl
    | 1, _, hu, _ => exact fd_go (k := 43) (q := 0) hu rfl
    | 2, _, hu, _ => exact fd_go (k := 44) (q := 0) hu rfl
    | 3, _, hu, _ => exact fd_go (k := 45) (q := 0) hu rfl
    | n + 4, hn, _, _ => exact absurd hn (by omega)
  case iload_n n =>
    obtain ⟨n, hn⟩ := n
    match n, hn, hu, hx with
    | 0, _, hu, _ => exact fd_go (k := 26) (q := 0) hu rfl
    | 1, _, hu, _ => exact fd_go (k := 27) (q := 0) hu rfl
    | 2, _, hu, _ => exact fd_go (k := 28) (q := 0) hu rfl
    | 3, _, hu, _ => exact fd_go (k := 29) (q := 0) hu rfl
    | n + 4, hn, _, _ => exact absurd hn (by omega)
  case istore_n n =>
    obtain ⟨n, hn⟩ := n
    match n, hn, hu, hx with
    | 0, _, hu, _ => exact fd_go (k := 59) (q := 0) hu rfl
    | 1, _, hu, _ => exact fd_go (k := 60) (q := 0) hu rfl
    | 2, _, hu, _ => exact fd_go (k := 61) (q := 0) hu rfl
    | 3, _, hu, _ => exact fd_go (k := 62) (q := 0) hu rfl
    | n + 4, hn, _, _ => exact absurd hn (by omega)
  case astore_n n =>
    obtain ⟨n, hn⟩ := n
    match n, hn, hu, hx with
    | 0, _, hu, _ => exact fd_go (k := 75) (q := 0) hu rfl
    | 1, _, hu, _ => exact fd_go (k := 76) (q := 0) hu rfl
    | 2, _, hu, _ => exact fd_go (k := 77) (q := 0) hu rfl
    | 3, _, hu, _ => exact fd_go (k := 78) (q := 0) hu rfl
    | n + 4, hn, _, _ => exact absurd hn (by omega)
  case iinc a n =>
    have h3 : (fd_a1 a r && fd_b1 n r.tail) = true := h2
    rw [Bool.and_eq_true] at h3
    obtain ⟨q1, q2⟩ := fd_a1_ok hr h3.1
    exact fd_go (k := 132) (q := 2) hu (fd_map2 (g := Instr.iinc) q1 (fd_b1_ok q2 h3.2))
  case iconst n =>
    match n, hu, hx with
    | .ofNat 0, hu, _ => exact fd_go (k := 3) (q := 0) hu rfl
    | .ofNat 1, hu, _ => exact fd_go (k := 4) (q := 0) hu rfl
    | .ofNat 2, hu, _ => exact fd_go (k := 5) (q := 0) hu rfl
    | .ofNat 3, hu, _ => exact fd_go (k := 6) (q := 0) hu rfl
    | .ofNat 4, hu, _ => exact fd_go (k := 7) (q := 0) hu rfl
    | .ofNat 5, hu, _ => exact fd_go (k := 8) (q := 0) hu rfl
    | .ofNat (m + 6), _, hx => exact absurd hx (Nat.lt_irrefl 256)
    | .negSucc 0, hu, _ => exact fd_go (k := 2) (q := 0) hu rfl
    | .negSucc (m + 1), _, hx => exact absurd hx (Nat.lt_irrefl 256)
  case ifCond c n =>
    cases c
    case eq => exact fd_go (k := 153) (q := 2) hu (fd_map (g := Instr.ifCond .eq) (fd_b2_ok hr h2))
    case ne => exact fd_go (k := 154) (q := 2) hu (fd_map (g := Instr.ifCond .ne) (fd_b2_ok hr h2))
    case lt => exact fd_go (k := 155) (q := 2) hu (fd_map (g := Instr.ifCond .lt) (fd_b2_ok hr h2))
    case ge => exact fd_go (k := 156) (q := 2) hu (fd_map (g := Instr.ifCond .ge) (fd_b2_ok hr h2))
    case gt => exact fd_go (k := 157) (q := 2) hu (fd_map (g := Instr.ifCond .gt) (fd_b2_ok hr h2))
    case le => exact fd_go (k := 158) (q := 2) hu (fd_map (g := Instr.ifCond .le) (fd_b2_ok hr h2))
  case if_icmp c n =>
    cases c
    case eq => exact fd_go (k := 159) (q := 2) hu (fd_map (g := Instr.if_icmp .eq) (fd_b2_ok hr h2))
    case ne => exact fd_go (k := 160) (q := 2) hu (fd_map (g := Instr.if_icmp .ne) (fd_b2_ok hr h2))
    case lt => exact fd_go (k := 161) (q := 2) hu (fd_map (g := Instr.if_icmp .lt) (fd_b2_ok hr h2))
    case ge => exact fd_go (k := 162) (q := 2) hu (fd_map (g := Instr.if_icmp .ge) (fd_b2_ok hr h2))
    case gt => exact fd_go (k := 163) (q := 2) hu (fd_map (g := Instr.if_icmp .gt) (fd_b2_ok hr h2))
    case le => exact fd_go (k := 164) (q := 2) hu (fd_map (g := Instr.if_icmp .le) (fd_b2_ok hr h2))
  all_goals exact absurd hx (Nat.lt_irrefl 256)
theorem fd_ck_ok {b : ByteArray} {p : Nat} {i : Instr} {l : List UInt8} (h : b.data.toList.drop p = l) (e : fd_ck i l = true) : decode b p = .ok (i, jv_len i) := by
  match l, h, e with
  | x :: r, h, e =>
    have e2 : (Nat.beq x.toNat (fd_op i) && fd_arg i r) = true := e
    rw [Bool.and_eq_true] at e2
    exact fd_ok h (Nat.eq_of_beq_eq_true e2.1) e2.2
  | [], _, e => cases e
def jv_f1 (b : ByteArray) : List jv_I → List UInt8 → Nat → Bool
  | [], _, _ => true
  | none :: c, l, pc => jv_f1 b c l.tail (pc + 1)
  | some (i, len) :: c, l, pc => (fd_ck i l && Nat.beq len (jv_len i) || decide (decode b pc = .ok (i, len)) && (jv_sw i || decide (len = jv_len i))) && jv_f1 b c l.tail (pc + 1)
def jv_f2 (b : ByteArray) : List (List jv_I) → List UInt8 → Nat → Bool
  | [], _, _ => true
  | c :: cs, l, pc => Nat.ble c.length 16 && jv_f1 b c l pc && jv_f2 b cs (l.drop 16) (pc + 16)
theorem jv_f1_ok {b : ByteArray} : ∀ (c : List jv_I) (l : List UInt8) (pc : Nat), b.data.toList.drop pc = l → jv_f1 b c l pc = true → jv_ck1 b pc c = true
  | [], _, _, _, _ => rfl
  | none :: c, l, pc, h, e => jv_f1_ok c l.tail (pc + 1) (by rw [← h, List.tail_drop]) e
  | some (i, len) :: c, l, pc, h, e => by
    have e2 : ((fd_ck i l && Nat.beq len (jv_len i) || decide (decode b pc = .ok (i, len)) && (jv_sw i || decide (len = jv_len i))) && jv_f1 b c l.tail (pc + 1)) = true := e
    rw [Bool.and_eq_true, Bool.or_eq_true, Bool.and_eq_true] at e2
    have h3 := jv_f1_ok c l.tail (pc + 1) (by rw [← h, List.tail_drop]) e2.2
    show (decide (decode b pc = .ok (i, len)) && (jv_sw i || decide (len = jv_len i)) && jv_ck1 b (pc + 1) c) = true
    rw [Bool.and_eq_true]
    refine ⟨?_, h3⟩
    rcases e2.1 with q | q
    · have hl : len = jv_len i := Nat.eq_of_beq_eq_true q.2
      have hd := fd_ck_ok h q.1
      rw [← hl] at hd
      rw [Bool.and_eq_true, Bool.or_eq_true]
      exact ⟨decide_eq_true hd, Or.inr (decide_eq_true hl)⟩
    · exact q
theorem jv_f2_ok {b : ByteArray} : ∀ (cs : List (List jv_I)) (l : List UInt8) (pc : Nat), b.data.toList.drop pc = l → jv_f2 b cs l pc = true → jv_ck2 b pc cs = true
  | [], _, _, _, _ => rfl
  | c :: cs, l, pc, h, e => by
    have e2 : (Nat.ble c.length 16 && jv_f1 b c l pc && jv_f2 b cs (l.drop 16) (pc + 16)) = true := e
    rw [Bool.and_eq_true, Bool.and_eq_true] at e2
    show (decide (c.length ≤ 16) && jv_ck1 b pc c && jv_ck2 b (pc + 16) cs) = true
    rw [Bool.and_eq_true, Bool.and_eq_true]
    exact ⟨⟨decide_eq_true (Nat.le_of_ble_eq_true e2.1.1), jv_f1_ok c l pc h e2.1.2⟩, jv_f2_ok cs (l.drop 16) (pc + 16) (by rw [← h, List.drop_drop]) e2.2⟩
theorem jv_fast {b : ByteArray} {cs : List (List jv_I)} (h : jv_f2 b cs b.data.toList 0 = true) : jv_ck2 b 0 cs = true := jv_f2_ok cs _ 0 rfl h
end
section
theorem jv_k0 : jv_ck2 (jv_ym 0).2.1 0 jv_c0 = true := jv_fast (by decide +kernel)
theorem jv_k1 : jv_ck2 (jv_ym 1).2.1 0 jv_c1 = true := jv_fast (by decide +kernel)
theorem jv_k2 : jv_ck2 (jv_ym 2).2.1 0 jv_c2 = true := jv_fast (by decide +kernel)
theorem jv_k3 : jv_ck2 (jv_ym 3).2.1 0 jv_c3 = true := jv_fast (by decide +kernel)
theorem jv_k4 : jv_ck2 (jv_ym 4).2.1 0 jv_c4 = true := jv_fast (by decide +kernel)
theorem jv_k5 : jv_ck2 (jv_ym 5).2.1 0 jv_c5 = true := jv_fast (by decide +kernel)
theorem jv_k6 : jv_ck2 (jv_ym 6).2.1 0 jv_c6 = true := jv_fast (by decide +kernel)
theorem jv_k7 : jv_ck2 (jv_ym 7).2.1 0 jv_c7 = true := jv_fast (by decide +kernel)
theorem jv_k8 : jv_ck2 (jv_ym 8).2.1 0 jv_c8 = true := jv_fast (by decide +kernel)
theorem jv_k9 : jv_ck2 (jv_ym 9).2.1 0 jv_c9 = true := jv_fast (by decide +kernel)
theorem jv_k10 : jv_ck2 (jv_ym 10).2.1 0 jv_c10 = true := jv_fast (by decide +kernel)
theorem jv_k11 : jv_ck2 (jv_ym 11).2.1 0 jv_c11 = true := jv_fast (by decide +kernel)
theorem jv_k12 : jv_ck2 (jv_ym 12).2.1 0 jv_c12 = true := jv_fast (by decide +kernel)
theorem jv_k13 : jv_ck2 (jv_ym 13).2.1 0 jv_c13 = true := jv_fast (by decide +kernel)
theorem jv_k14 : jv_ck2 (jv_ym 14).2.1 0 jv_c14 = true := jv_fast (by decide +kernel)
theorem jv_k15 : jv_ck2 (jv_ym 15).2.1 0 jv_c15 = true := jv_fast (by decide +kernel)
theorem jv_k16 : jv_ck2 (jv_ym 16).2.1 0 jv_c16 = true := jv_fast (by decide +kernel)
theorem jv_k17 : jv_ck2 (jv_ym 17).2.1 0 jv_c17 = true := jv_fast (by decide +kernel)
theorem jv_k18 : jv_ck2 (jv_ym 18).2.1 0 jv_c18 = true := jv_fast (by decide +kernel)
theorem jv_k19 : jv_ck2 (jv_ym 19).2.1 0 jv_c19 = true := jv_fast (by decide +kernel)
theorem jv_k20 : jv_ck2 (jv_ym 20).2.1 0 jv_c20 = true := jv_fast (by decide +kernel)
theorem jv_k21 : jv_ck2 (jv_ym 21).2.1 0 jv_c21 = true := jv_fast (by decide +kernel)
theorem jv_k22 : jv_ck2 (jv_ym 22).2.1 0 jv_c22 = true := jv_fast (by decide +kernel)
theorem jv_k23 : jv_ck2 (jv_ym 23).2.1 0 jv_c23 = true := jv_fast (by decide +kernel)
theorem jv_k24 : jv_ck2 (jv_ym 24).2.1 0 jv_c24 = true := jv_fast (by decide +kernel)
theorem jv_k25 : jv_ck2 (jv_ym 25).2.1 0 jv_c25 = true := jv_fast (by decide +kernel)
theorem jv_k26 : jv_ck2 (jv_ym 26).2.1 0 jv_c26 = true := jv_fast (by decide +kernel)
theorem jv_k27 : jv_ck2 (jv_ym 27).2.1 0 jv_c27 = true := jv_fast (by decide +kernel)
theorem jv_k28 : jv_ck2 (jv_ym 28).2.1 0 jv_c28 = true := jv_fast (by decide +kernel)
theorem jv_k29 : jv_ck2 (jv_ym 29).2.1 0 jv_c29 = true := jv_fast (by decide +kernel)
theorem jv_k30 : jv_ck2 (jv_ym 30).2.1 0 jv_c30 = true := jv_fast (by decide +kernel)
theorem jv_k31 : jv_ck2 (jv_ym 31).2.1 0 jv_c31 = true := jv_fast (by decide +kernel)
theorem jv_k32 : jv_ck2 (jv_ym 32).2.1 0 jv_c32 = true := jv_fast (by decide +kernel)
theorem jv_k33 : jv_ck2 (jv_ym 33).2.1 0 jv_c33 = true := jv_fast (by decide +kernel)
theorem jv_k34 : jv_ck2 (jv_ym 34).2.1 0 jv_c34 = true := jv_fast (by decide +kernel)
theorem jv_k35 : jv_ck2 (jv_ym 35).2.1 0 jv_c35 = true := jv_fast (by decide +kernel)
theorem jv_k36 : jv_ck2 (jv_ym 36).2.1 0 jv_c36 = true := jv_fast (by decide +kernel)
theorem jv_k37 : jv_ck2 (jv_ym 37).2.1 0 jv_c37 = true := jv_fast (by decide +kernel)
theorem jv_k38 : jv_ck2 (jv_ym 38).2.1 0 jv_c38 = true := jv_fast (by decide +kernel)
theorem jv_k39 : jv_ck2 (jv_ym 39).2.1 0 jv_c39 = true := jv_fast (by decide +kernel)
theorem jv_k40 : jv_ck2 (jv_ym 40).2.1 0 jv_c40 = true := jv_fast (by decide +kernel)
theorem jv_k41 : jv_ck2 (jv_ym 41).2.1 0 jv_c41 = true := jv_fast (by decide +kernel)
theorem jv_k42 : jv_ck2 (jv_ym 42).2.1 0 jv_c42 = true := jv_fast (by decide +kernel)
theorem jv_k43 : jv_ck2 (jv_ym 43).2.1 0 jv_c43 = true := jv_fast (by decide +kernel)
theorem jv_k44 : jv_ck2 (jv_ym 44).2.1 0 jv_c44 = true := jv_fast (by decide +kernel)
theorem jv_k45 : jv_ck2 (jv_ym 45).2.1 0 jv_c45 = true := jv_fast (by decide +kernel)
theorem jv_k46 : jv_ck2 (jv_ym 46).2.1 0 jv_c46 = true := jv_fast (by decide +kernel)
theorem jv_k47 : jv_ck2 (jv_ym 47).2.1 0 jv_c47 = true := jv_fast (by decide +kernel)
theorem jv_k48 : jv_ck2 (jv_ym 48).2.1 0 jv_c48 = true := jv_fast (by decide +kernel)
theorem jv_k49 : jv_ck2 (jv_ym 49).2.1 0 jv_c49 = true := jv_fast (by decide +kernel)
theorem jv_k50 : jv_ck2 (jv_ym 50).2.1 0 jv_c50 = true := jv_fast (by decide +kernel)
theorem jv_k51 : jv_ck2 (jv_ym 51).2.1 0 jv_c51 = true := jv_fast (by decide +kernel)
theorem jv_k52 : jv_ck2 (jv_ym 52).2.1 0 jv_c52 = true := jv_fast (by decide +kernel)
theorem jv_k53 : jv_ck2 (jv_ym 53).2.1 0 jv_c53 = true := jv_fast (by decide +kernel)
theorem jv_k54 : jv_ck2 (jv_ym 54).2.1 0 jv_c54 = true := jv_fast (by decide +kernel)
theorem jv_k55 : jv_ck2 (jv_ym 55).2.1 0 jv_c55 = true := jv_fast (by decide +kernel)
theorem jv_k56 : jv_ck2 (jv_ym 56).2.1 0 jv_c56 = true := jv_fast (by decide +kernel)
theorem jv_k57 : jv_ck2 (jv_ym 57).2.1 0 jv_c57 = true := jv_fast (by decide +kernel)
theorem jv_k58 : jv_ck2 (jv_ym 58).2.1 0 jv_c58 = true := jv_fast (by decide +kernel)
theorem jv_k59 : jv_ck2 (jv_ym 59).2.1 0 jv_c59 = true := jv_fast (by decide +kernel)
theorem jv_k60 : jv_ck2 (jv_ym 60).2.1 0 jv_c60 = true := jv_fast (by decide +kernel)
theorem jv_k61 : jv_ck2 (jv_ym 61).2.1 0 jv_c61 = true := jv_fast (by decide +kernel)
theorem jv_k62 : jv_ck2 (jv_ym 62).2.1 0 jv_c62 = true := jv_fast (by decide +kernel)
theorem jv_k63 : jv_ck2 (jv_ym 63).2.1 0 jv_c63 = true := jv_fast (by decide +kernel)
theorem jv_k64 : jv_ck2 (jv_ym 64).2.1 0 jv_c64 = true := jv_fast (by decide +kernel)
theorem jv_k65 : jv_ck2 (jv_ym 65).2.1 0 jv_c65 = true := jv_fast (by decide +kernel)
theorem jv_k66 : jv_ck2 (jv_ym 66).2.1 0 jv_c66 = true := jv_fast (by decide +kernel)
theorem jv_k67 : jv_ck2 (jv_ym 67).2.1 0 jv_c67 = true := jv_fast (by decide +kernel)
theorem jv_k68 : jv_ck2 (jv_ym 68).2.1 0 jv_c68 = true := jv_fast (by decide +kernel)
theorem jv_k69 : jv_ck2 (jv_ym 69).2.1 0 jv_c69 = true := jv_fast (by decide +kernel)
theorem jv_k70 : jv_ck2 (jv_ym 70).2.1 0 jv_c70 = true := jv_fast (by decide +kernel)
theorem jv_k71 : jv_ck2 (jv_ym 71).2.1 0 jv_c71 = true := jv_fast (by decide +kernel)
theorem jv_k72 : jv_ck2 (jv_ym 72).2.1 0 jv_c72 = true := jv_fast (by decide +kernel)
theorem jv_k73 : jv_ck2 (jv_ym 73).2.1 0 jv_c73 = true := jv_fast (by decide +kernel)
theorem jv_k74 : jv_ck2 (jv_ym 74).2.1 0 jv_c74 = true := jv_fast (by decide +kernel)
theorem jv_k75 : jv_ck2 (jv_ym 75).2.1 0 jv_c75 = true := jv_fast (by decide +kernel)
theorem jv_k76 : jv_ck2 (jv_ym 76).2.1 0 jv_c76 = true := jv_fast (by decide +kernel)
theorem jv_k77 : jv_ck2 (jv_ym 77).2.1 0 jv_c77 = true := jv_fast (by decide +kernel)
theorem jv_k78 : jv_ck2 (jv_ym 78).2.1 0 jv_c78 = true := jv_fast (by decide +kernel)
theorem jv_k79 : jv_ck2 (jv_ym 79).2.1 0 jv_c79 = true := jv_fast (by decide +kernel)
theorem jv_k80 : jv_ck2 (jv_ym 80).2.1 0 jv_c80 = true := jv_fast (by decide +kernel)
theorem jv_k81 : jv_ck2 (jv_ym 81).2.1 0 jv_c81 = true := jv_fast (by decide +kernel)
theorem jv_k82 : jv_ck2 (jv_ym 82).2.1 0 jv_c82 = true := jv_fast (by decide +kernel)
theorem jv_k83 : jv_ck2 (jv_ym 83).2.1 0 jv_c83 = true := jv_fast (by decide +kernel)
theorem jv_k84 : jv_ck2 (jv_ym 84).2.1 0 jv_c84 = true := jv_fast (by decide +kernel)
theorem jv_k85 : jv_ck2 (jv_ym 85).2.1 0 jv_c85 = true := jv_fast (by decide +kernel)
theorem jv_k86 : jv_ck2 (jv_ym 86).2.1 0 jv_c86 = true := jv_fast (by decide +kernel)
theorem jv_k87 : jv_ck2 (jv_ym 87).2.1 0 jv_c87 = true := jv_fast (by decide +kernel)
theorem jv_k88 : jv_ck2 (jv_ym 88).2.1 0 jv_c88 = true := jv_fast (by decide +kernel)
theorem jv_k89 : jv_ck2 (jv_ym 89).2.1 0 jv_c89 = true := jv_fast (by decide +kernel)
theorem jv_k90 : jv_ck2 (jv_ym 90).2.1 0 jv_c90 = true := jv_fast (by decide +kernel)
theorem jv_k91 : jv_ck2 (jv_ym 91).2.1 0 jv_c91 = true := jv_fast (by decide +kernel)
theorem jv_k92 : jv_ck2 (jv_ym 92).2.1 0 jv_c92 = true := jv_fast (by decide +kernel)
theorem jv_k93 : jv_ck2 (jv_ym 93).2.1 0 jv_c93 = true := jv_fast (by decide +kernel)
theorem jv_k94 : jv_ck2 (jv_ym 94).2.1 0 jv_c94 = true := jv_fast (by decide +kernel)
theorem jv_k95 : jv_ck2 (jv_ym 95).2.1 0 jv_c95 = true := jv_fast (by decide +kernel)
theorem jv_k96 : jv_ck2 (jv_ym 96).2.1 0 jv_c96 = true := jv_fast (by decide +kernel)
theorem jv_k97 : jv_ck2 (jv_ym 97).2.1 0 jv_c97 = true := jv_fast (by decide +kernel)
theorem jv_k98 : jv_ck2 (jv_ym 98).2.1 0 jv_c98 = true := jv_fast (by decide +kernel)
theorem jv_k99 : jv_ck2 (jv_ym 99).2.1 0 jv_c99 = true := jv_fast (by decide +kernel)
theorem jv_k100 : jv_ck2 (jv_ym 100).2.1 0 jv_c100 = true := jv_fast (by decide +kernel)
theorem jv_k101 : jv_ck2 (jv_ym 101).2.1 0 jv_c101 = true := jv_fast (by decide +kernel)
theorem jv_k102 : jv_ck2 (jv_ym 102).2.1 0 jv_c102 = true := jv_fast (by decide +kernel)
theorem jv_k103 : jv_ck2 (jv_ym 103).2.1 0 jv_c103 = true := jv_fast (by decide +kernel)
theorem jv_k104 : jv_ck2 (jv_ym 104).2.1 0 jv_c104 = true := jv_fast (by decide +kernel)
theorem jv_k105 : jv_ck2 (jv_ym 105).2.1 0 jv_c105 = true := jv_fast (by decide +kernel)
theorem jv_k106 : jv_ck2 (jv_ym 106).2.1 0 jv_c106 = true := jv_fast (by decide +kernel)
theorem jv_k107 : jv_ck2 (jv_ym 107).2.1 0 jv_c107 = true := jv_fast (by decide +kernel)
theorem jv_k108 : jv_ck2 (jv_ym 108).2.1 0 jv_c108 = true := jv_fast (by decide +kernel)
theorem jv_k109 : jv_ck2 (jv_ym 109).2.1 0 jv_c109 = true := jv_fast (by decide +kernel)
theorem jv_k110 : jv_ck2 (jv_ym 110).2.1 0 jv_c110 = true := jv_fast (by decide +kernel)
theorem jv_k111 : jv_ck2 (jv_ym 111).2.1 0 jv_c111 = true := jv_fast (by decide +kernel)
theorem jv_k112 : jv_ck2 (jv_ym 112).2.1 0 jv_c112 = true := jv_fast (by decide +kernel)
end
section
theorem jv_k113 : jv_ck2 (jv_ym 113).2.1 0 jv_c113 = true := jv_fast (by decide +kernel)
theorem jv_k114 : jv_ck2 (jv_ym 114).2.1 0 jv_c114 = true := jv_fast (by decide +kernel)
theorem jv_k115 : jv_ck2 (jv_ym 115).2.1 0 jv_c115 = true := jv_fast (by decide +kernel)
theorem jv_k116 : jv_ck2 (jv_ym 116).2.1 0 jv_c116 = true := jv_fast (by decide +kernel)
theorem jv_k117 : jv_ck2 (jv_ym 117).2.1 0 jv_c117 = true := jv_fast (by decide +kernel)
theorem jv_k118 : jv_ck2 (jv_ym 118).2.1 0 jv_c118 = true := jv_fast (by decide +kernel)
theorem jv_k119 : jv_ck2 (jv_ym 119).2.1 0 jv_c119 = true := jv_fast (by decide +kernel)
theorem jv_k120 : jv_ck2 (jv_ym 120).2.1 0 jv_c120 = true := jv_fast (by decide +kernel)
theorem jv_k121 : jv_ck2 (jv_ym 121).2.1 0 jv_c121 = true := jv_fast (by decide +kernel)
theorem jv_k122 : jv_ck2 (jv_ym 122).2.1 0 jv_c122 = true := jv_fast (by decide +kernel)
theorem jv_k123 : jv_ck2 (jv_ym 123).2.1 0 jv_c123 = true := jv_fast (by decide +kernel)
theorem jv_k124 : jv_ck2 (jv_ym 124).2.1 0 jv_c124 = true := jv_fast (by decide +kernel)
theorem jv_k125 : jv_ck2 (jv_ym 125).2.1 0 jv_c125 = true := jv_fast (by decide +kernel)
theorem jv_k126 : jv_ck2 (jv_ym 126).2.1 0 jv_c126 = true := jv_fast (by decide +kernel)
theorem jv_k127 : jv_ck2 (jv_ym 127).2.1 0 jv_c127 = true := jv_fast (by decide +kernel)
theorem jv_k128 : jv_ck2 (jv_ym 128).2.1 0 jv_c128 = true := jv_fast (by decide +kernel)
theorem jv_k129 : jv_ck2 (jv_ym 129).2.1 0 jv_c129 = true := jv_fast (by decide +kernel)
theorem jv_k130 : jv_ck2 (jv_ym 130).2.1 0 jv_c130 = true := jv_fast (by decide +kernel)
theorem jv_k131 : jv_ck2 (jv_ym 131).2.1 0 jv_c131 = true := jv_fast (by decide +kernel)
theorem jv_k132 : jv_ck2 (jv_ym 132).2.1 0 jv_c132 = true := jv_fast (by decide +kernel)
theorem jv_k133 : jv_ck2 (jv_ym 133).2.1 0 jv_c133 = true := jv_fast (by decide +kernel)
theorem jv_k134 : jv_ck2 (jv_ym 134).2.1 0 jv_c134 = true := jv_fast (by decide +kernel)
theorem jv_k135 : jv_ck2 (jv_ym 135).2.1 0 jv_c135 = true := jv_fast (by decide +kernel)
theorem jv_k136 : jv_ck2 (jv_ym 136).2.1 0 jv_c136 = true := jv_fast (by decide +kernel)
theorem jv_k137 : jv_ck2 (jv_ym 137).2.1 0 jv_c137 = true := jv_fast (by decide +kernel)
theorem jv_k138 : jv_ck2 (jv_ym 138).2.1 0 jv_c138 = true := jv_fast (by decide +kernel)
theorem jv_k139 : jv_ck2 (jv_ym 139).2.1 0 jv_c139 = true := jv_fast (by decide +kernel)
theorem jv_k140 : jv_ck2 (jv_ym 140).2.1 0 jv_c140 = true := jv_fast (by decide +kernel)
theorem jv_k141 : jv_ck2 (jv_ym 141).2.1 0 jv_c141 = true := jv_fast (by decide +kernel)
theorem jv_k142 : jv_ck2 (jv_ym 142).2.1 0 jv_c142 = true := jv_fast (by decide +kernel)
theorem jv_k143 : jv_ck2 (jv_ym 143).2.1 0 jv_c143 = true := jv_fast (by decide +kernel)
theorem jv_k144 : jv_ck2 (jv_ym 144).2.1 0 jv_c144 = true := jv_fast (by decide +kernel)
theorem jv_k145 : jv_ck2 (jv_ym 145).2.1 0 jv_c145 = true := jv_fast (by decide +kernel)
theorem jv_k146 : jv_ck2 (jv_ym 146).2.1 0 jv_c146 = true := jv_fast (by decide +kernel)
theorem jv_k147 : jv_ck2 (jv_ym 147).2.1 0 jv_c147 = true := jv_fast (by decide +kernel)
theorem jv_k148 : jv_ck2 (jv_ym 148).2.1 0 jv_c148 = true := jv_fast (by decide +kernel)
theorem jv_k149 : jv_ck2 (jv_ym 149).2.1 0 jv_c149 = true := jv_fast (by decide +kernel)
theorem jv_k150 : jv_ck2 (jv_ym 150).2.1 0 jv_c150 = true := jv_fast (by decide +kernel)
theorem jv_k151 : jv_ck2 (jv_ym 151).2.1 0 jv_c151 = true := jv_fast (by decide +kernel)
theorem jv_k152 : jv_ck2 (jv_ym 152).2.1 0 jv_c152 = true := jv_fast (by decide +kernel)
theorem jv_k153 : jv_ck2 (jv_ym 153).2.1 0 jv_c153 = true := jv_fast (by decide +kernel)
theorem jv_k154 : jv_ck2 (jv_ym 154).2.1 0 jv_c154 = true := jv_fast (by decide +kernel)
theorem jv_k155 : jv_ck2 (jv_ym 155).2.1 0 jv_c155 = true := jv_fast (by decide +kernel)
theorem jv_k156 : jv_ck2 (jv_ym 156).2.1 0 jv_c156 = true := jv_fast (by decide +kernel)
theorem jv_k157 : jv_ck2 (jv_ym 157).2.1 0 jv_c157 = true := jv_fast (by decide +kernel)
theorem jv_k158 : jv_ck2 (jv_ym 158).2.1 0 jv_c158 = true := jv_fast (by decide +kernel)
theorem jv_k159 : jv_ck2 (jv_ym 159).2.1 0 jv_c159 = true := jv_fast (by decide +kernel)
theorem jv_k160 : jv_ck2 (jv_ym 160).2.1 0 jv_c160 = true := jv_fast (by decide +kernel)
theorem jv_k161 : jv_ck2 (jv_ym 161).2.1 0 jv_c161 = true := jv_fast (by decide +kernel)
theorem jv_k162 : jv_ck2 (jv_ym 162).2.1 0 jv_c162 = true := jv_fast (by decide +kernel)
theorem jv_k163 : jv_ck2 (jv_ym 163).2.1 0 jv_c163 = true := jv_fast (by decide +kernel)
theorem jv_k164 : jv_ck2 (jv_ym 164).2.1 0 jv_c164 = true := jv_fast (by decide +kernel)
theorem jv_k165 : jv_ck2 (jv_ym 165).2.1 0 jv_c165 = true := jv_fast (by decide +kernel)
theorem jv_k166 : jv_ck2 (jv_ym 166).2.1 0 jv_c166 = true := jv_fast (by decide +kernel)
theorem jv_k167 : jv_ck2 (jv_ym 167).2.1 0 jv_c167 = true := jv_fast (by decide +kernel)
theorem jv_k168 : jv_ck2 (jv_ym 168).2.1 0 jv_c168 = true := jv_fast (by decide +kernel)
theorem jv_k169 : jv_ck2 (jv_ym 169).2.1 0 jv_c169 = true := jv_fast (by decide +kernel)
theorem jv_k170 : jv_ck2 (jv_ym 170).2.1 0 jv_c170 = true := jv_fast (by decide +kernel)
theorem jv_k171 : jv_ck2 (jv_ym 171).2.1 0 jv_c171 = true := jv_fast (by decide +kernel)
theorem jv_k172 : jv_ck2 (jv_ym 172).2.1 0 jv_c172 = true := jv_fast (by decide +kernel)
theorem jv_k173 : jv_ck2 (jv_ym 173).2.1 0 jv_c173 = true := jv_fast (by decide +kernel)
theorem jv_k174 : jv_ck2 (jv_ym 174).2.1 0 jv_c174 = true := jv_fast (by decide +kernel)
theorem jv_k175 : jv_ck2 (jv_ym 175).2.1 0 jv_c175 = true := jv_fast (by decide +kernel)
theorem jv_k176 : jv_ck2 (jv_ym 176).2.1 0 jv_c176 = true := jv_fast (by decide +kernel)
theorem jv_k177 : jv_ck2 (jv_ym 177).2.1 0 jv_c177 = true := jv_fast (by decide +kernel)
theorem jv_k178 : jv_ck2 (jv_ym 178).2.1 0 jv_c178 = true := jv_fast (by decide +kernel)
theorem jv_k179 : jv_ck2 (jv_ym 179).2.1 0 jv_c179 = true := jv_fast (by decide +kernel)
theorem jv_k180 : jv_ck2 (jv_ym 180).2.1 0 jv_c180 = true := jv_fast (by decide +kernel)
theorem jv_k181 : jv_ck2 (jv_ym 181).2.1 0 jv_c181 = true := jv_fast (by decide +kernel)
theorem jv_k182 : jv_ck2 (jv_ym 182).2.1 0 jv_c182 = true := jv_fast (by decide +kernel)
theorem jv_k183 : jv_ck2 (jv_ym 183).2.1 0 jv_c183 = true := jv_fast (by decide +kernel)
theorem jv_k184 : jv_ck2 (jv_ym 184).2.1 0 jv_c184 = true := jv_fast (by decide +kernel)
theorem jv_k185 : jv_ck2 (jv_ym 185).2.1 0 jv_c185 = true := jv_fast (by decide +kernel)
theorem jv_k186 : jv_ck2 (jv_ym 186).2.1 0 jv_c186 = true := jv_fast (by decide +kernel)
theorem jv_k187 : jv_ck2 (jv_ym 187).2.1 0 jv_c187 = true := jv_fast (by decide +kernel)
theorem jv_k188 : jv_ck2 (jv_ym 188).2.1 0 jv_c188 = true := jv_fast (by decide +kernel)
theorem jv_k189 : jv_ck2 (jv_ym 189).2.1 0 jv_c189 = true := jv_fast (by decide +kernel)
theorem jv_k190 : jv_ck2 (jv_ym 190).2.1 0 jv_c190 = true := jv_fast (by decide +kernel)
theorem jv_k191 : jv_ck2 (jv_ym 191).2.1 0 jv_c191 = true := jv_fast (by decide +kernel)
theorem jv_k192 : jv_ck2 (jv_ym 192).2.1 0 jv_c192 = true := jv_fast (by decide +kernel)
theorem jv_k193 : jv_ck2 (jv_ym 193).2.1 0 jv_c193 = true := jv_fast (by decide +kernel)
theorem jv_k194 : jv_ck2 (jv_ym 194).2.1 0 jv_c194 = true := jv_fast (by decide +kernel)
theorem jv_k195 : jv_ck2 (jv_ym 195).2.1 0 jv_c195 = true := jv_fast (by decide +kernel)
theorem jv_k196 : jv_ck2 (jv_ym 196).2.1 0 jv_c196 = true := jv_fast (by decide +kernel)
theorem jv_k197 : jv_ck2 (jv_ym 197).2.1 0 jv_c197 = true := jv_fast (by decide +kernel)
theorem jv_k198 : jv_ck2 (jv_ym 198).2.1 0 jv_c198 = true := jv_fast (by decide +kernel)
theorem jv_k199 : jv_ck2 (jv_ym 199).2.1 0 jv_c199 = true := jv_fast (by decide +kernel)
theorem jv_k200 : jv_ck2 (jv_ym 200).2.1 0 jv_c200 = true := jv_fast (by decide +kernel)
theorem jv_k201 : jv_ck2 (jv_ym 201).2.1 0 jv_c201 = true := jv_fast (by decide +kernel)
theorem jv_k202 : jv_ck2 (jv_ym 202).2.1 0 jv_c202 = true := jv_fast (by decide +kernel)
theorem jv_k203 : jv_ck2 (jv_ym 203).2.1 0 jv_c203 = true := jv_fast (by decide +kernel)
end
section
theorem jv_k204 : jv_ck2 (jv_ym 204).2.1 0 jv_c204 = true := jv_fast (by decide +kernel)
theorem jv_k205 : jv_ck2 (jv_ym 205).2.1 0 jv_c205 = true := jv_fast (by decide +kernel)
theorem jv_k206 : jv_ck2 (jv_ym 206).2.1 0 jv_c206 = true := jv_fast (by decide +kernel)
theorem jv_k207 : jv_ck2 (jv_ym 207).2.1 0 jv_c207 = true := jv_fast (by decide +kernel)
theorem jv_k208 : jv_ck2 (jv_ym 208).2.1 0 jv_c208 = true := jv_fast (by decide +kernel)
theorem jv_k209 : jv_ck2 (jv_ym 209).2.1 0 jv_c209 = true := jv_fast (by decide +kernel)
theorem jv_k210 : jv_ck2 (jv_ym 210).2.1 0 jv_c210 = true := jv_fast (by decide +kernel)
theorem jv_k211 : jv_ck2 (jv_ym 211).2.1 0 jv_c211 = true := jv_fast (by decide +kernel)
theorem jv_k212 : jv_ck2 (jv_ym 212).2.1 0 jv_c212 = true := jv_fast (by decide +kernel)
theorem jv_k213 : jv_ck2 (jv_ym 213).2.1 0 jv_c213 = true := jv_fast (by decide +kernel)
theorem jv_k214 : jv_ck2 (jv_ym 214).2.1 0 jv_c214 = true := jv_fast (by decide +kernel)
theorem jv_k215 : jv_ck2 (jv_ym 215).2.1 0 jv_c215 = true := jv_fast (by decide +kernel)
theorem jv_k216 : jv_ck2 (jv_ym 216).2.1 0 jv_c216 = true := jv_fast (by decide +kernel)
theorem jv_k217 : jv_ck2 (jv_ym 217).2.1 0 jv_c217 = true := jv_fast (by decide +kernel)
theorem jv_k218 : jv_ck2 (jv_ym 218).2.1 0 jv_c218 = true := jv_fast (by decide +kernel)
theorem jv_k219 : jv_ck2 (jv_ym 219).2.1 0 jv_c219 = true := jv_fast (by decide +kernel)
theorem jv_k220 : jv_ck2 (jv_ym 220).2.1 0 jv_c220 = true := jv_fast (by decide +kernel)
theorem jv_k221 : jv_ck2 (jv_ym 221).2.1 0 jv_c221 = true := jv_fast (by decide +kernel)
theorem jv_k222 : jv_ck2 (jv_ym 222).2.1 0 jv_c222 = true := jv_fast (by decide +kernel)
theorem jv_k223 : jv_ck2 (jv_ym 223).2.1 0 jv_c223 = true := jv_fast (by decide +kernel)
theorem jv_k224 : jv_ck2 (jv_ym 224).2.1 0 jv_c224 = true := jv_fast (by decide +kernel)
theorem jv_k225 : jv_ck2 (jv_ym 225).2.1 0 jv_c225 = true := jv_fast (by decide +kernel)
theorem jv_k226 : jv_ck2 (jv_ym 226).2.1 0 jv_c226 = true := jv_fast (by decide +kernel)
theorem jv_k227 : jv_ck2 (jv_ym 227).2.1 0 jv_c227 = true := jv_fast (by decide +kernel)
theorem jv_k228 : jv_ck2 (jv_ym 228).2.1 0 jv_c228 = true := jv_fast (by decide +kernel)
theorem jv_k229 : jv_ck2 (jv_ym 229).2.1 0 jv_c229 = true := jv_fast (by decide +kernel)
theorem jv_k230 : jv_ck2 (jv_ym 230).2.1 0 jv_c230 = true := jv_fast (by decide +kernel)
theorem jv_k231 : jv_ck2 (jv_ym 231).2.1 0 jv_c231 = true := jv_fast (by decide +kernel)
theorem jv_k232 : jv_ck2 (jv_ym 232).2.1 0 jv_c232 = true := jv_fast (by decide +kernel)
theorem jv_k233 : jv_ck2 (jv_ym 233).2.1 0 jv_c233 = true := jv_fast (by decide +kernel)
theorem jv_k234 : jv_ck2 (jv_ym 234).2.1 0 jv_c234 = true := jv_fast (by decide +kernel)
theorem jv_k235 : jv_ck2 (jv_ym 235).2.1 0 jv_c235 = true := jv_fast (by decide +kernel)
theorem jv_k236 : jv_ck2 (jv_ym 236).2.1 0 jv_c236 = true := jv_fast (by decide +kernel)
theorem jv_k237 : jv_ck2 (jv_ym 237).2.1 0 jv_c237 = true := jv_fast (by decide +kernel)
theorem jv_k238 : jv_ck2 (jv_ym 238).2.1 0 jv_c238 = true := jv_fast (by decide +kernel)
theorem jv_k239 : jv_ck2 (jv_ym 239).2.1 0 jv_c239 = true := jv_fast (by decide +kernel)
theorem jv_k240 : jv_ck2 (jv_ym 240).2.1 0 jv_c240 = true := jv_fast (by decide +kernel)
theorem jv_k241 : jv_ck2 (jv_ym 241).2.1 0 jv_c241 = true := jv_fast (by decide +kernel)
theorem jv_k242 : jv_ck2 (jv_ym 242).2.1 0 jv_c242 = true := jv_fast (by decide +kernel)
theorem jv_k243 : jv_ck2 (jv_ym 243).2.1 0 jv_c243 = true := jv_fast (by decide +kernel)
theorem jv_k244 : jv_ck2 (jv_ym 244).2.1 0 jv_c244 = true := jv_fast (by decide +kernel)
theorem jv_k245 : jv_ck2 (jv_ym 245).2.1 0 jv_c245 = true := jv_fast (by decide +kernel)
theorem jv_k246 : jv_ck2 (jv_ym 246).2.1 0 jv_c246 = true := jv_fast (by decide +kernel)
theorem jv_k247 : jv_ck2 (jv_ym 247).2.1 0 jv_c247 = true := jv_fast (by decide +kernel)
theorem jv_k248 : jv_ck2 (jv_ym 248).2.1 0 jv_c248 = true := jv_fast (by decide +kernel)
theorem jv_k249 : jv_ck2 (jv_ym 249).2.1 0 jv_c249 = true := jv_fast (by decide +kernel)
theorem jv_k250 : jv_ck2 (jv_ym 250).2.1 0 jv_c250 = true := jv_fast (by decide +kernel)
theorem jv_k251 : jv_ck2 (jv_ym 251).2.1 0 jv_c251 = true := jv_fast (by decide +kernel)
theorem jv_k252 : jv_ck2 (jv_ym 252).2.1 0 jv_c252 = true := jv_fast (by decide +kernel)
theorem jv_k253 : jv_ck2 (jv_ym 253).2.1 0 jv_c253 = true := jv_fast (by decide +kernel)
theorem jv_k254 : jv_ck2 (jv_ym 254).2.1 0 jv_c254 = true := jv_fast (by decide +kernel)
theorem jv_k255 : jv_ck2 (jv_ym 255).2.1 0 jv_c255 = true := jv_fast (by decide +kernel)
theorem jv_k256 : jv_ck2 (jv_ym 256).2.1 0 jv_c256 = true := jv_fast (by decide +kernel)
theorem jv_k257 : jv_ck2 (jv_ym 257).2.1 0 jv_c257 = true := jv_fast (by decide +kernel)
theorem jv_k258 : jv_ck2 (jv_ym 258).2.1 0 jv_c258 = true := jv_fast (by decide +kernel)
theorem jv_k259 : jv_ck2 (jv_ym 259).2.1 0 jv_c259 = true := jv_fast (by decide +kernel)
theorem jv_k260 : jv_ck2 (jv_ym 260).2.1 0 jv_c260 = true := jv_fast (by decide +kernel)
theorem jv_k261 : jv_ck2 (jv_ym 261).2.1 0 jv_c261 = true := jv_fast (by decide +kernel)
theorem jv_k262 : jv_ck2 (jv_ym 262).2.1 0 jv_c262 = true := jv_fast (by decide +kernel)
theorem jv_k263 : jv_ck2 (jv_ym 263).2.1 0 jv_c263 = true := jv_fast (by decide +kernel)
theorem jv_k264 : jv_ck2 (jv_ym 264).2.1 0 jv_c264 = true := jv_fast (by decide +kernel)
theorem jv_k265 : jv_ck2 (jv_ym 265).2.1 0 jv_c265 = true := jv_fast (by decide +kernel)
theorem jv_k266 : jv_ck2 (jv_ym 266).2.1 0 jv_c266 = true := jv_fast (by decide +kernel)
theorem jv_k267 : jv_ck2 (jv_ym 267).2.1 0 jv_c267 = true := jv_fast (by decide +kernel)
theorem jv_k268 : jv_ck2 (jv_ym 268).2.1 0 jv_c268 = true := jv_fast (by decide +kernel)
theorem jv_k269 : jv_ck2 (jv_ym 269).2.1 0 jv_c269 = true := jv_fast (by decide +kernel)
theorem jv_k270 : jv_ck2 (jv_ym 270).2.1 0 jv_c270 = true := jv_fast (by decide +kernel)
theorem jv_k271 : jv_ck2 (jv_ym 271).2.1 0 jv_c271 = true := jv_fast (by decide +kernel)
end
section

end
