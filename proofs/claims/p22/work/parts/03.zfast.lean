/-! A METHOD'S CODE CHECKED BY ITS BYTES AS A LIST (in an array each place costs its number): printed by wip/gen/fast.py -/
def fd_F (p : Nat) : {F : Nat → Decoder Instr // Decoder.instr p = Reader.u1 >>= F} := ⟨_, rfl⟩
theorem fd_u1 {b : ByteArray} {p : Nat} {x : UInt8} {r : List UInt8} (h : b.data.toList.drop p = x :: r) : Reader.runAt (Reader.u1 : Decoder Nat) b p = .ok (x.toNat, p + 1) ∧ b.data.toList.drop (p + 1) = r := by
  have hp : p < b.data.toList.length := by
    rcases Nat.lt_or_ge p b.data.toList.length with q | q
    · exact q
    · rw [List.drop_eq_nil_of_le q] at h; cases h
  have h2 := List.drop_eq_getElem_cons hp
  rw [h] at h2
  have e1 : x = b.data.toList[p] := (List.cons.inj h2).1
  have e2 : r = b.data.toList.drop (p + 1) := (List.cons.inj h2).2
  refine ⟨?_, e2.symm⟩
  have hs : p < b.size := hp
  show (if h : p < b.size then (do set (p + 1); pure (b[p]'h).toNat) else throw (HasTruncated.truncated p) : Decoder Nat) b p = _
  rw [dif_pos hs]
  show (Except.ok ((b[p]'hs).toNat, p + 1) : Except DecodeError (Nat × Nat)) = _
  rw [e1]
  rfl
theorem fd_u2 {b : ByteArray} {p : Nat} {x y : UInt8} {r : List UInt8} (h : b.data.toList.drop p = x :: y :: r) : Reader.runAt (Reader.u2 : Decoder Nat) b p = .ok (x.toNat * 256 + y.toNat, p + 2) := by
  obtain ⟨h1, h2⟩ := fd_u1 h
  have h3 := (fd_u1 h2).1
  show Except.bind (Reader.runAt (Reader.u1 : Decoder Nat) b p) (fun v => Except.bind (Reader.runAt (Reader.u1 : Decoder Nat) b v.2) (fun w => .ok (v.1 * 256 + w.1, w.2))) = _
  rw [h1]
  show Except.bind (Reader.runAt (Reader.u1 : Decoder Nat) b (p + 1)) (fun w => .ok (x.toNat * 256 + w.1, w.2)) = _
  rw [h3]
  rfl
theorem fd_s1 {b : ByteArray} {p : Nat} {x : UInt8} {r : List UInt8} (h : b.data.toList.drop p = x :: r) : Reader.runAt (Reader.s1 : Decoder Int) b p = .ok (Reader.signed 8 x.toNat, p + 1) := by
  show Except.bind (Reader.runAt (Reader.u1 : Decoder Nat) b p) (fun v => .ok (Reader.signed 8 v.1, v.2)) = _
  rw [(fd_u1 h).1]
  rfl
theorem fd_s2 {b : ByteArray} {p : Nat} {x y : UInt8} {r : List UInt8} (h : b.data.toList.drop p = x :: y :: r) : Reader.runAt (Reader.s2 : Decoder Int) b p = .ok (Reader.signed 16 (x.toNat * 256 + y.toNat), p + 2) := by
  show Except.bind (Reader.runAt (Reader.u2 : Decoder Nat) b p) (fun v => .ok (Reader.signed 16 v.1, v.2)) = _
  rw [fd_u2 h]
  rfl
theorem fd_go {b : ByteArray} {p k q : Nat} {i : Instr} (h1 : Reader.runAt (Reader.u1 : Decoder Nat) b p = .ok (k, p + 1)) (h2 : Reader.runAt ((fd_F p).1 k) b (p + 1) = .ok (i, p + 1 + q)) : decode b p = .ok (i, q + 1) := by
  unfold decode
  rw [(fd_F p).2]
  show Except.bind (Except.bind (Reader.runAt (Reader.u1 : Decoder Nat) b p) (fun v => Reader.runAt ((fd_F p).1 v.1) b v.2)) (fun v => .ok (v.1, v.2 - p)) = _
  rw [h1]
  show Except.bind (Reader.runAt ((fd_F p).1 k) b (p + 1)) (fun v => .ok (v.1, v.2 - p)) = _
  rw [h2]
  show Except.ok (i, p + 1 + q - p) = _
  rw [show p + 1 + q - p = q + 1 by omega]
theorem fd_map {α : Type} {m : Decoder α} {g : α → Instr} {b : ByteArray} {q q' : Nat} {a : α} (h : Reader.runAt m b q = .ok (a, q')) : Reader.runAt (m >>= fun v => pure (g v)) b q = .ok (g a, q') := by
  show Except.bind (Reader.runAt m b q) (fun v => .ok (g v.1, v.2)) = _
  rw [h]
  rfl
theorem fd_map2 {m : Decoder Nat} {m' : Decoder Int} {g : Nat → Int → Instr} {b : ByteArray} {q q' q'' : Nat} {a : Nat} {c : Int} (h : Reader.runAt m b q = .ok (a, q')) (h' : Reader.runAt m' b q' = .ok (c, q'')) : Reader.runAt (m >>= fun v => m' >>= fun w => pure (g v w)) b q = .ok (g a c, q'') := by
  show Except.bind (Reader.runAt m b q) (fun v => Except.bind (Reader.runAt m' b v.2) (fun w => .ok (g v.1 w.1, w.2))) = _
  rw [h]
  show Except.bind (Reader.runAt m' b q') (fun w => .ok (g a w.1, w.2)) = _
  rw [h']
  rfl
def fd_ic : Int → Nat
  | .ofNat 0 => 3
  | .ofNat 1 => 4
  | .ofNat 2 => 5
  | .ofNat 3 => 6
  | .ofNat 4 => 7
  | .ofNat 5 => 8
  | .negSucc 0 => 2
  | _ => 256
def fd_cn : ClassFile.Cond → Nat
  | .eq => 0
  | .ne => 1
  | .lt => 2
  | .ge => 3
  | .gt => 4
  | .le => 5
/-- the first byte (256: not looked at here) -/
def fd_op (i : Instr) : Nat := match i with
  | .ireturn => 172
  | .iaload => 46
  | .iadd => 96
  | .pop => 87
  | .return_ => 177
  | .isub => 100
  | .iastore => 79
  | .dup => 89
  | .imul => 104
  | .idiv => 108
  | .irem => 112
  | .dup2 => 92
  | .arraylength => 190
  | .ineg => 116
  | .iand => 126
  | .i2f => 134
  | .i2d => 135
  | .bastore => 84
  | .aaload => 50
  | .ishr => 122
  | .aastore => 83
  | .freturn => 174
  | .fdiv => 110
  | .f2d => 141
  | .dreturn => 175
  | .ddiv => 111
  | .baload => 51
  | .areturn => 176
  | .ixor => 130
  | .ishl => 120
  | .ior => 128
  | .iload _ => 21
  | .dload _ => 24
  | .aload _ => 25
  | .istore _ => 54
  | .dstore _ => 57
  | .astore _ => 58
  | .ldc _ => 18
  | .getfield _ => 180
  | .putfield _ => 181
  | .invokevirtual _ => 182
  | .invokespecial _ => 183
  | .invokestatic _ => 184
  | .new _ => 187
  | .anewarray _ => 189
  | .bipush _ => 16
  | .sipush _ => 17
  | .goto _ => 167
  | .aload_n n => 42 + n.val
  | .iload_n n => 26 + n.val
  | .istore_n n => 59 + n.val
  | .astore_n n => 75 + n.val
  | .iinc _ _ => 132
  | .iconst n => fd_ic n
  | .ifCond c _ => 153 + fd_cn c
  | .if_icmp c _ => 159 + fd_cn c
  | _ => 256
def fd_a1 (n : Nat) (r : List UInt8) : Bool := match r with
  | y :: _ => Nat.beq y.toNat n
  | [] => false
def fd_a2 (n : Nat) (r : List UInt8) : Bool := match r with
  | y :: z :: _ => Nat.beq (y.toNat * 256 + z.toNat) n
  | _ => false
def fd_b1 (n : Int) (r : List UInt8) : Bool := match r with
  | y :: _ => decide (Reader.signed 8 y.toNat = n)
  | [] => false
def fd_b2 (n : Int) (r : List UInt8) : Bool := match r with
  | y :: z :: _ => decide (Reader.signed 16 (y.toNat * 256 + z.toNat) = n)
  | _ => false
theorem fd_a1_ok {b : ByteArray} {p n : Nat} {r : List UInt8} (h : b.data.toList.drop p = r) (e : fd_a1 n r = true) : Reader.runAt (Reader.u1 : Decoder Nat) b p = .ok (n, p + 1) ∧ b.data.toList.drop (p + 1) = r.tail := by
  match r, h, e with
  | y :: r', h, e =>
    have e2 : y.toNat = n := Nat.eq_of_beq_eq_true e
    have h2 := fd_u1 h
    rw [e2] at h2
    exact h2
  | [], _, e => cases e
theorem fd_a2_ok {b : ByteArray} {p n : Nat} {r : List UInt8} (h : b.data.toList.drop p = r) (e : fd_a2 n r = true) : Reader.runAt (Reader.u2 : Decoder Nat) b p = .ok (n, p + 2) := by
  match r, h, e with
  | y :: z :: r', h, e =>
    have e2 : y.toNat * 256 + z.toNat = n := Nat.eq_of_beq_eq_true e
    have h2 := fd_u2 h
    rw [e2] at h2
    exact h2
  | [_], _, e => cases e
  | [], _, e => cases e
theorem fd_b1_ok {b : ByteArray} {p : Nat} {n : Int} {r : List UInt8} (h : b.data.toList.drop p = r) (e : fd_b1 n r = true) : Reader.runAt (Reader.s1 : Decoder Int) b p = .ok (n, p + 1) := by
  match r, h, e with
  | y :: r', h, e =>
    have e2 : Reader.signed 8 y.toNat = n := of_decide_eq_true e
    have h2 := fd_s1 h
    rw [e2] at h2
    exact h2
  | [], _, e => cases e
theorem fd_b2_ok {b : ByteArray} {p : Nat} {n : Int} {r : List UInt8} (h : b.data.toList.drop p = r) (e : fd_b2 n r = true) : Reader.runAt (Reader.s2 : Decoder Int) b p = .ok (n, p + 2) := by
  match r, h, e with
  | y :: z :: r', h, e =>
    have e2 : Reader.signed 16 (y.toNat * 256 + z.toNat) = n := of_decide_eq_true e
    have h2 := fd_s2 h
    rw [e2] at h2
    exact h2
  | [_], _, e => cases e
  | [], _, e => cases e
def fd_arg (i : Instr) (r : List UInt8) : Bool := match i with
  | .iload n => fd_a1 n r
  | .dload n => fd_a1 n r
  | .aload n => fd_a1 n r
  | .istore n => fd_a1 n r
  | .dstore n => fd_a1 n r
  | .astore n => fd_a1 n r
  | .ldc n => fd_a1 n r
  | .getfield n => fd_a2 n r
  | .putfield n => fd_a2 n r
  | .invokevirtual n => fd_a2 n r
  | .invokespecial n => fd_a2 n r
  | .invokestatic n => fd_a2 n r
  | .new n => fd_a2 n r
  | .anewarray n => fd_a2 n r
  | .bipush n => fd_b1 n r
  | .sipush n => fd_b2 n r
  | .goto n => fd_b2 n r
  | .ifCond _ n => fd_b2 n r
  | .if_icmp _ n => fd_b2 n r
  | .iinc a n => fd_a1 a r && fd_b1 n r.tail
  | _ => true
def fd_ck (i : Instr) (l : List UInt8) : Bool := match l with
  | x :: r => Nat.beq x.toNat (fd_op i) && fd_arg i r
  | [] => false
theorem fd_ok {b : ByteArray} {p : Nat} {i : Instr} {x : UInt8} {r : List UInt8} (h : b.data.toList.drop p = x :: r) (h1 : x.toNat = fd_op i) (h2 : fd_arg i r = true) : decode b p = .ok (i, jv_len i) := by
  have hx : x.toNat < 256 := x.toNat_lt
  rw [h1] at hx
  obtain ⟨hu, hr⟩ := fd_u1 h
  rw [h1] at hu
  cases i
  case ireturn => exact fd_go (k := 172) (q := 0) hu rfl
  case iaload => exact fd_go (k := 46) (q := 0) hu rfl
  case iadd => exact fd_go (k := 96) (q := 0) hu rfl
  case pop => exact fd_go (k := 87) (q := 0) hu rfl
  case return_ => exact fd_go (k := 177) (q := 0) hu rfl
  case isub => exact fd_go (k := 100) (q := 0) hu rfl
  case iastore => exact fd_go (k := 79) (q := 0) hu rfl
  case dup => exact fd_go (k := 89) (q := 0) hu rfl
  case imul => exact fd_go (k := 104) (q := 0) hu rfl
  case idiv => exact fd_go (k := 108) (q := 0) hu rfl
  case irem => exact fd_go (k := 112) (q := 0) hu rfl
  case dup2 => exact fd_go (k := 92) (q := 0) hu rfl
  case arraylength => exact fd_go (k := 190) (q := 0) hu rfl
  case ineg => exact fd_go (k := 116) (q := 0) hu rfl
  case iand => exact fd_go (k := 126) (q := 0) hu rfl
  case i2f => exact fd_go (k := 134) (q := 0) hu rfl
  case i2d => exact fd_go (k := 135) (q := 0) hu rfl
  case bastore => exact fd_go (k := 84) (q := 0) hu rfl
  case aaload => exact fd_go (k := 50) (q := 0) hu rfl
  case ishr => exact fd_go (k := 122) (q := 0) hu rfl
  case aastore => exact fd_go (k := 83) (q := 0) hu rfl
  case freturn => exact fd_go (k := 174) (q := 0) hu rfl
  case fdiv => exact fd_go (k := 110) (q := 0) hu rfl
  case f2d => exact fd_go (k := 141) (q := 0) hu rfl
  case dreturn => exact fd_go (k := 175) (q := 0) hu rfl
  case ddiv => exact fd_go (k := 111) (q := 0) hu rfl
  case baload => exact fd_go (k := 51) (q := 0) hu rfl
  case areturn => exact fd_go (k := 176) (q := 0) hu rfl
  case ixor => exact fd_go (k := 130) (q := 0) hu rfl
  case ishl => exact fd_go (k := 120) (q := 0) hu rfl
  case ior => exact fd_go (k := 128) (q := 0) hu rfl
  case iload n => exact fd_go (k := 21) (q := 1) hu (fd_map (g := Instr.iload) (fd_a1_ok hr h2).1)
  case dload n => exact fd_go (k := 24) (q := 1) hu (fd_map (g := Instr.dload) (fd_a1_ok hr h2).1)
  case aload n => exact fd_go (k := 25) (q := 1) hu (fd_map (g := Instr.aload) (fd_a1_ok hr h2).1)
  case istore n => exact fd_go (k := 54) (q := 1) hu (fd_map (g := Instr.istore) (fd_a1_ok hr h2).1)
  case dstore n => exact fd_go (k := 57) (q := 1) hu (fd_map (g := Instr.dstore) (fd_a1_ok hr h2).1)
  case astore n => exact fd_go (k := 58) (q := 1) hu (fd_map (g := Instr.astore) (fd_a1_ok hr h2).1)
  case ldc n => exact fd_go (k := 18) (q := 1) hu (fd_map (g := Instr.ldc) (fd_a1_ok hr h2).1)
  case getfield n => exact fd_go (k := 180) (q := 2) hu (fd_map (g := Instr.getfield) (fd_a2_ok hr h2))
  case putfield n => exact fd_go (k := 181) (q := 2) hu (fd_map (g := Instr.putfield) (fd_a2_ok hr h2))
  case invokevirtual n => exact fd_go (k := 182) (q := 2) hu (fd_map (g := Instr.invokevirtual) (fd_a2_ok hr h2))
  case invokespecial n => exact fd_go (k := 183) (q := 2) hu (fd_map (g := Instr.invokespecial) (fd_a2_ok hr h2))
  case invokestatic n => exact fd_go (k := 184) (q := 2) hu (fd_map (g := Instr.invokestatic) (fd_a2_ok hr h2))
  case new n => exact fd_go (k := 187) (q := 2) hu (fd_map (g := Instr.new) (fd_a2_ok hr h2))
  case anewarray n => exact fd_go (k := 189) (q := 2) hu (fd_map (g := Instr.anewarray) (fd_a2_ok hr h2))
  case bipush n => exact fd_go (k := 16) (q := 1) hu (fd_map (g := Instr.bipush) (fd_b1_ok hr h2))
  case sipush n => exact fd_go (k := 17) (q := 2) hu (fd_map (g := Instr.sipush) (fd_b2_ok hr h2))
  case goto n => exact fd_go (k := 167) (q := 2) hu (fd_map (g := Instr.goto) (fd_b2_ok hr h2))
  case aload_n n =>
    obtain ⟨n, hn⟩ := n
    match n, hn, hu, hx with
    | 0, _, hu, _ => exact fd_go (k := 42) (q := 0) hu rfl
    | 1, _, hu, _ => exact fd_go (k := 43) (q := 0) hu rfl
    | 2, _, hu, _ => exact fd_go (k := 44) (q := 0) hu rfl
    | 3, _, hu, _ => exact fd_go (k := 45) (q := 0) hu rfl
    | n + 4, hn, _, _ => exact absurd hn (by omega)
  case iload_n n =>
    obtain ⟨n, hn⟩ := n
    match n, hn, hu, hx with
    | 0, _, hu, _ => exact fd_go (k := 26) (q := 0) hu rfl
    | 1, _, hu, _ => exact fd_go (k := 27) (q := 0) hu rfl
    | 2, _, hu, _ => exact fd_go (k := 28) (q := 0) hu rfl
    | 3, _, hu, _ => exact fd_go (k := 29) (q := 0) hu rfl
    | n + 4, hn, _, _ => exact absurd hn (by omega)
  case istore_n n =>
    obtain ⟨n, hn⟩ := n
    match n, hn, hu, hx with
    | 0, _, hu, _ => exact fd_go (k := 59) (q := 0) hu rfl
    | 1, _, hu, _ => exact fd_go (k := 60) (q := 0) hu rfl
    | 2, _, hu, _ => exact fd_go (k := 61) (q := 0) hu rfl
    | 3, _, hu, _ => exact fd_go (k := 62) (q := 0) hu rfl
    | n + 4, hn, _, _ => exact absurd hn (by omega)
  case astore_n n =>
    obtain ⟨n, hn⟩ := n
    match n, hn, hu, hx with
    | 0, _, hu, _ => exact fd_go (k := 75) (q := 0) hu rfl
    | 1, _, hu, _ => exact fd_go (k := 76) (q := 0) hu rfl
    | 2, _, hu, _ => exact fd_go (k := 77) (q := 0) hu rfl
    | 3, _, hu, _ => exact fd_go (k := 78) (q := 0) hu rfl
    | n + 4, hn, _, _ => exact absurd hn (by omega)
  case iinc a n =>
    have h3 : (fd_a1 a r && fd_b1 n r.tail) = true := h2
    rw [Bool.and_eq_true] at h3
    obtain ⟨q1, q2⟩ := fd_a1_ok hr h3.1
    exact fd_go (k := 132) (q := 2) hu (fd_map2 (g := Instr.iinc) q1 (fd_b1_ok q2 h3.2))
  case iconst n =>
    match n, hu, hx with
    | .ofNat 0, hu, _ => exact fd_go (k := 3) (q := 0) hu rfl
    | .ofNat 1, hu, _ => exact fd_go (k := 4) (q := 0) hu rfl
    | .ofNat 2, hu, _ => exact fd_go (k := 5) (q := 0) hu rfl
    | .ofNat 3, hu, _ => exact fd_go (k := 6) (q := 0) hu rfl
    | .ofNat 4, hu, _ => exact fd_go (k := 7) (q := 0) hu rfl
    | .ofNat 5, hu, _ => exact fd_go (k := 8) (q := 0) hu rfl
    | .ofNat (m + 6), _, hx => exact absurd hx (Nat.lt_irrefl 256)
    | .negSucc 0, hu, _ => exact fd_go (k := 2) (q := 0) hu rfl
    | .negSucc (m + 1), _, hx => exact absurd hx (Nat.lt_irrefl 256)
  case ifCond c n =>
    cases c
    case eq => exact fd_go (k := 153) (q := 2) hu (fd_map (g := Instr.ifCond .eq) (fd_b2_ok hr h2))
    case ne => exact fd_go (k := 154) (q := 2) hu (fd_map (g := Instr.ifCond .ne) (fd_b2_ok hr h2))
    case lt => exact fd_go (k := 155) (q := 2) hu (fd_map (g := Instr.ifCond .lt) (fd_b2_ok hr h2))
    case ge => exact fd_go (k := 156) (q := 2) hu (fd_map (g := Instr.ifCond .ge) (fd_b2_ok hr h2))
    case gt => exact fd_go (k := 157) (q := 2) hu (fd_map (g := Instr.ifCond .gt) (fd_b2_ok hr h2))
    case le => exact fd_go (k := 158) (q := 2) hu (fd_map (g := Instr.ifCond .le) (fd_b2_ok hr h2))
  case if_icmp c n =>
    cases c
    case eq => exact fd_go (k := 159) (q := 2) hu (fd_map (g := Instr.if_icmp .eq) (fd_b2_ok hr h2))
    case ne => exact fd_go (k := 160) (q := 2) hu (fd_map (g := Instr.if_icmp .ne) (fd_b2_ok hr h2))
    case lt => exact fd_go (k := 161) (q := 2) hu (fd_map (g := Instr.if_icmp .lt) (fd_b2_ok hr h2))
    case ge => exact fd_go (k := 162) (q := 2) hu (fd_map (g := Instr.if_icmp .ge) (fd_b2_ok hr h2))
    case gt => exact fd_go (k := 163) (q := 2) hu (fd_map (g := Instr.if_icmp .gt) (fd_b2_ok hr h2))
    case le => exact fd_go (k := 164) (q := 2) hu (fd_map (g := Instr.if_icmp .le) (fd_b2_ok hr h2))
  all_goals exact absurd hx (Nat.lt_irrefl 256)
theorem fd_ck_ok {b : ByteArray} {p : Nat} {i : Instr} {l : List UInt8} (h : b.data.toList.drop p = l) (e : fd_ck i l = true) : decode b p = .ok (i, jv_len i) := by
  match l, h, e with
  | x :: r, h, e =>
    have e2 : (Nat.beq x.toNat (fd_op i) && fd_arg i r) = true := e
    rw [Bool.and_eq_true] at e2
    exact fd_ok h (Nat.eq_of_beq_eq_true e2.1) e2.2
  | [], _, e => cases e
def jv_f1 (b : ByteArray) : List jv_I → List UInt8 → Nat → Bool
  | [], _, _ => true
  | none :: c, l, pc => jv_f1 b c l.tail (pc + 1)
  | some (i, len) :: c, l, pc => (fd_ck i l && Nat.beq len (jv_len i) || decide (decode b pc = .ok (i, len)) && (jv_sw i || decide (len = jv_len i))) && jv_f1 b c l.tail (pc + 1)
def jv_f2 (b : ByteArray) : List (List jv_I) → List UInt8 → Nat → Bool
  | [], _, _ => true
  | c :: cs, l, pc => Nat.ble c.length 16 && jv_f1 b c l pc && jv_f2 b cs (l.drop 16) (pc + 16)
theorem jv_f1_ok {b : ByteArray} : ∀ (c : List jv_I) (l : List UInt8) (pc : Nat), b.data.toList.drop pc = l → jv_f1 b c l pc = true → jv_ck1 b pc c = true
  | [], _, _, _, _ => rfl
  | none :: c, l, pc, h, e => jv_f1_ok c l.tail (pc + 1) (by rw [← h, List.tail_drop]) e
  | some (i, len) :: c, l, pc, h, e => by
    have e2 : ((fd_ck i l && Nat.beq len (jv_len i) || decide (decode b pc = .ok (i, len)) && (jv_sw i || decide (len = jv_len i))) && jv_f1 b c l.tail (pc + 1)) = true := e
    rw [Bool.and_eq_true, Bool.or_eq_true, Bool.and_eq_true] at e2
    have h3 := jv_f1_ok c l.tail (pc + 1) (by rw [← h, List.tail_drop]) e2.2
    show (decide (decode b pc = .ok (i, len)) && (jv_sw i || decide (len = jv_len i)) && jv_ck1 b (pc + 1) c) = true
    rw [Bool.and_eq_true]
    refine ⟨?_, h3⟩
    rcases e2.1 with q | q
    · have hl : len = jv_len i := Nat.eq_of_beq_eq_true q.2
      have hd := fd_ck_ok h q.1
      rw [← hl] at hd
      rw [Bool.and_eq_true, Bool.or_eq_true]
      exact ⟨decide_eq_true hd, Or.inr (decide_eq_true hl)⟩
    · exact q
theorem jv_f2_ok {b : ByteArray} : ∀ (cs : List (List jv_I)) (l : List UInt8) (pc : Nat), b.data.toList.drop pc = l → jv_f2 b cs l pc = true → jv_ck2 b pc cs = true
  | [], _, _, _, _ => rfl
  | c :: cs, l, pc, h, e => by
    have e2 : (Nat.ble c.length 16 && jv_f1 b c l pc && jv_f2 b cs (l.drop 16) (pc + 16)) = true := e
    rw [Bool.and_eq_true, Bool.and_eq_true] at e2
    show (decide (c.length ≤ 16) && jv_ck1 b pc c && jv_ck2 b (pc + 16) cs) = true
    rw [Bool.and_eq_true, Bool.and_eq_true]
    exact ⟨⟨decide_eq_true (Nat.le_of_ble_eq_true e2.1.1), jv_f1_ok c l pc h e2.1.2⟩, jv_f2_ok cs (l.drop 16) (pc + 16) (by rw [← h, List.drop_drop]) e2.2⟩
theorem jv_fast {b : ByteArray} {cs : List (List jv_I)} (h : jv_f2 b cs b.data.toList 0 = true) : jv_ck2 b 0 cs = true := jv_f2_ok cs _ 0 rfl h
