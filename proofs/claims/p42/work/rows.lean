section
-- ===== PART A: goes FIRST, ahead of the names: the tables' words, and 'selects' of the private methods out of them =====
/-- a private method of a class that the tables say can be made, by its rows of tables_1 -/
def lw_okq (q : MethodName × Nat) : Prop := (q.1.cls ≠ "java/lang/invoke/MethodHandle" ∧ q.1.cls ≠ "java/lang/invoke/VarHandle") ∧ Cond.instantiable q.1.cls q.2 ∈ tables_1 ∧ Cond.privateMethod q.1 ∈ tables_1 ∧ Cond.instanceMethod q.1 ∈ tables_1
theorem lw_p0 : lw_okq (⟨"SeatSwap$SetupReader", "begin", "()V"⟩, 6) := ⟨⟨by decide +kernel, by decide +kernel⟩, List.mem_of_getElem? (i := 29) (by decide +kernel), List.mem_of_getElem? (i := 316) (by decide +kernel), List.mem_of_getElem? (i := 317) (by decide +kernel)⟩
theorem lw_p1 : lw_okq (⟨"SeatSwap$SetupReader", "nextToken", "()V"⟩, 6) := ⟨⟨by decide +kernel, by decide +kernel⟩, List.mem_of_getElem? (i := 29) (by decide +kernel), List.mem_of_getElem? (i := 320) (by decide +kernel), List.mem_of_getElem? (i := 321) (by decide +kernel)⟩
theorem lw_p2 : lw_okq (⟨"SeatSwap$SetupReader", "take", "(Ljava/lang/String;)V"⟩, 6) := ⟨⟨by decide +kernel, by decide +kernel⟩, List.mem_of_getElem? (i := 29) (by decide +kernel), List.mem_of_getElem? (i := 332) (by decide +kernel), List.mem_of_getElem? (i := 333) (by decide +kernel)⟩
theorem lw_p3 : lw_okq (⟨"SeatSwap$SetupReader", "isWord", "(Ljava/lang/String;)Z"⟩, 6) := ⟨⟨by decide +kernel, by decide +kernel⟩, List.mem_of_getElem? (i := 29) (by decide +kernel), List.mem_of_getElem? (i := 336) (by decide +kernel), List.mem_of_getElem? (i := 337) (by decide +kernel)⟩
theorem lw_p4 : lw_okq (⟨"SeatSwap$SetupReader", "pass", "(Z)V"⟩, 6) := ⟨⟨by decide +kernel, by decide +kernel⟩, List.mem_of_getElem? (i := 29) (by decide +kernel), List.mem_of_getElem? (i := 388) (by decide +kernel), List.mem_of_getElem? (i := 389) (by decide +kernel)⟩
theorem lw_p5 : lw_okq (⟨"SeatSwap$SetupReader", "takeInt", "(II)I"⟩, 6) := ⟨⟨by decide +kernel, by decide +kernel⟩, List.mem_of_getElem? (i := 29) (by decide +kernel), List.mem_of_getElem? (i := 392) (by decide +kernel), List.mem_of_getElem? (i := 393) (by decide +kernel)⟩
theorem lw_p6 : lw_okq (⟨"SeatSwap$SetupReader", "number", "()I"⟩, 6) := ⟨⟨by decide +kernel, by decide +kernel⟩, List.mem_of_getElem? (i := 29) (by decide +kernel), List.mem_of_getElem? (i := 396) (by decide +kernel), List.mem_of_getElem? (i := 397) (by decide +kernel)⟩
theorem lw_p7 : lw_okq (⟨"SeatSwap$SetupReader", "isSign", "(C)Z"⟩, 6) := ⟨⟨by decide +kernel, by decide +kernel⟩, List.mem_of_getElem? (i := 29) (by decide +kernel), List.mem_of_getElem? (i := 401) (by decide +kernel), List.mem_of_getElem? (i := 402) (by decide +kernel)⟩
theorem lw_p8 : lw_okq (⟨"SeatSwap$SetupReader", "readTraveller", "(LSeatSwap$Train;)V"⟩, 6) := ⟨⟨by decide +kernel, by decide +kernel⟩, List.mem_of_getElem? (i := 29) (by decide +kernel), List.mem_of_getElem? (i := 405) (by decide +kernel), List.mem_of_getElem? (i := 406) (by decide +kernel)⟩
theorem lw_p9 : lw_okq (⟨"SeatSwap$SetupReader", "takeFreeSeat", "(LSeatSwap$Train;)I"⟩, 6) := ⟨⟨by decide +kernel, by decide +kernel⟩, List.mem_of_getElem? (i := 29) (by decide +kernel), List.mem_of_getElem? (i := 414) (by decide +kernel), List.mem_of_getElem? (i := 415) (by decide +kernel)⟩
theorem lw_p10 : lw_okq (⟨"SeatSwap$SetupReader", "takeName", "()I"⟩, 6) := ⟨⟨by decide +kernel, by decide +kernel⟩, List.mem_of_getElem? (i := 29) (by decide +kernel), List.mem_of_getElem? (i := 434) (by decide +kernel), List.mem_of_getElem? (i := 435) (by decide +kernel)⟩
theorem lw_p11 : lw_okq (⟨"SeatSwap$SetupReader", "packedName", "()I"⟩, 6) := ⟨⟨by decide +kernel, by decide +kernel⟩, List.mem_of_getElem? (i := 29) (by decide +kernel), List.mem_of_getElem? (i := 438) (by decide +kernel), List.mem_of_getElem? (i := 439) (by decide +kernel)⟩
theorem lw_p12 : lw_okq (⟨"SeatSwap$SetupReader", "isName", "()Z"⟩, 6) := ⟨⟨by decide +kernel, by decide +kernel⟩, List.mem_of_getElem? (i := 29) (by decide +kernel), List.mem_of_getElem? (i := 442) (by decide +kernel), List.mem_of_getElem? (i := 443) (by decide +kernel)⟩
theorem lw_p13 : lw_okq (⟨"SeatSwap$SetupReader", "isKeyword", "()Z"⟩, 6) := ⟨⟨by decide +kernel, by decide +kernel⟩, List.mem_of_getElem? (i := 29) (by decide +kernel), List.mem_of_getElem? (i := 446) (by decide +kernel), List.mem_of_getElem? (i := 447) (by decide +kernel)⟩
theorem lw_p14 : lw_okq (⟨"SeatSwap$SetupReader", "takeIfThere", "(Ljava/lang/String;)Z"⟩, 6) := ⟨⟨by decide +kernel, by decide +kernel⟩, List.mem_of_getElem? (i := 29) (by decide +kernel), List.mem_of_getElem? (i := 457) (by decide +kernel), List.mem_of_getElem? (i := 458) (by decide +kernel)⟩
theorem lw_p15 : lw_okq (⟨"SeatSwap$SetupReader", "takeLike", "()I"⟩, 6) := ⟨⟨by decide +kernel, by decide +kernel⟩, List.mem_of_getElem? (i := 29) (by decide +kernel), List.mem_of_getElem? (i := 461) (by decide +kernel), List.mem_of_getElem? (i := 462) (by decide +kernel)⟩
def lw_privs_1 : List (MethodName × Nat) := [(⟨"SeatSwap$SetupReader", "begin", "()V"⟩, 6), (⟨"SeatSwap$SetupReader", "nextToken", "()V"⟩, 6), (⟨"SeatSwap$SetupReader", "take", "(Ljava/lang/String;)V"⟩, 6), (⟨"SeatSwap$SetupReader", "isWord", "(Ljava/lang/String;)Z"⟩, 6), (⟨"SeatSwap$SetupReader", "pass", "(Z)V"⟩, 6), (⟨"SeatSwap$SetupReader", "takeInt", "(II)I"⟩, 6), (⟨"SeatSwap$SetupReader", "number", "()I"⟩, 6), (⟨"SeatSwap$SetupReader", "isSign", "(C)Z"⟩, 6), (⟨"SeatSwap$SetupReader", "readTraveller", "(LSeatSwap$Train;)V"⟩, 6), (⟨"SeatSwap$SetupReader", "takeFreeSeat", "(LSeatSwap$Train;)I"⟩, 6), (⟨"SeatSwap$SetupReader", "takeName", "()I"⟩, 6), (⟨"SeatSwap$SetupReader", "packedName", "()I"⟩, 6), (⟨"SeatSwap$SetupReader", "isName", "()Z"⟩, 6), (⟨"SeatSwap$SetupReader", "isKeyword", "()Z"⟩, 6), (⟨"SeatSwap$SetupReader", "takeIfThere", "(Ljava/lang/String;)Z"⟩, 6), (⟨"SeatSwap$SetupReader", "takeLike", "()I"⟩, 6)]
theorem lw_r1 : ∀ q ∈ lw_privs_1, lw_okq q := List.forall_mem_cons.mpr ⟨lw_p0, List.forall_mem_cons.mpr ⟨lw_p1, List.forall_mem_cons.mpr ⟨lw_p2, List.forall_mem_cons.mpr ⟨lw_p3, List.forall_mem_cons.mpr ⟨lw_p4, List.forall_mem_cons.mpr ⟨lw_p5, List.forall_mem_cons.mpr ⟨lw_p6, List.forall_mem_cons.mpr ⟨lw_p7, List.forall_mem_cons.mpr ⟨lw_p8, List.forall_mem_cons.mpr ⟨lw_p9, List.forall_mem_cons.mpr ⟨lw_p10, List.forall_mem_cons.mpr ⟨lw_p11, List.forall_mem_cons.mpr ⟨lw_p12, List.forall_mem_cons.mpr ⟨lw_p13, List.forall_mem_cons.mpr ⟨lw_p14, List.forall_mem_cons.mpr ⟨lw_p15, fun _ h => absurd h List.not_mem_nil⟩⟩⟩⟩⟩⟩⟩⟩⟩⟩⟩⟩⟩⟩⟩⟩
theorem lw_p16 : lw_okq (⟨"SeatSwap$Train", "countAtTable", "(LSeatSwap$Traveller;I)V"⟩, 13) := ⟨⟨by decide +kernel, by decide +kernel⟩, List.mem_of_getElem? (i := 165) (by decide +kernel), List.mem_of_getElem? (i := 477) (by decide +kernel), List.mem_of_getElem? (i := 478) (by decide +kernel)⟩
theorem lw_p17 : lw_okq (⟨"SeatSwap", "settleDraft", "()I"⟩, 10) := ⟨⟨by decide +kernel, by decide +kernel⟩, List.mem_of_getElem? (i := 21) (by decide +kernel), List.mem_of_getElem? (i := 502) (by decide +kernel), List.mem_of_getElem? (i := 503) (by decide +kernel)⟩
theorem lw_p18 : lw_okq (⟨"SeatSwap$Train", "membersAt", "(II)I"⟩, 13) := ⟨⟨by decide +kernel, by decide +kernel⟩, List.mem_of_getElem? (i := 165) (by decide +kernel), List.mem_of_getElem? (i := 526) (by decide +kernel), List.mem_of_getElem? (i := 527) (by decide +kernel)⟩
theorem lw_p19 : lw_okq (⟨"SeatSwap$Train", "exchangeSeats", "(II)V"⟩, 13) := ⟨⟨by decide +kernel, by decide +kernel⟩, List.mem_of_getElem? (i := 165) (by decide +kernel), List.mem_of_getElem? (i := 545) (by decide +kernel), List.mem_of_getElem? (i := 546) (by decide +kernel)⟩
theorem lw_p20 : lw_okq (⟨"SeatSwap$Train", "sitDown", "(II)V"⟩, 13) := ⟨⟨by decide +kernel, by decide +kernel⟩, List.mem_of_getElem? (i := 165) (by decide +kernel), List.mem_of_getElem? (i := 549) (by decide +kernel), List.mem_of_getElem? (i := 550) (by decide +kernel)⟩
theorem lw_p21 : lw_okq (⟨"SeatSwap$Past", "trainAt", "(I)LSeatSwap$Train;"⟩, 3) := ⟨⟨by decide +kernel, by decide +kernel⟩, List.mem_of_getElem? (i := 249) (by decide +kernel), List.mem_of_getElem? (i := 558) (by decide +kernel), List.mem_of_getElem? (i := 559) (by decide +kernel)⟩
theorem lw_p22 : lw_okq (⟨"SeatSwap$Log", "indexOf", "(II)I"⟩, 3) := ⟨⟨by decide +kernel, by decide +kernel⟩, List.mem_of_getElem? (i := 174) (by decide +kernel), List.mem_of_getElem? (i := 570) (by decide +kernel), List.mem_of_getElem? (i := 571) (by decide +kernel)⟩
theorem lw_p23 : lw_okq (⟨"SeatSwap$Log", "put", "(II)V"⟩, 3) := ⟨⟨by decide +kernel, by decide +kernel⟩, List.mem_of_getElem? (i := 174) (by decide +kernel), List.mem_of_getElem? (i := 575) (by decide +kernel), List.mem_of_getElem? (i := 576) (by decide +kernel)⟩
theorem lw_p24 : lw_okq (⟨"SeatSwap$Train", "passSeats", "(III)V"⟩, 13) := ⟨⟨by decide +kernel, by decide +kernel⟩, List.mem_of_getElem? (i := 165) (by decide +kernel), List.mem_of_getElem? (i := 642) (by decide +kernel), List.mem_of_getElem? (i := 643) (by decide +kernel)⟩
theorem lw_p25 : lw_okq (⟨"SeatSwap$SetupWriter", "putText", "(Ljava/lang/String;)V"⟩, 3) := ⟨⟨by decide +kernel, by decide +kernel⟩, List.mem_of_getElem? (i := 147) (by decide +kernel), List.mem_of_getElem? (i := 659) (by decide +kernel), List.mem_of_getElem? (i := 660) (by decide +kernel)⟩
theorem lw_p26 : lw_okq (⟨"SeatSwap$SetupWriter", "put", "(I)V"⟩, 3) := ⟨⟨by decide +kernel, by decide +kernel⟩, List.mem_of_getElem? (i := 147) (by decide +kernel), List.mem_of_getElem? (i := 665) (by decide +kernel), List.mem_of_getElem? (i := 666) (by decide +kernel)⟩
theorem lw_p27 : lw_okq (⟨"SeatSwap$SetupWriter", "putNumber", "(I)V"⟩, 3) := ⟨⟨by decide +kernel, by decide +kernel⟩, List.mem_of_getElem? (i := 147) (by decide +kernel), List.mem_of_getElem? (i := 669) (by decide +kernel), List.mem_of_getElem? (i := 670) (by decide +kernel)⟩
theorem lw_p28 : lw_okq (⟨"SeatSwap$SetupWriter", "putTraveller", "(LSeatSwap$Traveller;)V"⟩, 3) := ⟨⟨by decide +kernel, by decide +kernel⟩, List.mem_of_getElem? (i := 147) (by decide +kernel), List.mem_of_getElem? (i := 676) (by decide +kernel), List.mem_of_getElem? (i := 677) (by decide +kernel)⟩
theorem lw_p29 : lw_okq (⟨"SeatSwap$SetupWriter", "putPart", "(Ljava/lang/String;II)V"⟩, 3) := ⟨⟨by decide +kernel, by decide +kernel⟩, List.mem_of_getElem? (i := 147) (by decide +kernel), List.mem_of_getElem? (i := 687) (by decide +kernel), List.mem_of_getElem? (i := 688) (by decide +kernel)⟩
theorem lw_p30 : lw_okq (⟨"SeatSwap$SetupWriter", "putLike", "(Ljava/lang/String;I)V"⟩, 3) := ⟨⟨by decide +kernel, by decide +kernel⟩, List.mem_of_getElem? (i := 147) (by decide +kernel), List.mem_of_getElem? (i := 692) (by decide +kernel), List.mem_of_getElem? (i := 693) (by decide +kernel)⟩
theorem lw_p31 : lw_okq (⟨"SeatSwap$Tape", "put", "(I)V"⟩, 2) := ⟨⟨by decide +kernel, by decide +kernel⟩, List.mem_of_getElem? (i := 35) (by decide +kernel), List.mem_of_getElem? (i := 718) (by decide +kernel), List.mem_of_getElem? (i := 719) (by decide +kernel)⟩
def lw_privs_2 : List (MethodName × Nat) := [(⟨"SeatSwap$Train", "countAtTable", "(LSeatSwap$Traveller;I)V"⟩, 13), (⟨"SeatSwap", "settleDraft", "()I"⟩, 10), (⟨"SeatSwap$Train", "membersAt", "(II)I"⟩, 13), (⟨"SeatSwap$Train", "exchangeSeats", "(II)V"⟩, 13), (⟨"SeatSwap$Train", "sitDown", "(II)V"⟩, 13), (⟨"SeatSwap$Past", "trainAt", "(I)LSeatSwap$Train;"⟩, 3), (⟨"SeatSwap$Log", "indexOf", "(II)I"⟩, 3), (⟨"SeatSwap$Log", "put", "(II)V"⟩, 3), (⟨"SeatSwap$Train", "passSeats", "(III)V"⟩, 13), (⟨"SeatSwap$SetupWriter", "putText", "(Ljava/lang/String;)V"⟩, 3), (⟨"SeatSwap$SetupWriter", "put", "(I)V"⟩, 3), (⟨"SeatSwap$SetupWriter", "putNumber", "(I)V"⟩, 3), (⟨"SeatSwap$SetupWriter", "putTraveller", "(LSeatSwap$Traveller;)V"⟩, 3), (⟨"SeatSwap$SetupWriter", "putPart", "(Ljava/lang/String;II)V"⟩, 3), (⟨"SeatSwap$SetupWriter", "putLike", "(Ljava/lang/String;I)V"⟩, 3), (⟨"SeatSwap$Tape", "put", "(I)V"⟩, 2)]
theorem lw_r2 : ∀ q ∈ lw_privs_2, lw_okq q := List.forall_mem_cons.mpr ⟨lw_p16, List.forall_mem_cons.mpr ⟨lw_p17, List.forall_mem_cons.mpr ⟨lw_p18, List.forall_mem_cons.mpr ⟨lw_p19, List.forall_mem_cons.mpr ⟨lw_p20, List.forall_mem_cons.mpr ⟨lw_p21, List.forall_mem_cons.mpr ⟨lw_p22, List.forall_mem_cons.mpr ⟨lw_p23, List.forall_mem_cons.mpr ⟨lw_p24, List.forall_mem_cons.mpr ⟨lw_p25, List.forall_mem_cons.mpr ⟨lw_p26, List.forall_mem_cons.mpr ⟨lw_p27, List.forall_mem_cons.mpr ⟨lw_p28, List.forall_mem_cons.mpr ⟨lw_p29, List.forall_mem_cons.mpr ⟨lw_p30, List.forall_mem_cons.mpr ⟨lw_p31, fun _ h => absurd h List.not_mem_nil⟩⟩⟩⟩⟩⟩⟩⟩⟩⟩⟩⟩⟩⟩⟩⟩
theorem lw_p32 : lw_okq (⟨"SeatSwap$Train", "isAt", "(II)Z"⟩, 13) := ⟨⟨by decide +kernel, by decide +kernel⟩, List.mem_of_getElem? (i := 165) (by decide +kernel), List.mem_of_getElem? (i := 1061) (by decide +kernel), List.mem_of_getElem? (i := 1062) (by decide +kernel)⟩
theorem lw_p33 : lw_okq (⟨"SeatSwap", "arePair", "(II)Z"⟩, 10) := ⟨⟨by decide +kernel, by decide +kernel⟩, List.mem_of_getElem? (i := 21) (by decide +kernel), List.mem_of_getElem? (i := 1092) (by decide +kernel), List.mem_of_getElem? (i := 1093) (by decide +kernel)⟩
theorem lw_p34 : lw_okq (⟨"SeatSwap$Train", "letOff", "(I)V"⟩, 13) := ⟨⟨by decide +kernel, by decide +kernel⟩, List.mem_of_getElem? (i := 165) (by decide +kernel), List.mem_of_getElem? (i := 1185) (by decide +kernel), List.mem_of_getElem? (i := 1186) (by decide +kernel)⟩
def lw_privs_3 : List (MethodName × Nat) := [(⟨"SeatSwap$Train", "isAt", "(II)Z"⟩, 13), (⟨"SeatSwap", "arePair", "(II)Z"⟩, 10), (⟨"SeatSwap$Train", "letOff", "(I)V"⟩, 13)]
theorem lw_r3 : ∀ q ∈ lw_privs_3, lw_okq q := List.forall_mem_cons.mpr ⟨lw_p32, List.forall_mem_cons.mpr ⟨lw_p33, List.forall_mem_cons.mpr ⟨lw_p34, fun _ h => absurd h List.not_mem_nil⟩⟩⟩
def lw_privs : List (MethodName × Nat) := lw_privs_1 ++ (lw_privs_2 ++ (lw_privs_3))
def lw_tbl : List Cond := k2_sels lw_privs ++ tables_1
theorem lw_privs_ok : ∀ q ∈ lw_privs, lw_okq q := by
  show ∀ q ∈ lw_privs_1 ++ (lw_privs_2 ++ (lw_privs_3)), lw_okq q
  exact List.forall_mem_append.mpr ⟨lw_r1, List.forall_mem_append.mpr ⟨lw_r2, lw_r3⟩⟩
/-- the streams that the claim lets the run draw from -/
abbrev lw_cs : List Choice := [Jvm.Choice.named "NaN.bits"]
theorem lw_bits : nanBits ∈ lw_cs := by first | decide | exact List.mem_cons_self | simp [lw_cs, nanBits]
-- ===== end of PART A; names, as printed, trimmed =====
def RX0 : String := "SeatSwap$Log"
def TX0 : u_T := fun k => match k with
  | 0 => ("SeatSwap$Log", "parts", "[I", true)
  | 1 => ("SeatSwap$Log", "oldest", "I", false)
  | _ => ("SeatSwap$Log", "size", "I", false)
def tyX0 : Nat → FieldType := fun k => match k with
  | 0 => .array .int
  | 1 => .int
  | _ => .int
abbrev wsX00 : List Cond := u_ws RX0 TX0 3
theorem nmX0 : ∀ a, a < 3 → ∀ b, b < 3 → a ≠ b → (TX0 a).2.1 ≠ (TX0 b).2.1 := by decide +kernel
theorem tyX0_ok : ∀ k, k < 3 → parseFieldDescriptor (TX0 k).2.2.1 = some (tyX0 k) := by decide +kernel
abbrev cX0_init : ByteArray := prog_2_method_1_code
def yX0_init : MethodName := ⟨RX0, "<init>", "()V"⟩
abbrev cX0_clear : ByteArray := prog_2_method_2_code
def yX0_clear : MethodName := ⟨RX0, "clear", "()V"⟩
abbrev cX0_copyFrom : ByteArray := prog_2_method_3_code
def yX0_copyFrom : MethodName := ⟨RX0, "copyFrom", "(LSeatSwap$Log;)V"⟩
abbrev cX0_indexOf : ByteArray := prog_2_method_4_code
def yX0_indexOf : MethodName := ⟨RX0, "indexOf", "(II)I"⟩
abbrev cX0_put : ByteArray := prog_2_method_5_code
def yX0_put : MethodName := ⟨RX0, "put", "(II)V"⟩
abbrev cX0_add : ByteArray := prog_2_method_6_code
def yX0_add : MethodName := ⟨RX0, "add", "(III)V"⟩
def RX1 : String := "SeatSwap$Past"
def TX1 : u_T := fun k => match k with
  | 0 => ("SeatSwap$Past", "trains", "[LSeatSwap$Train;", true)
  | 1 => ("SeatSwap$Past", "oldest", "I", false)
  | _ => ("SeatSwap$Past", "count", "I", false)
def tyX1 : Nat → FieldType := fun k => match k with
  | 0 => .array (.object "SeatSwap$Train")
  | 1 => .int
  | _ => .int
abbrev wsX10 : List Cond := u_ws RX1 TX1 3
theorem nmX1 : ∀ a, a < 3 → ∀ b, b < 3 → a ≠ b → (TX1 a).2.1 ≠ (TX1 b).2.1 := by decide +kernel
theorem tyX1_ok : ∀ k, k < 3 → parseFieldDescriptor (TX1 k).2.2.1 = some (tyX1 k) := by decide +kernel
abbrev cX1_init : ByteArray := prog_3_method_1_code
def yX1_init : MethodName := ⟨RX1, "<init>", "()V"⟩
abbrev cX1_forget : ByteArray := prog_3_method_2_code
def yX1_forget : MethodName := ⟨RX1, "forget", "()V"⟩
abbrev cX1_trainAt : ByteArray := prog_3_method_3_code
def yX1_trainAt : MethodName := ⟨RX1, "trainAt", "(I)LSeatSwap$Train;"⟩
abbrev cX1_remember : ByteArray := prog_3_method_4_code
def yX1_remember : MethodName := ⟨RX1, "remember", "(LSeatSwap$Train;)V"⟩
abbrev cX1_bringBack : ByteArray := prog_3_method_5_code
def yX1_bringBack : MethodName := ⟨RX1, "bringBack", "(LSeatSwap$Train;)V"⟩
def RX2 : String := "SeatSwap$SetupReader"
def TX2 : u_T := fun k => match k with
  | 0 => ("SeatSwap$SetupReader", "tape", "LSeatSwap$Tape;", true)
  | 1 => ("SeatSwap$SetupReader", "who", "LSeatSwap$Traveller;", true)
  | 2 => ("SeatSwap$SetupReader", "start", "I", false)
  | 3 => ("SeatSwap$SetupReader", "end", "I", false)
  | 4 => ("SeatSwap$SetupReader", "kind", "I", false)
  | _ => ("SeatSwap$SetupReader", "wrong", "Z", false)
def tyX2 : Nat → FieldType := fun k => match k with
  | 0 => .object "SeatSwap$Tape"
  | 1 => .object "SeatSwap$Traveller"
  | 2 => .int
  | 3 => .int
  | 4 => .int
  | _ => .boolean
abbrev wsX20 : List Cond := u_ws RX2 TX2 6
theorem nmX2 : ∀ a, a < 6 → ∀ b, b < 6 → a ≠ b → (TX2 a).2.1 ≠ (TX2 b).2.1 := by decide +kernel
theorem tyX2_ok : ∀ k, k < 6 → parseFieldDescriptor (TX2 k).2.2.1 = some (tyX2 k) := by decide +kernel
abbrev cX2_init : ByteArray := prog_4_method_1_code
def yX2_init : MethodName := ⟨RX2, "<init>", "()V"⟩
abbrev cX2_kindOf : ByteArray := prog_4_method_2_code
def yX2_kindOf : MethodName := ⟨RX2, "kindOf", "(I)I"⟩
abbrev cX2_begin : ByteArray := prog_4_method_3_code
def yX2_begin : MethodName := ⟨RX2, "begin", "()V"⟩
abbrev cX2_nextToken : ByteArray := prog_4_method_4_code
def yX2_nextToken : MethodName := ⟨RX2, "nextToken", "()V"⟩
abbrev cX2_isSign : ByteArray := prog_4_method_5_code
def yX2_isSign : MethodName := ⟨RX2, "isSign", "(C)Z"⟩
abbrev cX2_isWord : ByteArray := prog_4_method_6_code
def yX2_isWord : MethodName := ⟨RX2, "isWord", "(Ljava/lang/String;)Z"⟩
abbrev cX2_isKeyword : ByteArray := prog_4_method_7_code
def yX2_isKeyword : MethodName := ⟨RX2, "isKeyword", "()Z"⟩
abbrev cX2_isName : ByteArray := prog_4_method_8_code
def yX2_isName : MethodName := ⟨RX2, "isName", "()Z"⟩
abbrev cX2_packedName : ByteArray := prog_4_method_9_code
def yX2_packedName : MethodName := ⟨RX2, "packedName", "()I"⟩
abbrev cX2_number : ByteArray := prog_4_method_10_code
def yX2_number : MethodName := ⟨RX2, "number", "()I"⟩
abbrev cX2_pass : ByteArray := prog_4_method_11_code
def yX2_pass : MethodName := ⟨RX2, "pass", "(Z)V"⟩
abbrev cX2_take : ByteArray := prog_4_method_12_code
def yX2_take : MethodName := ⟨RX2, "take", "(Ljava/lang/String;)V"⟩
abbrev cX2_takeIfThere : ByteArray := prog_4_method_13_code
def yX2_takeIfThere : MethodName := ⟨RX2, "takeIfThere", "(Ljava/lang/String;)Z"⟩
abbrev cX2_takeInt : ByteArray := prog_4_method_14_code
def yX2_takeInt : MethodName := ⟨RX2, "takeInt", "(II)I"⟩
abbrev cX2_takeLike : ByteArray := prog_4_method_15_code
def yX2_takeLike : MethodName := ⟨RX2, "takeLike", "()I"⟩
abbrev cX2_takeFreeSeat : ByteArray := prog_4_method_16_code
def yX2_takeFreeSeat : MethodName := ⟨RX2, "takeFreeSeat", "(LSeatSwap$Train;)I"⟩
abbrev cX2_takeName : ByteArray := prog_4_method_17_code
def yX2_takeName : MethodName := ⟨RX2, "takeName", "()I"⟩
abbrev cX2_tapeIsName : ByteArray := prog_4_method_18_code
def yX2_tapeIsName : MethodName := ⟨RX2, "tapeIsName", "()Z"⟩
abbrev cX2_nameOnTape : ByteArray := prog_4_method_19_code
def yX2_nameOnTape : MethodName := ⟨RX2, "nameOnTape", "()I"⟩
abbrev cX2_readSetup : ByteArray := prog_4_method_20_code
def yX2_readSetup : MethodName := ⟨RX2, "readSetup", "(LSeatSwap$Train;)Z"⟩
abbrev cX2_readTraveller : ByteArray := prog_4_method_21_code
def yX2_readTraveller : MethodName := ⟨RX2, "readTraveller", "(LSeatSwap$Train;)V"⟩
def RX3 : String := "SeatSwap$SetupWriter"
def TX3 : u_T := fun k => match k with
  | 0 => ("SeatSwap$SetupWriter", "length", "I", false)
  | 1 => ("SeatSwap$SetupWriter", "wanted", "I", false)
  | _ => ("SeatSwap$SetupWriter", "found", "I", false)
def tyX3 : Nat → FieldType := fun k => match k with
  | 0 => .int
  | 1 => .int
  | _ => .int
abbrev wsX30 : List Cond := u_ws RX3 TX3 3
theorem nmX3 : ∀ a, a < 3 → ∀ b, b < 3 → a ≠ b → (TX3 a).2.1 ≠ (TX3 b).2.1 := by decide +kernel
theorem tyX3_ok : ∀ k, k < 3 → parseFieldDescriptor (TX3 k).2.2.1 = some (tyX3 k) := by decide +kernel
abbrev cX3_init : ByteArray := prog_5_method_1_code
def yX3_init : MethodName := ⟨RX3, "<init>", "()V"⟩
abbrev cX3_write : ByteArray := prog_5_method_2_code
def yX3_write : MethodName := ⟨RX3, "write", "(LSeatSwap$Train;I)V"⟩
abbrev cX3_putTraveller : ByteArray := prog_5_method_3_code
def yX3_putTraveller : MethodName := ⟨RX3, "putTraveller", "(LSeatSwap$Traveller;)V"⟩
abbrev cX3_putPart : ByteArray := prog_5_method_4_code
def yX3_putPart : MethodName := ⟨RX3, "putPart", "(Ljava/lang/String;II)V"⟩
abbrev cX3_putLike : ByteArray := prog_5_method_5_code
def yX3_putLike : MethodName := ⟨RX3, "putLike", "(Ljava/lang/String;I)V"⟩
abbrev cX3_putNumber : ByteArray := prog_5_method_6_code
def yX3_putNumber : MethodName := ⟨RX3, "putNumber", "(I)V"⟩
abbrev cX3_putText : ByteArray := prog_5_method_7_code
def yX3_putText : MethodName := ⟨RX3, "putText", "(Ljava/lang/String;)V"⟩
abbrev cX3_put : ByteArray := prog_5_method_8_code
def yX3_put : MethodName := ⟨RX3, "put", "(I)V"⟩
def RX4 : String := "SeatSwap$Tape"
def TX4 : u_T := fun k => match k with
  | 0 => ("SeatSwap$Tape", "bytes", "[I", true)
  | _ => ("SeatSwap$Tape", "length", "I", false)
def tyX4 : Nat → FieldType := fun k => match k with
  | 0 => .array .int
  | _ => .int
abbrev wsX40 : List Cond := u_ws RX4 TX4 2
theorem nmX4 : ∀ a, a < 2 → ∀ b, b < 2 → a ≠ b → (TX4 a).2.1 ≠ (TX4 b).2.1 := by decide +kernel
theorem tyX4_ok : ∀ k, k < 2 → parseFieldDescriptor (TX4 k).2.2.1 = some (tyX4 k) := by decide +kernel
abbrev cX4_init : ByteArray := prog_6_method_1_code
def yX4_init : MethodName := ⟨RX4, "<init>", "()V"⟩
abbrev cX4_hasRoom : ByteArray := prog_6_method_2_code
def yX4_hasRoom : MethodName := ⟨RX4, "hasRoom", "()Z"⟩
abbrev cX4_putFour : ByteArray := prog_6_method_3_code
def yX4_putFour : MethodName := ⟨RX4, "putFour", "(I)V"⟩
abbrev cX4_put : ByteArray := prog_6_method_4_code
def yX4_put : MethodName := ⟨RX4, "put", "(I)V"⟩
abbrev cX4_byteAt : ByteArray := prog_6_method_5_code
def yX4_byteAt : MethodName := ⟨RX4, "byteAt", "(I)I"⟩
def RX5 : String := "SeatSwap$Train"
def TX5 : u_T := fun k => match k with
  | 0 => ("SeatSwap$Train", "travellers", "[LSeatSwap$Traveller;", true)
  | 1 => ("SeatSwap$Train", "nobody", "LSeatSwap$Traveller;", true)
  | 2 => ("SeatSwap$Train", "members", "[I", true)
  | 3 => ("SeatSwap$Train", "log", "LSeatSwap$Log;", true)
  | 4 => ("SeatSwap$Train", "rows", "I", false)
  | 5 => ("SeatSwap$Train", "first", "I", false)
  | 6 => ("SeatSwap$Train", "time", "I", false)
  | 7 => ("SeatSwap$Train", "count", "I", false)
  | 8 => ("SeatSwap$Train", "swaps", "I", false)
  | 9 => ("SeatSwap$Train", "moves", "I", false)
  | 10 => ("SeatSwap$Train", "rings", "I", false)
  | 11 => ("SeatSwap$Train", "paid", "I", false)
  | _ => ("SeatSwap$Train", "gone", "I", false)
def tyX5 : Nat → FieldType := fun k => match k with
  | 0 => .array (.object "SeatSwap$Traveller")
  | 1 => .object "SeatSwap$Traveller"
  | 2 => .array .int
  | 3 => .object "SeatSwap$Log"
  | 4 => .int
  | 5 => .int
  | 6 => .int
  | 7 => .int
  | 8 => .int
  | 9 => .int
  | 10 => .int
  | 11 => .int
  | _ => .int
abbrev wsX50 : List Cond := u_ws RX5 TX5 13
theorem nmX5 : ∀ a, a < 13 → ∀ b, b < 13 → a ≠ b → (TX5 a).2.1 ≠ (TX5 b).2.1 := by decide +kernel
theorem tyX5_ok : ∀ k, k < 13 → parseFieldDescriptor (TX5 k).2.2.1 = some (tyX5 k) := by decide +kernel
abbrev cX5_init : ByteArray := prog_7_method_1_code
def yX5_init : MethodName := ⟨RX5, "<init>", "()V"⟩
abbrev cX5_clear : ByteArray := prog_7_method_2_code
def yX5_clear : MethodName := ⟨RX5, "clear", "()V"⟩
abbrev cX5_copyFrom : ByteArray := prog_7_method_3_code
def yX5_copyFrom : MethodName := ⟨RX5, "copyFrom", "(LSeatSwap$Train;)V"⟩
abbrev cX5_traveller : ByteArray := prog_7_method_4_code
def yX5_traveller : MethodName := ⟨RX5, "traveller", "(I)LSeatSwap$Traveller;"⟩
abbrev cX5_seats : ByteArray := prog_7_method_5_code
def yX5_seats : MethodName := ⟨RX5, "seats", "()I"⟩
abbrev cX5_tables : ByteArray := prog_7_method_6_code
def yX5_tables : MethodName := ⟨RX5, "tables", "()I"⟩
abbrev cX5_isSeat : ByteArray := prog_7_method_7_code
def yX5_isSeat : MethodName := ⟨RX5, "isSeat", "(I)Z"⟩
abbrev cX5_isTraveller : ByteArray := prog_7_method_8_code
def yX5_isTraveller : MethodName := ⟨RX5, "isTraveller", "(I)Z"⟩
abbrev cX5_isInRange : ByteArray := prog_7_method_9_code
def yX5_isInRange : MethodName := ⟨RX5, "isInRange", "(II)Z"⟩
abbrev cX5_whoHas : ByteArray := prog_7_method_10_code
def yX5_whoHas : MethodName := ⟨RX5, "whoHas", "(I)I"⟩
abbrev cX5_isFree : ByteArray := prog_7_method_11_code
def yX5_isFree : MethodName := ⟨RX5, "isFree", "(I)Z"⟩
abbrev cX5_allows : ByteArray := prog_7_method_12_code
def yX5_allows : MethodName := ⟨RX5, "allows", "(II)Z"⟩
abbrev cX5_maySit : ByteArray := prog_7_method_13_code
def yX5_maySit : MethodName := ⟨RX5, "maySit", "(II)Z"⟩
abbrev cX5_barredBy : ByteArray := prog_7_method_14_code
def yX5_barredBy : MethodName := ⟨RX5, "barredBy", "(I)I"⟩
abbrev cX5_membersAt : ByteArray := prog_7_method_15_code
def yX5_membersAt : MethodName := ⟨RX5, "membersAt", "(II)I"⟩
abbrev cX5_countAtTable : ByteArray := prog_7_method_16_code
def yX5_countAtTable : MethodName := ⟨RX5, "countAtTable", "(LSeatSwap$Traveller;I)V"⟩
abbrev cX5_admit : ByteArray := prog_7_method_17_code
def yX5_admit : MethodName := ⟨RX5, "\x61dmit", "(LSeatSwap$Traveller;)V"⟩
abbrev cX5_letOff : ByteArray := prog_7_method_18_code
def yX5_letOff : MethodName := ⟨RX5, "letOff", "(I)V"⟩
abbrev cX5_goOn : ByteArray := prog_7_method_19_code
def yX5_goOn : MethodName := ⟨RX5, "goOn", "()V"⟩
abbrev cX5_joyIn : ByteArray := prog_7_method_20_code
def yX5_joyIn : MethodName := ⟨RX5, "joyIn", "(II)I"⟩
abbrev cX5_joyOf : ByteArray := prog_7_method_21_code
def yX5_joyOf : MethodName := ⟨RX5, "joyOf", "(I)I"⟩
abbrev cX5_relativesAt : ByteArray := prog_7_method_22_code
def yX5_relativesAt : MethodName := ⟨RX5, "relativesAt", "(LSeatSwap$Traveller;I)I"⟩
abbrev cX5_looksForward : ByteArray := prog_7_method_23_code
def yX5_looksForward : MethodName := ⟨RX5, "looksForward", "(I)Z"⟩
abbrev cX5_sumOfJoys : ByteArray := prog_7_method_24_code
def yX5_sumOfJoys : MethodName := ⟨RX5, "sumOfJoys", "()I"⟩
abbrev cX5_grumblers : ByteArray := prog_7_method_25_code
def yX5_grumblers : MethodName := ⟨RX5, "grumblers", "()I"⟩
abbrev cX5_placeOf : ByteArray := prog_7_method_26_code
def yX5_placeOf : MethodName := ⟨RX5, "placeOf", "(I)I"⟩
abbrev cX5_whoIsAtPlace : ByteArray := prog_7_method_27_code
def yX5_whoIsAtPlace : MethodName := ⟨RX5, "whoIsAtPlace", "(I)I"⟩
abbrev cX5_isAt : ByteArray := prog_7_method_28_code
def yX5_isAt : MethodName := ⟨RX5, "isAt", "(II)Z"⟩
abbrev cX5_travellersAt : ByteArray := prog_7_method_29_code
def yX5_travellersAt : MethodName := ⟨RX5, "travellersAt", "(I)I"⟩
abbrev cX5_grumblersAt : ByteArray := prog_7_method_30_code
def yX5_grumblersAt : MethodName := ⟨RX5, "grumblersAt", "(I)I"⟩
abbrev cX5_sumOfJoysAt : ByteArray := prog_7_method_31_code
def yX5_sumOfJoysAt : MethodName := ⟨RX5, "sumOfJoysAt", "(I)I"⟩
abbrev cX5_greatestFamilyAt : ByteArray := prog_7_method_32_code
def yX5_greatestFamilyAt : MethodName := ⟨RX5, "greatestFamilyAt", "(I)I"⟩
abbrev cX5_membersOf : ByteArray := prog_7_method_33_code
def yX5_membersOf : MethodName := ⟨RX5, "membersOf", "(I)I"⟩
abbrev cX5_tablesOf : ByteArray := prog_7_method_34_code
def yX5_tablesOf : MethodName := ⟨RX5, "tablesOf", "(I)I"⟩
abbrev cX5_sumOfJoysOf : ByteArray := prog_7_method_35_code
def yX5_sumOfJoysOf : MethodName := ⟨RX5, "sumOfJoysOf", "(I)I"⟩
abbrev cX5_families : ByteArray := prog_7_method_36_code
def yX5_families : MethodName := ⟨RX5, "families", "()I"⟩
abbrev cX5_sumOfSweets : ByteArray := prog_7_method_37_code
def yX5_sumOfSweets : MethodName := ⟨RX5, "sumOfSweets", "()I"⟩
abbrev cX5_sitDown : ByteArray := prog_7_method_38_code
def yX5_sitDown : MethodName := ⟨RX5, "sitDown", "(II)V"⟩
abbrev cX5_exchangeSeats : ByteArray := prog_7_method_39_code
def yX5_exchangeSeats : MethodName := ⟨RX5, "exchangeSeats", "(II)V"⟩
abbrev cX5_passSeats : ByteArray := prog_7_method_40_code
def yX5_passSeats : MethodName := ⟨RX5, "passSeats", "(III)V"⟩
abbrev cX5_riseBySwap : ByteArray := prog_7_method_41_code
def yX5_riseBySwap : MethodName := ⟨RX5, "riseBySwap", "(II)I"⟩
abbrev cX5_sumIfSwapped : ByteArray := prog_7_method_42_code
def yX5_sumIfSwapped : MethodName := ⟨RX5, "sumIfSwapped", "(II)I"⟩
abbrev cX5_swapReason : ByteArray := prog_7_method_43_code
def yX5_swapReason : MethodName := ⟨RX5, "swapReason", "(III)I"⟩
abbrev cX5_doSwap : ByteArray := prog_7_method_44_code
def yX5_doSwap : MethodName := ⟨RX5, "doSwap", "(III)V"⟩
abbrev cX5_moveReason : ByteArray := prog_7_method_45_code
def yX5_moveReason : MethodName := ⟨RX5, "moveReason", "(II)I"⟩
abbrev cX5_doMove : ByteArray := prog_7_method_46_code
def yX5_doMove : MethodName := ⟨RX5, "doMove", "(II)V"⟩
abbrev cX5_ringReason : ByteArray := prog_7_method_47_code
def yX5_ringReason : MethodName := ⟨RX5, "ringReason", "(III)I"⟩
abbrev cX5_riseByRing : ByteArray := prog_7_method_48_code
def yX5_riseByRing : MethodName := ⟨RX5, "riseByRing", "(III)I"⟩
abbrev cX5_doRing : ByteArray := prog_7_method_49_code
def yX5_doRing : MethodName := ⟨RX5, "doRing", "(III)V"⟩
abbrev cX5_risingRings : ByteArray := prog_7_method_50_code
def yX5_risingRings : MethodName := ⟨RX5, "risingRings", "()I"⟩
abbrev cX5_bestSeatFor : ByteArray := prog_7_method_51_code
def yX5_bestSeatFor : MethodName := ⟨RX5, "bestSeatFor", "(I)I"⟩
abbrev cX5_partnerFor : ByteArray := prog_7_method_52_code
def yX5_partnerFor : MethodName := ⟨RX5, "partnerFor", "(I)I"⟩
abbrev cX5_settleOnce : ByteArray := prog_7_method_53_code
def yX5_settleOnce : MethodName := ⟨RX5, "settleOnce", "()Z"⟩
def RX6 : String := "SeatSwap$Traveller"
def TX6 : u_T := fun k => match k with
  | 0 => ("SeatSwap$Traveller", "name", "I", false)
  | 1 => ("SeatSwap$Traveller", "seat", "I", false)
  | 2 => ("SeatSwap$Traveller", "ticket", "I", false)
  | 3 => ("SeatSwap$Traveller", "family", "I", false)
  | 4 => ("SeatSwap$Traveller", "window", "I", false)
  | 5 => ("SeatSwap$Traveller", "ahead", "I", false)
  | 6 => ("SeatSwap$Traveller", "row", "I", false)
  | 7 => ("SeatSwap$Traveller", "pulls", "I", false)
  | 8 => ("SeatSwap$Traveller", "sweets", "I", false)
  | _ => ("SeatSwap$Traveller", "stop", "I", false)
def tyX6 : Nat → FieldType := fun k => match k with
  | 0 => .int
  | 1 => .int
  | 2 => .int
  | 3 => .int
  | 4 => .int
  | 5 => .int
  | 6 => .int
  | 7 => .int
  | 8 => .int
  | _ => .int
abbrev wsX60 : List Cond := u_ws RX6 TX6 10
theorem nmX6 : ∀ a, a < 10 → ∀ b, b < 10 → a ≠ b → (TX6 a).2.1 ≠ (TX6 b).2.1 := by decide +kernel
theorem tyX6_ok : ∀ k, k < 10 → parseFieldDescriptor (TX6 k).2.2.1 = some (tyX6 k) := by decide +kernel
abbrev cX6_init : ByteArray := prog_8_method_1_code
def yX6_init : MethodName := ⟨RX6, "<init>", "()V"⟩
abbrev cX6_clear : ByteArray := prog_8_method_2_code
def yX6_clear : MethodName := ⟨RX6, "clear", "()V"⟩
abbrev cX6_copyFrom : ByteArray := prog_8_method_3_code
def yX6_copyFrom : MethodName := ⟨RX6, "copyFrom", "(LSeatSwap$Traveller;)V"⟩
abbrev cX6_settable : ByteArray := prog_8_method_4_code
def yX6_settable : MethodName := ⟨RX6, "settable", "(I)I"⟩
abbrev cX6_change : ByteArray := prog_8_method_5_code
def yX6_change : MethodName := ⟨RX6, "change", "(II)V"⟩
abbrev cX6_letterAt : ByteArray := prog_8_method_6_code
def yX6_letterAt : MethodName := ⟨RX6, "letterAt", "(I)I"⟩
def RX7 : String := "SeatSwap"
def TX7 : u_T := fun k => match k with
  | 0 => ("SeatSwap", "tape", "LSeatSwap$Tape;", true)
  | 1 => ("SeatSwap", "reader", "LSeatSwap$SetupReader;", true)
  | 2 => ("SeatSwap", "writer", "LSeatSwap$SetupWriter;", true)
  | 3 => ("SeatSwap", "train", "LSeatSwap$Train;", true)
  | 4 => ("SeatSwap", "draft", "LSeatSwap$Train;", true)
  | 5 => ("SeatSwap", "guest", "LSeatSwap$Traveller;", true)
  | 6 => ("SeatSwap", "slots", "[LSeatSwap$Train;", true)
  | 7 => ("SeatSwap", "filled", "[Z", true)
  | 8 => ("SeatSwap", "past", "LSeatSwap$Past;", true)
  | _ => ("SeatSwap", "errorAt", "I", false)
def tyX7 : Nat → FieldType := fun k => match k with
  | 0 => .object "SeatSwap$Tape"
  | 1 => .object "SeatSwap$SetupReader"
  | 2 => .object "SeatSwap$SetupWriter"
  | 3 => .object "SeatSwap$Train"
  | 4 => .object "SeatSwap$Train"
  | 5 => .object "SeatSwap$Traveller"
  | 6 => .array (.object "SeatSwap$Train")
  | 7 => .array .boolean
  | 8 => .object "SeatSwap$Past"
  | _ => .int
abbrev wsX70 : List Cond := u_ws RX7 TX7 10
theorem nmX7 : ∀ a, a < 10 → ∀ b, b < 10 → a ≠ b → (TX7 a).2.1 ≠ (TX7 b).2.1 := by decide +kernel
theorem tyX7_ok : ∀ k, k < 10 → parseFieldDescriptor (TX7 k).2.2.1 = some (tyX7 k) := by decide +kernel
abbrev cX7_init : ByteArray := prog_1_method_1_code
def yX7_init : MethodName := ⟨RX7, "<init>", "()V"⟩
abbrev cX7_append : ByteArray := prog_1_method_2_code
def yX7_append : MethodName := ⟨RX7, "append", "(IIIII)I"⟩
abbrev cX7_truncate : ByteArray := prog_1_method_3_code
def yX7_truncate : MethodName := ⟨RX7, "truncate", "(I)I"⟩
abbrev cX7_load : ByteArray := prog_1_method_4_code
def yX7_load : MethodName := ⟨RX7, "load", "()I"⟩
abbrev cX7_errorPosition : ByteArray := prog_1_method_5_code
def yX7_errorPosition : MethodName := ⟨RX7, "errorPosition", "()I"⟩
abbrev cX7_come : ByteArray := prog_1_method_6_code
def yX7_come : MethodName := ⟨RX7, "come", "(IIIII)I"⟩
abbrev cX7_set : ByteArray := prog_1_method_7_code
def yX7_set : MethodName := ⟨RX7, "set", "(III)I"⟩
abbrev cX7_first : ByteArray := prog_1_method_8_code
def yX7_first : MethodName := ⟨RX7, "first", "(I)I"⟩
abbrev cX7_swap : ByteArray := prog_1_method_9_code
def yX7_swap : MethodName := ⟨RX7, "swap", "(III)I"⟩
abbrev cX7_move : ByteArray := prog_1_method_10_code
def yX7_move : MethodName := ⟨RX7, "move", "(II)I"⟩
abbrev cX7_ring : ByteArray := prog_1_method_11_code
def yX7_ring : MethodName := ⟨RX7, "ring", "(III)I"⟩
abbrev cX7_settle : ByteArray := prog_1_method_12_code
def yX7_settle : MethodName := ⟨RX7, "settle", "()I"⟩
abbrev cX7_station : ByteArray := prog_1_method_13_code
def yX7_station : MethodName := ⟨RX7, "station", "(I)I"⟩
abbrev cX7_keep : ByteArray := prog_1_method_14_code
def yX7_keep : MethodName := ⟨RX7, "keep", "(I)I"⟩
abbrev cX7_restore : ByteArray := prog_1_method_15_code
def yX7_restore : MethodName := ⟨RX7, "restore", "(I)I"⟩
abbrev cX7_undo : ByteArray := prog_1_method_16_code
def yX7_undo : MethodName := ⟨RX7, "undo", "()I"⟩
abbrev cX7_value : ByteArray := prog_1_method_17_code
def yX7_value : MethodName := ⟨RX7, "value", "(I)I"⟩
abbrev cX7_of : ByteArray := prog_1_method_18_code
def yX7_of : MethodName := ⟨RX7, "of", "(II)I"⟩
abbrev cX7_at : ByteArray := prog_1_method_20_code
def yX7_at : MethodName := ⟨RX7, "at", "(I)I"⟩
abbrev cX7_table : ByteArray := prog_1_method_21_code
def yX7_table : MethodName := ⟨RX7, "table", "(II)I"⟩
abbrev cX7_family : ByteArray := prog_1_method_22_code
def yX7_family : MethodName := ⟨RX7, "family", "(II)I"⟩
abbrev cX7_ranked : ByteArray := prog_1_method_23_code
def yX7_ranked : MethodName := ⟨RX7, "ranked", "(I)I"⟩
abbrev cX7_why : ByteArray := prog_1_method_24_code
def yX7_why : MethodName := ⟨RX7, "why", "(III)I"⟩
abbrev cX7_whyMove : ByteArray := prog_1_method_25_code
def yX7_whyMove : MethodName := ⟨RX7, "whyMove", "(II)I"⟩
abbrev cX7_joyAt : ByteArray := prog_1_method_26_code
def yX7_joyAt : MethodName := ⟨RX7, "joyAt", "(II)I"⟩
abbrev cX7_ifSwapped : ByteArray := prog_1_method_27_code
def yX7_ifSwapped : MethodName := ⟨RX7, "ifSwapped", "(III)I"⟩
abbrev cX7_leastPrice : ByteArray := prog_1_method_28_code
def yX7_leastPrice : MethodName := ⟨RX7, "leastPrice", "(II)I"⟩
abbrev cX7_bestSeat : ByteArray := prog_1_method_29_code
def yX7_bestSeat : MethodName := ⟨RX7, "bestSeat", "(I)I"⟩
abbrev cX7_partner : ByteArray := prog_1_method_30_code
def yX7_partner : MethodName := ⟨RX7, "partner", "(I)I"⟩
abbrev cX7_rings : ByteArray := prog_1_method_31_code
def yX7_rings : MethodName := ⟨RX7, "rings", "()I"⟩
abbrev cX7_ifSettled : ByteArray := prog_1_method_32_code
def yX7_ifSettled : MethodName := ⟨RX7, "ifSettled", "(I)I"⟩
abbrev cX7_ifFirst : ByteArray := prog_1_method_33_code
def yX7_ifFirst : MethodName := ⟨RX7, "ifFirst", "(I)I"⟩
abbrev cX7_full : ByteArray := prog_1_method_35_code
def yX7_full : MethodName := ⟨RX7, "full", "()F"⟩
abbrev cX7_meanJoy : ByteArray := prog_1_method_36_code
def yX7_meanJoy : MethodName := ⟨RX7, "meanJoy", "()D"⟩
abbrev cX7_setupLength : ByteArray := prog_1_method_39_code
def yX7_setupLength : MethodName := ⟨RX7, "setupLength", "()I"⟩
abbrev cX7_setupByte : ByteArray := prog_1_method_40_code
def yX7_setupByte : MethodName := ⟨RX7, "setupByte", "(I)I"⟩
abbrev cX7_isIn : ByteArray := prog_1_method_41_code
def yX7_isIn : MethodName := ⟨RX7, "isIn", "(III)Z"⟩
abbrev cX7_refusal : ByteArray := prog_1_method_42_code
def yX7_refusal : MethodName := ⟨RX7, "refusal", "(I)I"⟩
abbrev cX7_arePair : ByteArray := prog_1_method_43_code
def yX7_arePair : MethodName := ⟨RX7, "arePair", "(II)Z"⟩
abbrev cX7_settleDraft : ByteArray := prog_1_method_44_code
def yX7_settleDraft : MethodName := ⟨RX7, "settleDraft", "()I"⟩
def RX8 : String := "SeatSwapModel"
def TX8 : u_T := fun k => match k with
  | _ => ("", "", "", false)
def tyX8 : Nat → FieldType := fun k => match k with
  | _ => .int
abbrev wsX80 : List Cond := u_ws RX8 TX8 0
theorem nmX8 : ∀ a, a < 0 → ∀ b, b < 0 → a ≠ b → (TX8 a).2.1 ≠ (TX8 b).2.1 := by decide +kernel
theorem tyX8_ok : ∀ k, k < 0 → parseFieldDescriptor (TX8 k).2.2.1 = some (tyX8 k) := by decide +kernel
def RJ5 : String := "java/lang/AbstractStringBuilder"
def TJ5 : u_T := fun k => match k with
  | _ => ("", "", "", false)
def tyJ5 : Nat → FieldType := fun k => match k with
  | _ => .int
abbrev wsJ50 : List Cond := u_ws RJ5 TJ5 0
theorem nmJ5 : ∀ a, a < 0 → ∀ b, b < 0 → a ≠ b → (TJ5 a).2.1 ≠ (TJ5 b).2.1 := by decide +kernel
theorem tyJ5_ok : ∀ k, k < 0 → parseFieldDescriptor (TJ5 k).2.2.1 = some (tyJ5 k) := by decide +kernel
abbrev cJ5_init_d00df : ByteArray := prog_11_method_2_code
def yJ5_init_d00df : MethodName := ⟨RJ5, "<init>", "(I)V"⟩
abbrev cJ5_init_a7421 : ByteArray := prog_11_method_3_code
def yJ5_init_a7421 : MethodName := ⟨RJ5, "<init>", "(Ljava/lang/String;)V"⟩
abbrev cJ5_length_8abf5 : ByteArray := prog_11_method_6_code
def yJ5_length_8abf5 : MethodName := ⟨RJ5, "length", "()I"⟩
abbrev cJ5_ensureCapacityInternal_d00df : ByteArray := prog_11_method_9_code
def yJ5_ensureCapacityInternal_d00df : MethodName := ⟨RJ5, "ensureCapacityInternal", "(I)V"⟩
abbrev cJ5_newCapacity_0f7a4 : ByteArray := prog_11_method_10_code
def yJ5_newCapacity_0f7a4 : MethodName := ⟨RJ5, "newCapacity", "(I)I"⟩
abbrev cJ5_inflate_da8c8 : ByteArray := prog_11_method_11_code
def yJ5_inflate_da8c8 : MethodName := ⟨RJ5, "inflate", "()V"⟩
abbrev cJ5_append_cf1ce : ByteArray := prog_11_method_22_code
def yJ5_append_cf1ce : MethodName := ⟨RJ5, "append", "(Ljava/lang/String;)Ljava/lang/AbstractStringBuilder;"⟩
abbrev cJ5_appendNull_278bc : ByteArray := prog_11_method_26_code
def yJ5_appendNull_278bc : MethodName := ⟨RJ5, "appendNull", "()Ljava/lang/AbstractStringBuilder;"⟩
abbrev cJ5_append_3fe6f : ByteArray := prog_11_method_31_code
def yJ5_append_3fe6f : MethodName := ⟨RJ5, "append", "(C)Ljava/lang/AbstractStringBuilder;"⟩
abbrev cJ5_append_c97b9 : ByteArray := prog_11_method_32_code
def yJ5_append_c97b9 : MethodName := ⟨RJ5, "append", "(I)Ljava/lang/AbstractStringBuilder;"⟩
abbrev cJ5_getValue_6d5f1 : ByteArray := prog_11_method_64_code
def yJ5_getValue_6d5f1 : MethodName := ⟨RJ5, "getValue", "()[B"⟩
abbrev cJ5_isLatin1_aae02 : ByteArray := prog_11_method_68_code
def yJ5_isLatin1_aae02 : MethodName := ⟨RJ5, "isLatin1", "()Z"⟩
abbrev cJ5_inflateIfNeededFor_a7421 : ByteArray := prog_11_method_71_code
def yJ5_inflateIfNeededFor_a7421 : MethodName := ⟨RJ5, "inflateIfNeededFor", "(Ljava/lang/String;)V"⟩
abbrev cJ5_putStringAt_47b60 : ByteArray := prog_11_method_73_code
def yJ5_putStringAt_47b60 : MethodName := ⟨RJ5, "putStringAt", "(ILjava/lang/String;)V"⟩
def RJx8e188 : String := "java/lang/Cloneable"
def TJx8e188 : u_T := fun k => match k with
  | _ => ("", "", "", false)
def tyJx8e188 : Nat → FieldType := fun k => match k with
  | _ => .int
abbrev wsJx8e1880 : List Cond := u_ws RJx8e188 TJx8e188 0
theorem nmJx8e188 : ∀ a, a < 0 → ∀ b, b < 0 → a ≠ b → (TJx8e188 a).2.1 ≠ (TJx8e188 b).2.1 := by decide +kernel
theorem tyJx8e188_ok : ∀ k, k < 0 → parseFieldDescriptor (TJx8e188 k).2.2.1 = some (tyJx8e188 k) := by decide +kernel
def RJ6 : String := "java/lang/Integer"
def TJ6 : u_T := fun k => match k with
  | _ => ("", "", "", false)
def tyJ6 : Nat → FieldType := fun k => match k with
  | _ => .int
abbrev wsJ60 : List Cond := u_ws RJ6 TJ6 0
theorem nmJ6 : ∀ a, a < 0 → ∀ b, b < 0 → a ≠ b → (TJ6 a).2.1 ≠ (TJ6 b).2.1 := by decide +kernel
theorem tyJ6_ok : ∀ k, k < 0 → parseFieldDescriptor (TJ6 k).2.2.1 = some (tyJ6 k) := by decide +kernel
abbrev cJ6_getChars_ba4f3 : ByteArray := prog_13_method_12_code
def yJ6_getChars_ba4f3 : MethodName := ⟨RJ6, "getChars", "(II[B)I"⟩
abbrev cJ6_stringSize_0f7a4 : ByteArray := prog_13_method_13_code
def yJ6_stringSize_0f7a4 : MethodName := ⟨RJ6, "stringSize", "(I)I"⟩
def RJ9 : String := "java/lang/Math"
def TJ9 : u_T := fun k => match k with
  | _ => ("", "", "", false)
def tyJ9 : Nat → FieldType := fun k => match k with
  | _ => .int
abbrev wsJ90 : List Cond := u_ws RJ9 TJ9 0
theorem nmJ9 : ∀ a, a < 0 → ∀ b, b < 0 → a ≠ b → (TJ9 a).2.1 ≠ (TJ9 b).2.1 := by decide +kernel
theorem tyJ9_ok : ∀ k, k < 0 → parseFieldDescriptor (TJ9 k).2.2.1 = some (tyJ9 k) := by decide +kernel
abbrev cJ9_floorMod_7cf53 : ByteArray := prog_14_method_50_code
def yJ9_floorMod_7cf53 : MethodName := ⟨RJ9, "floorMod", "(II)I"⟩
abbrev cJ9_abs_0f7a4 : ByteArray := prog_14_method_59_code
def yJ9_abs_0f7a4 : MethodName := ⟨RJ9, "abs", "(I)I"⟩
abbrev cJ9_max_7cf53 : ByteArray := prog_14_method_65_code
def yJ9_max_7cf53 : MethodName := ⟨RJ9, "max", "(II)I"⟩
abbrev cJ9_min_7cf53 : ByteArray := prog_14_method_69_code
def yJ9_min_7cf53 : MethodName := ⟨RJ9, "min", "(II)I"⟩
def RJ0 : String := "java/lang/String"
def TJ0 : u_T := fun k => match k with
  | 0 => ("java/lang/String", "value", "[B", true)
  | 1 => ("java/lang/String", "coder", "B", true)
  | 2 => ("java/lang/String", "hash", "I", false)
  | _ => ("java/lang/String", "hashIsZero", "Z", false)
def tyJ0 : Nat → FieldType := fun k => match k with
  | 0 => .array .byte
  | 1 => .byte
  | 2 => .int
  | _ => .boolean
abbrev wsJ00 : List Cond := u_ws RJ0 TJ0 4
theorem nmJ0 : ∀ a, a < 4 → ∀ b, b < 4 → a ≠ b → (TJ0 a).2.1 ≠ (TJ0 b).2.1 := by decide +kernel
theorem tyJ0_ok : ∀ k, k < 4 → parseFieldDescriptor (TJ0 k).2.2.1 = some (tyJ0 k) := by decide +kernel
abbrev cJ0_init_81219 : ByteArray := prog_15_method_53_code
def yJ0_init_81219 : MethodName := ⟨RJ0, "<init>", "(Ljava/lang/StringBuilder;)V"⟩
abbrev cJ0_length_8abf5 : ByteArray := prog_15_method_54_code
def yJ0_length_8abf5 : MethodName := ⟨RJ0, "length", "()I"⟩
abbrev cJ0_charAt_5068e : ByteArray := prog_15_method_56_code
def yJ0_charAt_5068e : MethodName := ⟨RJ0, "charAt", "(I)C"⟩
abbrev cJ0_getBytes_840e7 : ByteArray := prog_15_method_147_code
def yJ0_getBytes_840e7 : MethodName := ⟨RJ0, "getBytes", "([BIB)V"⟩
abbrev cJ0_init_db425 : ByteArray := prog_15_method_150_code
def yJ0_init_db425 : MethodName := ⟨RJ0, "<init>", "(Ljava/lang/AbstractStringBuilder;Ljava/lang/Void;)V"⟩
abbrev cJ0_coder_7d493 : ByteArray := prog_15_method_152_code
def yJ0_coder_7d493 : MethodName := ⟨RJ0, "coder", "()B"⟩
abbrev cJ0_isLatin1_aae02 : ByteArray := prog_15_method_154_code
def yJ0_isLatin1_aae02 : MethodName := ⟨RJ0, "isLatin1", "()Z"⟩
abbrev cJ0_checkIndex_df160 : ByteArray := prog_15_method_155_code
def yJ0_checkIndex_df160 : MethodName := ⟨RJ0, "checkIndex", "(II)V"⟩
abbrev cJ0_checkBoundsOffCount_cabcc : ByteArray := prog_15_method_157_code
def yJ0_checkBoundsOffCount_cabcc : MethodName := ⟨RJ0, "checkBoundsOffCount", "(III)I"⟩
abbrev cJ0_checkBoundsBeginEnd_23922 : ByteArray := prog_15_method_158_code
def yJ0_checkBoundsBeginEnd_23922 : MethodName := ⟨RJ0, "checkBoundsBeginEnd", "(III)V"⟩
def RJ4 : String := "java/lang/StringBuilder"
def TJ4 : u_T := fun k => match k with
  | 0 => ("java/lang/AbstractStringBuilder", "value", "[B", false)
  | 1 => ("java/lang/AbstractStringBuilder", "coder", "B", false)
  | 2 => ("java/lang/AbstractStringBuilder", "maybeLatin1", "Z", false)
  | _ => ("java/lang/AbstractStringBuilder", "count", "I", false)
def tyJ4 : Nat → FieldType := fun k => match k with
  | 0 => .array .byte
  | 1 => .byte
  | 2 => .boolean
  | _ => .int
abbrev wsJ40 : List Cond := u_ws RJ4 TJ4 4
theorem nmJ4 : ∀ a, a < 4 → ∀ b, b < 4 → a ≠ b → (TJ4 a).2.1 ≠ (TJ4 b).2.1 := by decide +kernel
theorem tyJ4_ok : ∀ k, k < 4 → parseFieldDescriptor (TJ4 k).2.2.1 = some (tyJ4 k) := by decide +kernel
abbrev cJ4_init_da8c8 : ByteArray := prog_16_method_1_code
def yJ4_init_da8c8 : MethodName := ⟨RJ4, "<init>", "()V"⟩
abbrev cJ4_init_a7421 : ByteArray := prog_16_method_3_code
def yJ4_init_a7421 : MethodName := ⟨RJ4, "<init>", "(Ljava/lang/String;)V"⟩
abbrev cJ4_append_15ec4 : ByteArray := prog_16_method_7_code
def yJ4_append_15ec4 : MethodName := ⟨RJ4, "append", "(Ljava/lang/String;)Ljava/lang/StringBuilder;"⟩
abbrev cJ4_append_cf468 : ByteArray := prog_16_method_14_code
def yJ4_append_cf468 : MethodName := ⟨RJ4, "append", "(C)Ljava/lang/StringBuilder;"⟩
abbrev cJ4_append_bf812 : ByteArray := prog_16_method_15_code
def yJ4_append_bf812 : MethodName := ⟨RJ4, "append", "(I)Ljava/lang/StringBuilder;"⟩
abbrev cJ4_toString_0e30d : ByteArray := prog_16_method_42_code
def yJ4_toString_0e30d : MethodName := ⟨RJ4, "toString", "()Ljava/lang/String;"⟩
abbrev cJ4_append_cf1ce : ByteArray := prog_16_method_80_code
def yJ4_append_cf1ce : MethodName := ⟨RJ4, "append", "(Ljava/lang/String;)Ljava/lang/AbstractStringBuilder;"⟩
abbrev cJ4_length_8abf5 : ByteArray := prog_16_method_93_code
def yJ4_length_8abf5 : MethodName := ⟨RJ4, "length", "()I"⟩
def RJ1 : String := "java/lang/StringLatin1"
def TJ1 : u_T := fun k => match k with
  | _ => ("", "", "", false)
def tyJ1 : Nat → FieldType := fun k => match k with
  | _ => .int
abbrev wsJ10 : List Cond := u_ws RJ1 TJ1 0
theorem nmJ1 : ∀ a, a < 0 → ∀ b, b < 0 → a ≠ b → (TJ1 a).2.1 ≠ (TJ1 b).2.1 := by decide +kernel
theorem tyJ1_ok : ∀ k, k < 0 → parseFieldDescriptor (TJ1 k).2.2.1 = some (tyJ1 k) := by decide +kernel
abbrev cJ1_charAt_3b067 : ByteArray := prog_17_method_2_code
def yJ1_charAt_3b067 : MethodName := ⟨RJ1, "charAt", "([BI)C"⟩
abbrev cJ1_canEncode_fc78d : ByteArray := prog_17_method_3_code
def yJ1_canEncode_fc78d : MethodName := ⟨RJ1, "canEncode", "(C)Z"⟩
abbrev cJ1_inflate_0e8fd : ByteArray := prog_17_method_50_code
def yJ1_inflate_0e8fd : MethodName := ⟨RJ1, "inflate", "([BI[BII)V"⟩
def RJ2 : String := "java/lang/StringUTF16"
def TJ2 : u_T := fun k => match k with
  | _ => ("", "", "", false)
def tyJ2 : Nat → FieldType := fun k => match k with
  | _ => .int
abbrev wsJ20 : List Cond := u_ws RJ2 TJ2 0
theorem nmJ2 : ∀ a, a < 0 → ∀ b, b < 0 → a ≠ b → (TJ2 a).2.1 ≠ (TJ2 b).2.1 := by decide +kernel
theorem tyJ2_ok : ∀ k, k < 0 → parseFieldDescriptor (TJ2 k).2.2.1 = some (tyJ2 k) := by decide +kernel
abbrev cJ2_newBytesFor_77867 : ByteArray := prog_18_method_2_code
def yJ2_newBytesFor_77867 : MethodName := ⟨RJ2, "newBytesFor", "(I)[B"⟩
abbrev cJ2_newBytesLength_0f7a4 : ByteArray := prog_18_method_3_code
def yJ2_newBytesLength_0f7a4 : MethodName := ⟨RJ2, "newBytesLength", "(I)I"⟩
abbrev cJ2_putChar_b72d1 : ByteArray := prog_18_method_4_code
def yJ2_putChar_b72d1 : MethodName := ⟨RJ2, "putChar", "([BII)V"⟩
abbrev cJ2_getChar_3b067 : ByteArray := prog_18_method_5_code
def yJ2_getChar_3b067 : MethodName := ⟨RJ2, "getChar", "([BI)C"⟩
abbrev cJ2_length_9d52b : ByteArray := prog_18_method_6_code
def yJ2_length_9d52b : MethodName := ⟨RJ2, "length", "([B)I"⟩
abbrev cJ2_coderFromArrayLen_85cad : ByteArray := prog_18_method_15_code
def yJ2_coderFromArrayLen_85cad : MethodName := ⟨RJ2, "coderFromArrayLen", "([BI)B"⟩
abbrev cJ2_compress_39247 : ByteArray := prog_18_method_17_code
def yJ2_compress_39247 : MethodName := ⟨RJ2, "compress", "([BII)[B"⟩
abbrev cJ2_compress_5af95 : ByteArray := prog_18_method_22_code
def yJ2_compress_5af95 : MethodName := ⟨RJ2, "compress", "([BI[BII)I"⟩
abbrev cJ2_putCharSB_b72d1 : ByteArray := prog_18_method_71_code
def yJ2_putCharSB_b72d1 : MethodName := ⟨RJ2, "putCharSB", "([BII)V"⟩
abbrev cJ2_getChars_46870 : ByteArray := prog_18_method_77_code
def yJ2_getChars_46870 : MethodName := ⟨RJ2, "getChars", "(III[B)I"⟩
abbrev cJ2_putCharsAt_cd4e5 : ByteArray := prog_18_method_81_code
def yJ2_putCharsAt_cd4e5 : MethodName := ⟨RJ2, "putCharsAt", "([BICCCC)I"⟩
abbrev cJ2_charAt_3b067 : ByteArray := prog_18_method_83_code
def yJ2_charAt_3b067 : MethodName := ⟨RJ2, "charAt", "([BI)C"⟩
abbrev cJ2_inflate_0e8fd : ByteArray := prog_18_method_86_code
def yJ2_inflate_0e8fd : MethodName := ⟨RJ2, "inflate", "([BI[BII)V"⟩
abbrev cJ2_getChars_ba4f3 : ByteArray := prog_18_method_89_code
def yJ2_getChars_ba4f3 : MethodName := ⟨RJ2, "getChars", "(II[B)I"⟩
abbrev cJ2_checkIndex_2214a : ByteArray := prog_18_method_91_code
def yJ2_checkIndex_2214a : MethodName := ⟨RJ2, "checkIndex", "(I[B)V"⟩
abbrev cJ2_checkBoundsBeginEnd_d044e : ByteArray := prog_18_method_93_code
def yJ2_checkBoundsBeginEnd_d044e : MethodName := ⟨RJ2, "checkBoundsBeginEnd", "(II[B)V"⟩
abbrev cJ2_checkBoundsOffCount_d044e : ByteArray := prog_18_method_94_code
def yJ2_checkBoundsOffCount_d044e : MethodName := ⟨RJ2, "checkBoundsOffCount", "(II[B)V"⟩
def RJ10 : String := "java/lang/System"
def TJ10 : u_T := fun k => match k with
  | _ => ("", "", "", false)
def tyJ10 : Nat → FieldType := fun k => match k with
  | _ => .int
abbrev wsJ100 : List Cond := u_ws RJ10 TJ10 0
theorem nmJ10 : ∀ a, a < 0 → ∀ b, b < 0 → a ≠ b → (TJ10 a).2.1 ≠ (TJ10 b).2.1 := by decide +kernel
theorem tyJ10_ok : ∀ k, k < 0 → parseFieldDescriptor (TJ10 k).2.2.1 = some (tyJ10 k) := by decide +kernel
def RJ7 : String := "java/util/Arrays"
def TJ7 : u_T := fun k => match k with
  | _ => ("", "", "", false)
def tyJ7 : Nat → FieldType := fun k => match k with
  | _ => .int
abbrev wsJ70 : List Cond := u_ws RJ7 TJ7 0
theorem nmJ7 : ∀ a, a < 0 → ∀ b, b < 0 → a ≠ b → (TJ7 a).2.1 ≠ (TJ7 b).2.1 := by decide +kernel
theorem tyJ7_ok : ∀ k, k < 0 → parseFieldDescriptor (TJ7 k).2.2.1 = some (tyJ7 k) := by decide +kernel
abbrev cJ7_copyOf_9075b : ByteArray := prog_20_method_121_code
def yJ7_copyOf_9075b : MethodName := ⟨RJ7, "copyOf", "([BI)[B"⟩
abbrev cJ7_checkLength_df160 : ByteArray := prog_20_method_131_code
def yJ7_checkLength_df160 : MethodName := ⟨RJ7, "checkLength", "(II)V"⟩
abbrev cJ7_copyOfRange_39247 : ByteArray := prog_20_method_132_code
def yJ7_copyOfRange_39247 : MethodName := ⟨RJ7, "copyOfRange", "([BII)[B"⟩
abbrev cJ7_copyOfRangeByte_39247 : ByteArray := prog_20_method_133_code
def yJ7_copyOfRangeByte_39247 : MethodName := ⟨RJ7, "copyOfRangeByte", "([BII)[B"⟩
def RJ8 : String := "jdk/internal/util/ArraysSupport"
def TJ8 : u_T := fun k => match k with
  | _ => ("", "", "", false)
def tyJ8 : Nat → FieldType := fun k => match k with
  | _ => .int
abbrev wsJ80 : List Cond := u_ws RJ8 TJ8 0
theorem nmJ8 : ∀ a, a < 0 → ∀ b, b < 0 → a ≠ b → (TJ8 a).2.1 ≠ (TJ8 b).2.1 := by decide +kernel
theorem tyJ8_ok : ∀ k, k < 0 → parseFieldDescriptor (TJ8 k).2.2.1 = some (tyJ8 k) := by decide +kernel
abbrev cJ8_newLength_cabcc : ByteArray := prog_21_method_27_code
def yJ8_newLength_cabcc : MethodName := ⟨RJ8, "newLength", "(III)I"⟩
abbrev cJ8_hugeLength_7cf53 : ByteArray := prog_21_method_28_code
def yJ8_hugeLength_7cf53 : MethodName := ⟨RJ8, "hugeLength", "(II)I"⟩
def RJ3 : String := "jdk/internal/util/Preconditions"
def TJ3 : u_T := fun k => match k with
  | _ => ("", "", "", false)
def tyJ3 : Nat → FieldType := fun k => match k with
  | _ => .int
abbrev wsJ30 : List Cond := u_ws RJ3 TJ3 0
theorem nmJ3 : ∀ a, a < 0 → ∀ b, b < 0 → a ≠ b → (TJ3 a).2.1 ≠ (TJ3 b).2.1 := by decide +kernel
theorem tyJ3_ok : ∀ k, k < 0 → parseFieldDescriptor (TJ3 k).2.2.1 = some (tyJ3 k) := by decide +kernel
abbrev cJ3_checkIndex_8e157 : ByteArray := prog_22_method_11_code
def yJ3_checkIndex_8e157 : MethodName := ⟨RJ3, "checkIndex", "(IILjava/util/function/BiFunction;)I"⟩
abbrev cJ3_checkFromToIndex_8c36e : ByteArray := prog_22_method_12_code
def yJ3_checkFromToIndex_8c36e : MethodName := ⟨RJ3, "checkFromToIndex", "(IIILjava/util/function/BiFunction;)I"⟩
abbrev cJ3_checkFromIndexSize_8c36e : ByteArray := prog_22_method_13_code
def yJ3_checkFromIndexSize_8c36e : MethodName := ⟨RJ3, "checkFromIndexSize", "(IIILjava/util/function/BiFunction;)I"⟩
def RL : String := "SeatSwapLaw"
abbrev cL_feeds : ByteArray := method_2_code
def yL_feeds : MethodName := ⟨RL, "feeds", "(LSeatSwap;Ljava/lang/String;)Z"⟩
abbrev cL_train : ByteArray := method_3_code
def yL_train : MethodName := ⟨RL, "train", "(II)Ljava/lang/String;"⟩
abbrev cL_setup : ByteArray := method_4_code
def yL_setup : MethodName := ⟨RL, "setup", "(LSeatSwap;)Ljava/lang/String;"⟩
abbrev cL_state : ByteArray := method_5_code
def yL_state : MethodName := ⟨RL, "state", "(LSeatSwap;)J"⟩
abbrev cL_seats : ByteArray := method_6_code
def yL_seats : MethodName := ⟨RL, "seats", "(LSeatSwap;)Z"⟩
abbrev cL_swaps : ByteArray := method_7_code
def yL_swaps : MethodName := ⟨RL, "swaps", "(LSeatSwap;II)Z"⟩
abbrev cL_moves : ByteArray := method_8_code
def yL_moves : MethodName := ⟨RL, "moves", "(LSeatSwap;I)Z"⟩
abbrev cL_rings : ByteArray := method_9_code
def yL_rings : MethodName := ⟨RL, "rings", "(LSeatSwap;)Z"⟩
abbrev cL_settles : ByteArray := method_10_code
def yL_settles : MethodName := ⟨RL, "settles", "(LSeatSwap;)Z"⟩
abbrev cL_stations : ByteArray := method_11_code
def yL_stations : MethodName := ⟨RL, "stations", "(LSeatSwap;I)Z"⟩
abbrev cL_does : ByteArray := method_12_code
def yL_does : MethodName := ⟨RL, "does", "(LSeatSwap;II)Z"⟩
abbrev cL_law : ByteArray := code
def yL_law : MethodName := ⟨RL, "law", "([I)Z"⟩
abbrev vwCl : List vw_C := [(RJ0, TJ0, 4), (RJ4, TJ4, 4), (RX0, TX0, 3), (RX1, TX1, 3), (RX2, TX2, 6), (RX3, TX3, 3), (RX4, TX4, 2), (RX5, TX5, 13), (RX6, TX6, 10), (RX7, TX7, 10)]
end
section
/-! THE PROGRAM AS TABLES: printed by wip/p42/mk42.py out of the task's own listing -/
def jv_nth {α : Type} (l : List α) (n : Nat) : Option α := match l, n with
  | [], _ => none
  | a :: _, 0 => some a
  | _ :: l, n + 1 => jv_nth l n
def jv_as {α : Type} (l : List (Nat × α)) (n : Nat) : Option α := match l with
  | [] => none
  | a :: l => if a.1 = n then some a.2 else jv_as l n
abbrev jv_I : Type := Option (Instr × Nat)
/-- X0_init -/
def jv_c0 : List (List jv_I) := [[some (.aload_n 0, 1), some (.invokespecial 3, 3), none, none, some (.aload_n 0, 1), some (.bipush 120, 2), none, some (.newarray .int, 2), none, some (.putfield 11, 3), none, none, some (.return_, 1)]]
/-- X0_clear -/
def jv_c1 : List (List jv_I) := [[some (.aload_n 0, 1), some (.iconst 0, 1), some (.putfield 15, 3), none, none, some (.aload_n 0, 1), some (.iconst 0, 1), some (.putfield 19, 3), none, none, some (.return_, 1)]]
/-- X0_copyFrom -/
def jv_c2 : List (List jv_I) := [[some (.iconst 0, 1), some (.istore_n 2, 1), some (.iload_n 2, 1), some (.aload_n 0, 1), some (.getfield 11, 3), none, none, some (.arraylength, 1), some (.if_icmp .ge 30, 3), none, none, some (.iload_n 2, 1), some (.aload_n 1, 1), some (.getfield 11, 3), none, none], [some (.arraylength, 1), some (.if_icmp .ge 21, 3), none, none, some (.aload_n 0, 1), some (.getfield 11, 3), none, none, some (.iload_n 2, 1), some (.aload_n 1, 1), some (.getfield 11, 3), none, none, some (.iload_n 2, 1), some (.iaload, 1), some (.iastore, 1)], [some (.iinc 2 1, 3), none, none, some (.goto (-33), 3), none, none, some (.aload_n 0, 1), some (.aload_n 1, 1), some (.getfield 15, 3), none, none, some (.putfield 15, 3), none, none, some (.aload_n 0, 1), some (.aload_n 1, 1)], [some (.getfield 19, 3), none, none, some (.putfield 19, 3), none, none, some (.return_, 1)]]
/-- X0_indexOf -/
def jv_c3 : List (List jv_I) := [[some (.aload_n 0, 1), some (.getfield 15, 3), none, none, some (.iload_n 1, 1), some (.iadd, 1), some (.bipush 40, 2), none, some (.invokestatic 22, 3), none, none, some (.iconst 3, 1), some (.imul, 1), some (.iload_n 2, 1), some (.iadd, 1), some (.ireturn, 1)]]
/-- X0_put -/
def jv_c4 : List (List jv_I) := [[some (.iload_n 1, 1), some (.ifCond .lt 19, 3), none, none, some (.iload_n 1, 1), some (.aload_n 0, 1), some (.getfield 11, 3), none, none, some (.arraylength, 1), some (.if_icmp .ge 10, 3), none, none, some (.aload_n 0, 1), some (.getfield 11, 3), none], [none, some (.iload_n 1, 1), some (.iload_n 2, 1), some (.iastore, 1), some (.return_, 1)]]
/-- X0_add -/
def jv_c5 : List (List jv_I) := [[some (.aload_n 0, 1), some (.aload_n 0, 1), some (.aload_n 0, 1), some (.getfield 19, 3), none, none, some (.iconst 0, 1), some (.invokevirtual 28, 3), none, none, some (.iload_n 1, 1), some (.invokevirtual 31, 3), none, none, some (.aload_n 0, 1), some (.aload_n 0, 1)], [some (.aload_n 0, 1), some (.getfield 19, 3), none, none, some (.iconst 1, 1), some (.invokevirtual 28, 3), none, none, some (.iload_n 2, 1), some (.invokevirtual 31, 3), none, none, some (.aload_n 0, 1), some (.aload_n 0, 1), some (.aload_n 0, 1), some (.getfield 19, 3)], [none, none, some (.iconst 2, 1), some (.invokevirtual 28, 3), none, none, some (.iload_n 3, 1), some (.invokevirtual 31, 3), none, none, some (.aload_n 0, 1), some (.getfield 19, 3), none, none, some (.bipush 40, 2), none], [some (.if_icmp .ge 16, 3), none, none, some (.aload_n 0, 1), some (.dup, 1), some (.getfield 19, 3), none, none, some (.iconst 1, 1), some (.iadd, 1), some (.putfield 19, 3), none, none, some (.goto 16, 3), none, none], [some (.aload_n 0, 1), some (.aload_n 0, 1), some (.getfield 15, 3), none, none, some (.iconst 1, 1), some (.iadd, 1), some (.bipush 40, 2), none, some (.irem, 1), some (.putfield 15, 3), none, none, some (.return_, 1)]]
/-- X1_init -/
def jv_c7 : List (List jv_I) := [[some (.aload_n 0, 1), some (.invokespecial 1, 3), none, none, some (.aload_n 0, 1), some (.bipush 8, 2), none, some (.anewarray 9, 3), none, none, some (.putfield 11, 3), none, none, some (.iconst 0, 1), some (.istore_n 1, 1), some (.iload_n 1, 1)], [some (.bipush 8, 2), none, some (.if_icmp .ge 22, 3), none, none, some (.aload_n 0, 1), some (.getfield 11, 3), none, none, some (.iload_n 1, 1), some (.new 9, 3), none, none, some (.dup, 1), some (.invokespecial 15, 3), none], [none, some (.aastore, 1), some (.iinc 1 1, 3), none, none, some (.goto (-22), 3), none, none, some (.return_, 1)]]
/-- X1_forget -/
def jv_c8 : List (List jv_I) := [[some (.aload_n 0, 1), some (.iconst 0, 1), some (.putfield 16, 3), none, none, some (.return_, 1)]]
/-- X1_trainAt -/
def jv_c9 : List (List jv_I) := [[some (.aload_n 0, 1), some (.getfield 11, 3), none, none, some (.aload_n 0, 1), some (.getfield 20, 3), none, none, some (.iload_n 1, 1), some (.iadd, 1), some (.bipush 8, 2), none, some (.invokestatic 23, 3), none, none, some (.aaload, 1)], [some (.areturn, 1)]]
/-- X1_remember -/
def jv_c10 : List (List jv_I) := [[some (.aload_n 0, 1), some (.aload_n 0, 1), some (.getfield 16, 3), none, none, some (.invokevirtual 29, 3), none, none, some (.aload_n 1, 1), some (.invokevirtual 33, 3), none, none, some (.aload_n 0, 1), some (.getfield 16, 3), none, none], [some (.bipush 8, 2), none, some (.if_icmp .ge 16, 3), none, none, some (.aload_n 0, 1), some (.dup, 1), some (.getfield 16, 3), none, none, some (.iconst 1, 1), some (.iadd, 1), some (.putfield 16, 3), none, none, some (.goto 16, 3)], [none, none, some (.aload_n 0, 1), some (.aload_n 0, 1), some (.getfield 20, 3), none, none, some (.iconst 1, 1), some (.iadd, 1), some (.bipush 8, 2), none, some (.irem, 1), some (.putfield 20, 3), none, none, some (.return_, 1)]]
/-- X1_bringBack -/
def jv_c11 : List (List jv_I) := [[some (.aload_n 0, 1), some (.getfield 16, 3), none, none, some (.ifCond .le 25, 3), none, none, some (.aload_n 0, 1), some (.dup, 1), some (.getfield 16, 3), none, none, some (.iconst 1, 1), some (.isub, 1), some (.putfield 16, 3), none], [none, some (.aload_n 1, 1), some (.aload_n 0, 1), some (.aload_n 0, 1), some (.getfield 16, 3), none, none, some (.invokevirtual 29, 3), none, none, some (.invokevirtual 33, 3), none, none, some (.return_, 1)]]
/-- X2_init -/
def jv_c12 : List (List jv_I) := [[some (.aload_n 0, 1), some (.invokespecial 3, 3), none, none, some (.aload_n 0, 1), some (.new 9, 3), none, none, some (.dup, 1), some (.invokespecial 11, 3), none, none, some (.putfield 12, 3), none, none, some (.aload_n 0, 1)], [some (.new 18, 3), none, none, some (.dup, 1), some (.invokespecial 20, 3), none, none, some (.putfield 21, 3), none, none, some (.return_, 1)]]
/-- X2_kindOf -/
def jv_c13 : List (List jv_I) := [[some (.iload_n 0, 1), some (.bipush 97, 2), none, some (.if_icmp .lt 11, 3), none, none, some (.iload_n 0, 1), some (.bipush 122, 2), none, some (.if_icmp .gt 5, 3), none, none, some (.iconst 2, 1), some (.ireturn, 1), some (.iload_n 0, 1), some (.bipush 48, 2)], [none, some (.if_icmp .lt 11, 3), none, none, some (.iload_n 0, 1), some (.bipush 57, 2), none, some (.if_icmp .gt 5, 3), none, none, some (.iconst 3, 1), some (.ireturn, 1), some (.iload_n 0, 1), some (.bipush 32, 2), none, some (.if_icmp .eq 9, 3)], [none, none, some (.iload_n 0, 1), some (.bipush 10, 2), none, some (.if_icmp .ne 5, 3), none, none, some (.iconst 1, 1), some (.ireturn, 1), some (.iload_n 0, 1), some (.iconst (-1), 1), some (.if_icmp .ne 7, 3), none, none, some (.iconst 0, 1)], [some (.goto 4, 3), none, none, some (.iconst 4, 1), some (.ireturn, 1)]]
/-- X2_begin -/
def jv_c14 : List (List jv_I) := [[some (.aload_n 0, 1), some (.iconst 0, 1), some (.putfield 25, 3), none, none, some (.aload_n 0, 1), some (.iconst 0, 1), some (.putfield 29, 3), none, none, some (.aload_n 0, 1), some (.invokevirtual 33, 3), none, none, some (.return_, 1)]]
/-- X2_nextToken -/
def jv_c15 : List (List jv_I) := [[some (.aload_n 0, 1), some (.aload_n 0, 1), some (.getfield 29, 3), none, none, some (.putfield 36, 3), none, none, some (.aload_n 0, 1), some (.getfield 36, 3), none, none, some (.aload_n 0, 1), some (.getfield 12, 3), none, none], [some (.getfield 39, 3), none, none, some (.if_icmp .ge 34, 3), none, none, some (.aload_n 0, 1), some (.getfield 12, 3), none, none, some (.aload_n 0, 1), some (.getfield 36, 3), none, none, some (.invokevirtual 42, 3), none], [none, some (.invokestatic 46, 3), none, none, some (.iconst 1, 1), some (.if_icmp .ne 16, 3), none, none, some (.aload_n 0, 1), some (.dup, 1), some (.getfield 36, 3), none, none, some (.iconst 1, 1), some (.iadd, 1), some (.putfield 36, 3)], [none, none, some (.goto (-42), 3), none, none, some (.aload_n 0, 1), some (.aload_n 0, 1), some (.getfield 12, 3), none, none, some (.aload_n 0, 1), some (.getfield 36, 3), none, none, some (.invokevirtual 42, 3), none], [none, some (.invokestatic 46, 3), none, none, some (.putfield 49, 3), none, none, some (.aload_n 0, 1), some (.aload_n 0, 1), some (.getfield 36, 3), none, none, some (.iconst 1, 1), some (.iadd, 1), some (.putfield 29, 3), none], [none, some (.aload_n 0, 1), some (.getfield 49, 3), none, none, some (.iconst 2, 1), some (.if_icmp .eq 11, 3), none, none, some (.aload_n 0, 1), some (.getfield 49, 3), none, none, some (.iconst 3, 1), some (.if_icmp .ne 7, 3), none], [none, some (.iconst 1, 1), some (.goto 4, 3), none, none, some (.iconst 0, 1), some (.istore_n 1, 1), some (.iload_n 1, 1), some (.ifCond .eq 51, 3), none, none, some (.aload_n 0, 1), some (.getfield 29, 3), none, none, some (.aload_n 0, 1)], [some (.getfield 12, 3), none, none, some (.getfield 39, 3), none, none, some (.if_icmp .ge 37, 3), none, none, some (.aload_n 0, 1), some (.getfield 12, 3), none, none, some (.aload_n 0, 1), some (.getfield 29, 3), none], [none, some (.invokevirtual 42, 3), none, none, some (.invokestatic 46, 3), none, none, some (.aload_n 0, 1), some (.getfield 49, 3), none, none, some (.if_icmp .ne 16, 3), none, none, some (.aload_n 0, 1), some (.dup, 1)], [some (.getfield 29, 3), none, none, some (.iconst 1, 1), some (.iadd, 1), some (.putfield 29, 3), none, none, some (.goto (-49), 3), none, none, some (.return_, 1)]]
/-- X2_isSign -/
def jv_c16 : List (List jv_I) := [[some (.aload_n 0, 1), some (.getfield 12, 3), none, none, some (.aload_n 0, 1), some (.getfield 36, 3), none, none, some (.invokevirtual 42, 3), none, none, some (.iload_n 1, 1), some (.if_icmp .ne 7, 3), none, none, some (.iconst 1, 1)], [some (.goto 4, 3), none, none, some (.iconst 0, 1), some (.ireturn, 1)]]
/-- X2_isWord -/
def jv_c17 : List (List jv_I) := [[some (.aload_n 0, 1), some (.getfield 49, 3), none, none, some (.iconst 2, 1), some (.if_icmp .ne 19, 3), none, none, some (.aload_n 0, 1), some (.getfield 29, 3), none, none, some (.aload_n 0, 1), some (.getfield 36, 3), none, none], [some (.isub, 1), some (.aload_n 1, 1), some (.invokevirtual 52, 3), none, none, some (.if_icmp .eq 5, 3), none, none, some (.iconst 0, 1), some (.ireturn, 1), some (.iconst 0, 1), some (.istore_n 2, 1), some (.iload_n 2, 1), some (.aload_n 1, 1), some (.invokevirtual 52, 3), none], [none, some (.if_icmp .ge 32, 3), none, none, some (.aload_n 0, 1), some (.getfield 12, 3), none, none, some (.aload_n 0, 1), some (.getfield 36, 3), none, none, some (.iload_n 2, 1), some (.iadd, 1), some (.invokevirtual 42, 3), none], [none, some (.aload_n 1, 1), some (.iload_n 2, 1), some (.invokevirtual 57, 3), none, none, some (.if_icmp .eq 5, 3), none, none, some (.iconst 0, 1), some (.ireturn, 1), some (.iinc 2 1, 3), none, none, some (.goto (-34), 3), none], [none, some (.iconst 1, 1), some (.ireturn, 1)]]
/-- X2_isKeyword -/
def jv_c18 : List (List jv_I) := [[some (.aload_n 0, 1), some (.ldc 61, 2), none, some (.invokevirtual 63, 3), none, none, some (.ifCond .ne 84, 3), none, none, some (.aload_n 0, 1), some (.ldc 67, 2), none, some (.invokevirtual 63, 3), none, none, some (.ifCond .ne 75, 3)], [none, none, some (.aload_n 0, 1), some (.ldc 69, 2), none, some (.invokevirtual 63, 3), none, none, some (.ifCond .ne 66, 3), none, none, some (.aload_n 0, 1), some (.ldc 71, 2), none, some (.invokevirtual 63, 3), none], [none, some (.ifCond .ne 57, 3), none, none, some (.aload_n 0, 1), some (.ldc 73, 2), none, some (.invokevirtual 63, 3), none, none, some (.ifCond .ne 48, 3), none, none, some (.aload_n 0, 1), some (.ldc 75, 2), none], [some (.invokevirtual 63, 3), none, none, some (.ifCond .ne 39, 3), none, none, some (.aload_n 0, 1), some (.ldc 77, 2), none, some (.invokevirtual 63, 3), none, none, some (.ifCond .ne 30, 3), none, none, some (.aload_n 0, 1)], [some (.ldc 79, 2), none, some (.invokevirtual 63, 3), none, none, some (.ifCond .ne 21, 3), none, none, some (.aload_n 0, 1), some (.ldc 81, 2), none, some (.invokevirtual 63, 3), none, none, some (.ifCond .ne 12, 3), none], [none, some (.aload_n 0, 1), some (.ldc 83, 2), none, some (.invokevirtual 63, 3), none, none, some (.ifCond .eq 7, 3), none, none, some (.iconst 1, 1), some (.goto 4, 3), none, none, some (.iconst 0, 1), some (.ireturn, 1)]]
/-- X2_isName -/
def jv_c19 : List (List jv_I) := [[some (.aload_n 0, 1), some (.getfield 49, 3), none, none, some (.iconst 2, 1), some (.if_icmp .ne 27, 3), none, none, some (.aload_n 0, 1), some (.getfield 29, 3), none, none, some (.aload_n 0, 1), some (.getfield 36, 3), none, none], [some (.isub, 1), some (.iconst 5, 1), some (.if_icmp .gt 14, 3), none, none, some (.aload_n 0, 1), some (.invokevirtual 85, 3), none, none, some (.ifCond .ne 7, 3), none, none, some (.iconst 1, 1), some (.goto 4, 3), none, none], [some (.iconst 0, 1), some (.ireturn, 1)]]
/-- X2_packedName -/
def jv_c20 : List (List jv_I) := [[some (.iconst 0, 1), some (.istore_n 1, 1), some (.aload_n 0, 1), some (.getfield 36, 3), none, none, some (.istore_n 2, 1), some (.iload_n 2, 1), some (.aload_n 0, 1), some (.getfield 29, 3), none, none, some (.if_icmp .ge 44, 3), none, none, some (.iload_n 2, 1)], [some (.aload_n 0, 1), some (.getfield 36, 3), none, none, some (.iconst 5, 1), some (.iadd, 1), some (.if_icmp .ge 34, 3), none, none, some (.iload_n 1, 1), some (.aload_n 0, 1), some (.getfield 12, 3), none, none, some (.iload_n 2, 1), some (.invokevirtual 42, 3)], [none, none, some (.bipush 97, 2), none, some (.isub, 1), some (.iconst 1, 1), some (.iadd, 1), some (.iconst 5, 1), some (.iload_n 2, 1), some (.aload_n 0, 1), some (.getfield 36, 3), none, none, some (.isub, 1), some (.imul, 1), some (.ishl, 1)], [some (.ior, 1), some (.istore_n 1, 1), some (.iinc 2 1, 3), none, none, some (.goto (-46), 3), none, none, some (.iload_n 1, 1), some (.ireturn, 1)]]
/-- X2_number -/
def jv_c21 : List (List jv_I) := [[some (.aload_n 0, 1), some (.getfield 49, 3), none, none, some (.iconst 3, 1), some (.if_icmp .ne 16, 3), none, none, some (.aload_n 0, 1), some (.getfield 29, 3), none, none, some (.aload_n 0, 1), some (.getfield 36, 3), none, none], [some (.isub, 1), some (.iconst 2, 1), some (.if_icmp .le 5, 3), none, none, some (.iconst (-1), 1), some (.ireturn, 1), some (.iconst 0, 1), some (.istore_n 1, 1), some (.aload_n 0, 1), some (.getfield 36, 3), none, none, some (.istore_n 2, 1), some (.iload_n 2, 1), some (.aload_n 0, 1)], [some (.getfield 29, 3), none, none, some (.if_icmp .ge 26, 3), none, none, some (.bipush 10, 2), none, some (.iload_n 1, 1), some (.imul, 1), some (.aload_n 0, 1), some (.getfield 12, 3), none, none, some (.iload_n 2, 1), some (.invokevirtual 42, 3)], [none, none, some (.iadd, 1), some (.bipush 48, 2), none, some (.isub, 1), some (.istore_n 1, 1), some (.iinc 2 1, 3), none, none, some (.goto (-28), 3), none, none, some (.iload_n 1, 1), some (.ireturn, 1)]]
/-- X2_pass -/
def jv_c22 : List (List jv_I) := [[some (.aload_n 0, 1), some (.aload_n 0, 1), some (.getfield 25, 3), none, none, some (.ifCond .ne 7, 3), none, none, some (.iload_n 1, 1), some (.ifCond .ne 7, 3), none, none, some (.iconst 1, 1), some (.goto 4, 3), none, none], [some (.iconst 0, 1), some (.putfield 25, 3), none, none, some (.aload_n 0, 1), some (.getfield 25, 3), none, none, some (.ifCond .ne 7, 3), none, none, some (.aload_n 0, 1), some (.invokevirtual 33, 3), none, none, some (.return_, 1)]]
/-- X2_take -/
def jv_c23 : List (List jv_I) := [[some (.aload_n 0, 1), some (.aload_n 0, 1), some (.aload_n 1, 1), some (.invokevirtual 63, 3), none, none, some (.invokevirtual 89, 3), none, none, some (.return_, 1)]]
/-- X2_takeIfThere -/
def jv_c24 : List (List jv_I) := [[some (.aload_n 0, 1), some (.getfield 25, 3), none, none, some (.ifCond .ne 15, 3), none, none, some (.aload_n 0, 1), some (.aload_n 1, 1), some (.invokevirtual 63, 3), none, none, some (.ifCond .eq 7, 3), none, none, some (.iconst 1, 1)], [some (.goto 4, 3), none, none, some (.iconst 0, 1), some (.istore_n 2, 1), some (.iload_n 2, 1), some (.ifCond .eq 7, 3), none, none, some (.aload_n 0, 1), some (.invokevirtual 33, 3), none, none, some (.iload_n 2, 1), some (.ireturn, 1)]]
/-- X2_takeInt -/
def jv_c25 : List (List jv_I) := [[some (.aload_n 0, 1), some (.invokevirtual 93, 3), none, none, some (.istore_n 3, 1), some (.aload_n 0, 1), some (.iload_n 3, 1), some (.iload_n 1, 1), some (.if_icmp .lt 12, 3), none, none, some (.iload_n 3, 1), some (.iload_n 2, 1), some (.if_icmp .gt 7, 3), none, none], [some (.iconst 1, 1), some (.goto 4, 3), none, none, some (.iconst 0, 1), some (.invokevirtual 89, 3), none, none, some (.iload_n 3, 1), some (.ireturn, 1)]]
/-- X2_takeLike -/
def jv_c26 : List (List jv_I) := [[some (.aload_n 0, 1), some (.bipush 45, 2), none, some (.invokevirtual 96, 3), none, none, some (.istore_n 1, 1), some (.aload_n 0, 1), some (.iload_n 1, 1), some (.ifCond .ne 12, 3), none, none, some (.aload_n 0, 1), some (.bipush 43, 2), none, some (.invokevirtual 96, 3)], [none, none, some (.ifCond .eq 7, 3), none, none, some (.iconst 1, 1), some (.goto 4, 3), none, none, some (.iconst 0, 1), some (.invokevirtual 89, 3), none, none, some (.aload_n 0, 1), some (.iconst 0, 1), some (.bipush 9, 2)], [none, some (.invokevirtual 100, 3), none, none, some (.istore_n 2, 1), some (.iload_n 1, 1), some (.ifCond .eq 8, 3), none, none, some (.iload_n 2, 1), some (.ineg, 1), some (.goto 4, 3), none, none, some (.iload_n 2, 1), some (.ireturn, 1)]]
/-- X2_takeFreeSeat -/
def jv_c27 : List (List jv_I) := [[some (.aload_n 0, 1), some (.aload_n 0, 1), some (.getfield 25, 3), none, none, some (.ifCond .ne 14, 3), none, none, some (.aload_n 1, 1), some (.aload_n 0, 1), some (.invokevirtual 93, 3), none, none, some (.invokevirtual 104, 3), none, none], [some (.ifCond .ne 7, 3), none, none, some (.iconst 1, 1), some (.goto 4, 3), none, none, some (.iconst 0, 1), some (.putfield 25, 3), none, none, some (.aload_n 0, 1), some (.iconst 0, 1), some (.aload_n 1, 1), some (.invokevirtual 110, 3), none], [none, some (.iconst 1, 1), some (.isub, 1), some (.invokevirtual 100, 3), none, none, some (.ireturn, 1)]]
/-- X2_takeName -/
def jv_c28 : List (List jv_I) := [[some (.aload_n 0, 1), some (.invokevirtual 113, 3), none, none, some (.istore_n 1, 1), some (.aload_n 0, 1), some (.aload_n 0, 1), some (.invokevirtual 116, 3), none, none, some (.invokevirtual 89, 3), none, none, some (.iload_n 1, 1), some (.ireturn, 1)]]
/-- X2_tapeIsName -/
def jv_c29 : List (List jv_I) := [[some (.aload_n 0, 1), some (.invokevirtual 119, 3), none, none, some (.aload_n 0, 1), some (.getfield 36, 3), none, none, some (.ifCond .ne 28, 3), none, none, some (.aload_n 0, 1), some (.getfield 29, 3), none, none, some (.aload_n 0, 1)], [some (.getfield 12, 3), none, none, some (.getfield 39, 3), none, none, some (.if_icmp .ne 14, 3), none, none, some (.aload_n 0, 1), some (.invokevirtual 116, 3), none, none, some (.ifCond .eq 7, 3), none, none], [some (.iconst 1, 1), some (.goto 4, 3), none, none, some (.iconst 0, 1), some (.ireturn, 1)]]
/-- X2_nameOnTape -/
def jv_c30 : List (List jv_I) := [[some (.aload_n 0, 1), some (.invokevirtual 119, 3), none, none, some (.aload_n 0, 1), some (.invokevirtual 113, 3), none, none, some (.ireturn, 1)]]
/-- X2_readSetup -/
def jv_c31 : List (List jv_I) := [[some (.aload_n 1, 1), some (.invokevirtual 122, 3), none, none, some (.aload_n 0, 1), some (.invokevirtual 119, 3), none, none, some (.aload_n 0, 1), some (.ldc 61, 2), none, some (.invokevirtual 125, 3), none, none, some (.aload_n 1, 1), some (.aload_n 0, 1)], [some (.iconst 2, 1), some (.bipush 10, 2), none, some (.invokevirtual 100, 3), none, none, some (.putfield 129, 3), none, none, some (.aload_n 0, 1), some (.ldc 67, 2), none, some (.invokevirtual 125, 3), none, none, some (.aload_n 1, 1)], [some (.aload_n 0, 1), some (.iconst 0, 1), some (.aload_n 1, 1), some (.getfield 129, 3), none, none, some (.invokevirtual 100, 3), none, none, some (.putfield 132, 3), none, none, some (.aload_n 0, 1), some (.aload_n 0, 1), some (.bipush 59, 2), none], [some (.invokevirtual 96, 3), none, none, some (.invokevirtual 89, 3), none, none, some (.iconst 0, 1), some (.istore_n 2, 1), some (.iload_n 2, 1), some (.bipush 20, 2), none, some (.if_icmp .ge 28, 3), none, none, some (.aload_n 0, 1), some (.getfield 49, 3)], [none, none, some (.ifCond .eq 21, 3), none, none, some (.aload_n 0, 1), some (.getfield 25, 3), none, none, some (.ifCond .ne 14, 3), none, none, some (.aload_n 0, 1), some (.aload_n 1, 1), some (.invokevirtual 134, 3), none], [none, some (.iinc 2 1, 3), none, none, some (.goto (-28), 3), none, none, some (.aload_n 0, 1), some (.getfield 49, 3), none, none, some (.ifCond .ne 14, 3), none, none, some (.aload_n 0, 1), some (.getfield 25, 3)], [none, none, some (.ifCond .ne 7, 3), none, none, some (.iconst 1, 1), some (.goto 4, 3), none, none, some (.iconst 0, 1), some (.ireturn, 1)]]
/-- X2_readTraveller -/
def jv_c32_0 : List (List jv_I) := [[some (.aload_n 0, 1), some (.getfield 21, 3), none, none, some (.invokevirtual 138, 3), none, none, some (.aload_n 0, 1), some (.ldc 69, 2), none, some (.invokevirtual 125, 3), none, none, some (.aload_n 0, 1), some (.getfield 21, 3), none], [none, some (.aload_n 0, 1), some (.aload_n 1, 1), some (.invokevirtual 139, 3), none, none, some (.putfield 143, 3), none, none, some (.aload_n 0, 1), some (.getfield 21, 3), none, none, some (.aload_n 0, 1), some (.invokevirtual 145, 3), none], [none, some (.putfield 148, 3), none, none, some (.aload_n 0, 1), some (.ldc 71, 2), none, some (.invokevirtual 151, 3), none, none, some (.ifCond .eq 11, 3), none, none, some (.aload_n 0, 1), some (.getfield 21, 3), none], [none, some (.iconst 1, 1), some (.putfield 154, 3), none, none, some (.aload_n 0, 1), some (.ldc 73, 2), none, some (.invokevirtual 151, 3), none, none, some (.ifCond .eq 17, 3), none, none, some (.aload_n 0, 1), some (.getfield 21, 3)], [none, none, some (.aload_n 0, 1), some (.iconst 1, 1), some (.bipush 9, 2), none, some (.invokevirtual 100, 3), none, none, some (.putfield 156, 3), none, none, some (.aload_n 0, 1), some (.ldc 75, 2), none, some (.invokevirtual 151, 3)], [none, none, some (.ifCond .eq 14, 3), none, none, some (.aload_n 0, 1), some (.getfield 21, 3), none, none, some (.aload_n 0, 1), some (.invokevirtual 158, 3), none, none, some (.putfield 161, 3), none, none], [some (.aload_n 0, 1), some (.ldc 77, 2), none, some (.invokevirtual 151, 3), none, none, some (.ifCond .eq 14, 3), none, none, some (.aload_n 0, 1), some (.getfield 21, 3), none, none, some (.aload_n 0, 1), some (.invokevirtual 158, 3), none], [none, some (.putfield 163, 3), none, none, some (.aload_n 0, 1), some (.ldc 79, 2), none, some (.invokevirtual 151, 3), none, none, some (.ifCond .eq 34, 3), none, none, some (.aload_n 0, 1), some (.getfield 21, 3), none], [none, some (.aload_n 0, 1), some (.iconst 0, 1), some (.aload_n 1, 1), some (.getfield 129, 3), none, none, some (.iconst 1, 1), some (.isub, 1), some (.invokevirtual 100, 3), none, none, some (.putfield 165, 3), none, none, some (.aload_n 0, 1)], [some (.getfield 21, 3), none, none, some (.aload_n 0, 1), some (.iconst 0, 1), some (.iconst 3, 1), some (.invokevirtual 100, 3), none, none, some (.putfield 167, 3), none, none, some (.aload_n 0, 1), some (.ldc 81, 2), none, some (.invokevirtual 151, 3)], [none, none, some (.ifCond .eq 17, 3), none, none, some (.aload_n 0, 1), some (.getfield 21, 3), none, none, some (.aload_n 0, 1), some (.iconst 0, 1), some (.bipush 99, 2), none, some (.invokevirtual 100, 3), none, none], [some (.putfield 170, 3), none, none, some (.aload_n 0, 1), some (.ldc 83, 2), none, some (.invokevirtual 151, 3), none, none, some (.ifCond .eq 17, 3), none, none, some (.aload_n 0, 1), some (.getfield 21, 3), none, none]]
def jv_c32_1 : List (List jv_I) := [[some (.aload_n 0, 1), some (.iconst 1, 1), some (.bipush 99, 2), none, some (.invokevirtual 100, 3), none, none, some (.putfield 172, 3), none, none, some (.aload_n 0, 1), some (.aload_n 0, 1), some (.bipush 59, 2), none, some (.invokevirtual 96, 3), none], [none, some (.ifCond .eq 28, 3), none, none, some (.aload_n 1, 1), some (.aload_n 0, 1), some (.getfield 21, 3), none, none, some (.getfield 154, 3), none, none, some (.aload_n 0, 1), some (.getfield 21, 3), none, none], [some (.getfield 143, 3), none, none, some (.invokevirtual 174, 3), none, none, some (.ifCond .eq 7, 3), none, none, some (.iconst 1, 1), some (.goto 4, 3), none, none, some (.iconst 0, 1), some (.invokevirtual 89, 3), none], [none, some (.aload_n 0, 1), some (.getfield 25, 3), none, none, some (.ifCond .ne 11, 3), none, none, some (.aload_n 1, 1), some (.aload_n 0, 1), some (.getfield 21, 3), none, none, some (.invokevirtual 178, 3), none, none], [some (.return_, 1)]]
def jv_c32 : List (List jv_I) := jv_c32_0 ++ jv_c32_1
/-- X3_init -/
def jv_c33 : List (List jv_I) := [[some (.aload_n 0, 1), some (.invokespecial 3, 3), none, none, some (.return_, 1)]]
/-- X3_write -/
def jv_c34 : List (List jv_I) := [[some (.aload_n 0, 1), some (.iconst 0, 1), some (.putfield 9, 3), none, none, some (.aload_n 0, 1), some (.iload_n 2, 1), some (.putfield 15, 3), none, none, some (.aload_n 0, 1), some (.bipush (-2), 2), none, some (.putfield 18, 3), none, none], [some (.aload_n 0, 1), some (.ldc 21, 2), none, some (.invokevirtual 23, 3), none, none, some (.aload_n 0, 1), some (.aload_n 1, 1), some (.getfield 27, 3), none, none, some (.invokevirtual 32, 3), none, none, some (.aload_n 0, 1), some (.ldc 36, 2)], [none, some (.invokevirtual 23, 3), none, none, some (.aload_n 0, 1), some (.aload_n 1, 1), some (.getfield 38, 3), none, none, some (.invokevirtual 32, 3), none, none, some (.aload_n 0, 1), some (.bipush 59, 2), none, some (.invokevirtual 41, 3)], [none, none, some (.iconst 0, 1), some (.istore_n 3, 1), some (.iload_n 3, 1), some (.aload_n 1, 1), some (.getfield 44, 3), none, none, some (.if_icmp .ge 18, 3), none, none, some (.aload_n 0, 1), some (.aload_n 1, 1), some (.iload_n 3, 1), some (.invokevirtual 47, 3)], [none, none, some (.invokevirtual 51, 3), none, none, some (.iinc 3 1, 3), none, none, some (.goto (-20), 3), none, none, some (.return_, 1)]]
/-- X3_putTraveller -/
def jv_c35 : List (List jv_I) := [[some (.aload_n 0, 1), some (.ldc 55, 2), none, some (.invokevirtual 23, 3), none, none, some (.aload_n 0, 1), some (.aload_n 1, 1), some (.getfield 57, 3), none, none, some (.invokevirtual 32, 3), none, none, some (.aload_n 0, 1), some (.bipush 32, 2)], [none, some (.invokevirtual 41, 3), none, none, some (.iconst 0, 1), some (.istore_n 2, 1), some (.iload_n 2, 1), some (.iconst 5, 1), some (.if_icmp .ge 31, 3), none, none, some (.aload_n 1, 1), some (.iload_n 2, 1), some (.invokevirtual 62, 3), none, none], [some (.ifCond .le 23, 3), none, none, some (.aload_n 0, 1), some (.bipush 97, 2), none, some (.aload_n 1, 1), some (.iload_n 2, 1), some (.invokevirtual 62, 3), none, none, some (.iadd, 1), some (.iconst 1, 1), some (.isub, 1), some (.invokevirtual 41, 3), none], [none, some (.iinc 2 1, 3), none, none, some (.goto (-30), 3), none, none, some (.aload_n 1, 1), some (.getfield 66, 3), none, none, some (.iconst 1, 1), some (.if_icmp .ne 9, 3), none, none, some (.aload_n 0, 1)], [some (.ldc 69, 2), none, some (.invokevirtual 23, 3), none, none, some (.aload_n 0, 1), some (.ldc 71, 2), none, some (.aload_n 1, 1), some (.getfield 73, 3), none, none, some (.iconst 0, 1), some (.invokevirtual 76, 3), none, none], [some (.aload_n 0, 1), some (.ldc 80, 2), none, some (.aload_n 1, 1), some (.getfield 82, 3), none, none, some (.invokevirtual 85, 3), none, none, some (.aload_n 0, 1), some (.ldc 89, 2), none, some (.aload_n 1, 1), some (.getfield 91, 3), none], [none, some (.invokevirtual 85, 3), none, none, some (.aload_n 1, 1), some (.getfield 94, 3), none, none, some (.ifCond .gt 10, 3), none, none, some (.aload_n 1, 1), some (.getfield 97, 3), none, none, some (.ifCond .le 31, 3)], [none, none, some (.aload_n 0, 1), some (.ldc 100, 2), none, some (.invokevirtual 23, 3), none, none, some (.aload_n 0, 1), some (.aload_n 1, 1), some (.getfield 94, 3), none, none, some (.invokevirtual 32, 3), none, none], [some (.aload_n 0, 1), some (.bipush 32, 2), none, some (.invokevirtual 41, 3), none, none, some (.aload_n 0, 1), some (.aload_n 1, 1), some (.getfield 97, 3), none, none, some (.invokevirtual 32, 3), none, none, some (.aload_n 0, 1), some (.ldc 102, 2)], [none, some (.aload_n 1, 1), some (.getfield 104, 3), none, none, some (.iconst 0, 1), some (.invokevirtual 76, 3), none, none, some (.aload_n 0, 1), some (.ldc 107, 2), none, some (.aload_n 1, 1), some (.getfield 109, 3), none, none], [some (.bipush 99, 2), none, some (.invokevirtual 76, 3), none, none, some (.aload_n 0, 1), some (.bipush 59, 2), none, some (.invokevirtual 41, 3), none, none, some (.return_, 1)]]
/-- X3_putPart -/
def jv_c36 : List (List jv_I) := [[some (.iload_n 2, 1), some (.iload_n 3, 1), some (.if_icmp .eq 13, 3), none, none, some (.aload_n 0, 1), some (.aload_n 1, 1), some (.invokevirtual 23, 3), none, none, some (.aload_n 0, 1), some (.iload_n 2, 1), some (.invokevirtual 32, 3), none, none, some (.return_, 1)]]
/-- X3_putLike -/
def jv_c37 : List (List jv_I) := [[some (.iload_n 2, 1), some (.ifCond .eq 31, 3), none, none, some (.aload_n 0, 1), some (.aload_n 1, 1), some (.invokevirtual 23, 3), none, none, some (.aload_n 0, 1), some (.iload_n 2, 1), some (.ifCond .le 8, 3), none, none, some (.bipush 43, 2), none], [some (.goto 5, 3), none, none, some (.bipush 45, 2), none, some (.invokevirtual 41, 3), none, none, some (.aload_n 0, 1), some (.iload_n 2, 1), some (.invokestatic 112, 3), none, none, some (.invokevirtual 32, 3), none, none], [some (.return_, 1)]]
/-- X3_putNumber -/
def jv_c38 : List (List jv_I) := [[some (.iconst 0, 1), some (.istore_n 2, 1), some (.ldc 117, 2), none, some (.istore_n 3, 1), some (.iload_n 3, 1), some (.ifCond .le 48, 3), none, none, some (.iload_n 2, 1), some (.ifCond .ne 13, 3), none, none, some (.iload_n 1, 1), some (.iload_n 3, 1), some (.if_icmp .ge 8, 3)], [none, none, some (.iload_n 3, 1), some (.iconst 1, 1), some (.if_icmp .ne 7, 3), none, none, some (.iconst 1, 1), some (.goto 4, 3), none, none, some (.iconst 0, 1), some (.istore_n 2, 1), some (.iload_n 2, 1), some (.ifCond .eq 16, 3), none], [none, some (.aload_n 0, 1), some (.bipush 48, 2), none, some (.iload_n 1, 1), some (.iload_n 3, 1), some (.idiv, 1), some (.bipush 10, 2), none, some (.irem, 1), some (.iadd, 1), some (.invokevirtual 41, 3), none, none, some (.iload_n 3, 1), some (.bipush 10, 2)], [none, some (.idiv, 1), some (.istore_n 3, 1), some (.goto (-46), 3), none, none, some (.return_, 1)]]
/-- X3_putText -/
def jv_c39 : List (List jv_I) := [[some (.iconst 0, 1), some (.istore_n 2, 1), some (.iload_n 2, 1), some (.aload_n 1, 1), some (.invokevirtual 118, 3), none, none, some (.if_icmp .ge 18, 3), none, none, some (.aload_n 0, 1), some (.aload_n 1, 1), some (.iload_n 2, 1), some (.invokevirtual 123, 3), none, none], [some (.invokevirtual 41, 3), none, none, some (.iinc 2 1, 3), none, none, some (.goto (-20), 3), none, none, some (.return_, 1)]]
/-- X3_put -/
def jv_c40 : List (List jv_I) := [[some (.aload_n 0, 1), some (.getfield 9, 3), none, none, some (.aload_n 0, 1), some (.getfield 15, 3), none, none, some (.if_icmp .ne 8, 3), none, none, some (.aload_n 0, 1), some (.iload_n 1, 1), some (.putfield 18, 3), none, none], [some (.aload_n 0, 1), some (.dup, 1), some (.getfield 9, 3), none, none, some (.iconst 1, 1), some (.iadd, 1), some (.putfield 9, 3), none, none, some (.return_, 1)]]
/-- X4_init -/
def jv_c41 : List (List jv_I) := [[some (.aload_n 0, 1), some (.invokespecial 1, 3), none, none, some (.aload_n 0, 1), some (.sipush 1000, 3), none, none, some (.newarray .int, 2), none, some (.putfield 9, 3), none, none, some (.return_, 1)]]
/-- X4_hasRoom -/
def jv_c42 : List (List jv_I) := [[some (.aload_n 0, 1), some (.getfield 13, 3), none, none, some (.bipush 20, 2), none, some (.iadd, 1), some (.sipush 1000, 3), none, none, some (.if_icmp .gt 7, 3), none, none, some (.iconst 1, 1), some (.goto 4, 3), none], [none, some (.iconst 0, 1), some (.ireturn, 1)]]
/-- X4_putFour -/
def jv_c43 : List (List jv_I) := [[some (.bipush 24, 2), none, some (.istore_n 2, 1), some (.iload_n 2, 1), some (.ifCond .lt 20, 3), none, none, some (.aload_n 0, 1), some (.iload_n 1, 1), some (.iload_n 2, 1), some (.ishr, 1), some (.sipush 255, 3), none, none, some (.iand, 1), some (.invokevirtual 17, 3)], [none, none, some (.iinc 2 (-8), 3), none, none, some (.goto (-18), 3), none, none, some (.return_, 1)]]
/-- X4_put -/
def jv_c44 : List (List jv_I) := [[some (.aload_n 0, 1), some (.getfield 13, 3), none, none, some (.ifCond .lt 35, 3), none, none, some (.aload_n 0, 1), some (.getfield 13, 3), none, none, some (.aload_n 0, 1), some (.getfield 9, 3), none, none, some (.arraylength, 1)], [some (.if_icmp .ge 23, 3), none, none, some (.aload_n 0, 1), some (.getfield 9, 3), none, none, some (.aload_n 0, 1), some (.getfield 13, 3), none, none, some (.iload_n 1, 1), some (.iastore, 1), some (.aload_n 0, 1), some (.dup, 1), some (.getfield 13, 3)], [none, none, some (.iconst 1, 1), some (.iadd, 1), some (.putfield 13, 3), none, none, some (.return_, 1)]]
/-- X4_byteAt -/
def jv_c45 : List (List jv_I) := [[some (.iload_n 1, 1), some (.ifCond .lt 29, 3), none, none, some (.iload_n 1, 1), some (.aload_n 0, 1), some (.getfield 13, 3), none, none, some (.if_icmp .ge 21, 3), none, none, some (.iload_n 1, 1), some (.aload_n 0, 1), some (.getfield 9, 3), none], [none, some (.arraylength, 1), some (.if_icmp .ge 12, 3), none, none, some (.aload_n 0, 1), some (.getfield 9, 3), none, none, some (.iload_n 1, 1), some (.iaload, 1), some (.goto 4, 3), none, none, some (.iconst (-1), 1), some (.ireturn, 1)]]
/-- X5_init -/
def jv_c46 : List (List jv_I) := [[some (.aload_n 0, 1), some (.invokespecial 3, 3), none, none, some (.aload_n 0, 1), some (.bipush 20, 2), none, some (.anewarray 9, 3), none, none, some (.putfield 11, 3), none, none, some (.iconst 0, 1), some (.istore_n 1, 1), some (.iload_n 1, 1)], [some (.bipush 20, 2), none, some (.if_icmp .ge 22, 3), none, none, some (.aload_n 0, 1), some (.getfield 11, 3), none, none, some (.iload_n 1, 1), some (.new 9, 3), none, none, some (.dup, 1), some (.invokespecial 17, 3), none], [none, some (.aastore, 1), some (.iinc 1 1, 3), none, none, some (.goto (-22), 3), none, none, some (.aload_n 0, 1), some (.new 9, 3), none, none, some (.dup, 1), some (.invokespecial 17, 3), none, none], [some (.putfield 18, 3), none, none, some (.aload_n 0, 1), some (.bipush 50, 2), none, some (.newarray .int, 2), none, some (.putfield 22, 3), none, none, some (.aload_n 0, 1), some (.new 26, 3), none, none, some (.dup, 1)], [some (.invokespecial 28, 3), none, none, some (.putfield 29, 3), none, none, some (.aload_n 0, 1), some (.iconst 4, 1), some (.putfield 33, 3), none, none, some (.aload_n 0, 1), some (.iconst 1, 1), some (.putfield 37, 3), none, none], [some (.return_, 1)]]
/-- X5_clear -/
def jv_c47 : List (List jv_I) := [[some (.iconst 0, 1), some (.istore_n 1, 1), some (.iload_n 1, 1), some (.aload_n 0, 1), some (.getfield 22, 3), none, none, some (.arraylength, 1), some (.if_icmp .ge 16, 3), none, none, some (.aload_n 0, 1), some (.getfield 22, 3), none, none, some (.iload_n 1, 1)], [some (.iconst 0, 1), some (.iastore, 1), some (.iinc 1 1, 3), none, none, some (.goto (-19), 3), none, none, some (.aload_n 0, 1), some (.getfield 29, 3), none, none, some (.invokevirtual 40, 3), none, none, some (.aload_n 0, 1)], [some (.iconst 0, 1), some (.putfield 37, 3), none, none, some (.aload_n 0, 1), some (.iconst 0, 1), some (.putfield 43, 3), none, none, some (.aload_n 0, 1), some (.iconst 0, 1), some (.putfield 46, 3), none, none, some (.aload_n 0, 1), some (.iconst 0, 1)], [some (.putfield 49, 3), none, none, some (.aload_n 0, 1), some (.iconst 0, 1), some (.putfield 52, 3), none, none, some (.aload_n 0, 1), some (.iconst 0, 1), some (.putfield 55, 3), none, none, some (.aload_n 0, 1), some (.iconst 0, 1), some (.putfield 58, 3)], [none, none, some (.aload_n 0, 1), some (.iconst 0, 1), some (.putfield 61, 3), none, none, some (.return_, 1)]]
/-- X5_copyFrom -/
def jv_c48 : List (List jv_I) := [[some (.iconst 0, 1), some (.istore_n 2, 1), some (.iload_n 2, 1), some (.aload_n 1, 1), some (.getfield 46, 3), none, none, some (.if_icmp .ge 22, 3), none, none, some (.aload_n 0, 1), some (.iload_n 2, 1), some (.invokevirtual 64, 3), none, none, some (.aload_n 1, 1)], [some (.iload_n 2, 1), some (.invokevirtual 64, 3), none, none, some (.invokevirtual 68, 3), none, none, some (.iinc 2 1, 3), none, none, some (.goto (-24), 3), none, none, some (.iconst 0, 1), some (.istore_n 2, 1), some (.iload_n 2, 1)], [some (.aload_n 0, 1), some (.getfield 22, 3), none, none, some (.arraylength, 1), some (.if_icmp .ge 30, 3), none, none, some (.iload_n 2, 1), some (.aload_n 1, 1), some (.getfield 22, 3), none, none, some (.arraylength, 1), some (.if_icmp .ge 21, 3), none], [none, some (.aload_n 0, 1), some (.getfield 22, 3), none, none, some (.iload_n 2, 1), some (.aload_n 1, 1), some (.getfield 22, 3), none, none, some (.iload_n 2, 1), some (.iaload, 1), some (.iastore, 1), some (.iinc 2 1, 3), none, none], [some (.goto (-33), 3), none, none, some (.aload_n 0, 1), some (.getfield 29, 3), none, none, some (.aload_n 1, 1), some (.getfield 29, 3), none, none, some (.invokevirtual 72, 3), none, none, some (.aload_n 0, 1), some (.aload_n 1, 1)], [some (.getfield 33, 3), none, none, some (.putfield 33, 3), none, none, some (.aload_n 0, 1), some (.aload_n 1, 1), some (.getfield 37, 3), none, none, some (.putfield 37, 3), none, none, some (.aload_n 0, 1), some (.aload_n 1, 1)], [some (.getfield 43, 3), none, none, some (.putfield 43, 3), none, none, some (.aload_n 0, 1), some (.aload_n 1, 1), some (.getfield 46, 3), none, none, some (.putfield 46, 3), none, none, some (.aload_n 0, 1), some (.aload_n 1, 1)], [some (.getfield 49, 3), none, none, some (.putfield 49, 3), none, none, some (.aload_n 0, 1), some (.aload_n 1, 1), some (.getfield 52, 3), none, none, some (.putfield 52, 3), none, none, some (.aload_n 0, 1), some (.aload_n 1, 1)], [some (.getfield 55, 3), none, none, some (.putfield 55, 3), none, none, some (.aload_n 0, 1), some (.aload_n 1, 1), some (.getfield 58, 3), none, none, some (.putfield 58, 3), none, none, some (.aload_n 0, 1), some (.aload_n 1, 1)], [some (.getfield 61, 3), none, none, some (.putfield 61, 3), none, none, some (.return_, 1)]]
/-- X5_traveller -/
def jv_c49 : List (List jv_I) := [[some (.iload_n 1, 1), some (.ifCond .lt 21, 3), none, none, some (.iload_n 1, 1), some (.aload_n 0, 1), some (.getfield 11, 3), none, none, some (.arraylength, 1), some (.if_icmp .ge 12, 3), none, none, some (.aload_n 0, 1), some (.getfield 11, 3), none], [none, some (.iload_n 1, 1), some (.aaload, 1), some (.goto 7, 3), none, none, some (.aload_n 0, 1), some (.getfield 18, 3), none, none, some (.areturn, 1)]]
/-- X5_seats -/
def jv_c50 : List (List jv_I) := [[some (.aload_n 0, 1), some (.getfield 33, 3), none, none, some (.iconst 4, 1), some (.imul, 1), some (.ireturn, 1)]]
/-- X5_tables -/
def jv_c51 : List (List jv_I) := [[some (.aload_n 0, 1), some (.getfield 33, 3), none, none, some (.iconst 1, 1), some (.iadd, 1), some (.iconst 2, 1), some (.idiv, 1), some (.ireturn, 1)]]
/-- X5_isSeat -/
def jv_c52 : List (List jv_I) := [[some (.iload_n 1, 1), some (.iconst 0, 1), some (.aload_n 0, 1), some (.invokevirtual 75, 3), none, none, some (.iconst 1, 1), some (.isub, 1), some (.invokestatic 79, 3), none, none, some (.ireturn, 1)]]
/-- X5_isTraveller -/
def jv_c53 : List (List jv_I) := [[some (.iload_n 1, 1), some (.iconst 0, 1), some (.aload_n 0, 1), some (.getfield 46, 3), none, none, some (.iconst 1, 1), some (.isub, 1), some (.invokestatic 79, 3), none, none, some (.ireturn, 1)]]
/-- X5_isInRange -/
def jv_c54 : List (List jv_I) := [[some (.iload_n 1, 1), some (.tableswitch 70 0 4 #[35, 35, 44, 56, 63], 35), none, none, none, none, none, none, none, none, none, none, none, none, none, none], [none, none, none, none, none, none, none, none, none, none, none, none, none, none, none, none], [none, none, none, none, some (.iload_n 2, 1), some (.bipush (-9), 2), none, some (.bipush 9, 2), none, some (.invokestatic 79, 3), none, none, some (.ireturn, 1), some (.iload_n 2, 1), some (.iconst 0, 1), some (.aload_n 0, 1)], [some (.getfield 33, 3), none, none, some (.iconst 1, 1), some (.isub, 1), some (.invokestatic 79, 3), none, none, some (.ireturn, 1), some (.iload_n 2, 1), some (.iconst 0, 1), some (.iconst 3, 1), some (.invokestatic 79, 3), none, none, some (.ireturn, 1)], [some (.iload_n 2, 1), some (.iconst 0, 1), some (.iconst 1, 1), some (.invokestatic 79, 3), none, none, some (.ireturn, 1), some (.iconst 0, 1), some (.ireturn, 1)]]
/-- X5_whoHas -/
def jv_c55 : List (List jv_I) := [[some (.iconst 0, 1), some (.istore_n 2, 1), some (.iload_n 2, 1), some (.aload_n 0, 1), some (.getfield 46, 3), none, none, some (.if_icmp .ge 23, 3), none, none, some (.aload_n 0, 1), some (.iload_n 2, 1), some (.invokevirtual 64, 3), none, none, some (.getfield 83, 3)], [none, none, some (.iload_n 1, 1), some (.if_icmp .ne 5, 3), none, none, some (.iload_n 2, 1), some (.ireturn, 1), some (.iinc 2 1, 3), none, none, some (.goto (-25), 3), none, none, some (.bipush (-2), 2), none], [some (.ireturn, 1)]]
/-- X5_isFree -/
def jv_c56 : List (List jv_I) := [[some (.aload_n 0, 1), some (.iload_n 1, 1), some (.invokevirtual 86, 3), none, none, some (.bipush (-2), 2), none, some (.if_icmp .ne 7, 3), none, none, some (.iconst 1, 1), some (.goto 4, 3), none, none, some (.iconst 0, 1), some (.ireturn, 1)]]
/-- X5_allows -/
def jv_c57 : List (List jv_I) := [[some (.iload_n 1, 1), some (.iconst 1, 1), some (.if_icmp .eq 13, 3), none, none, some (.iload_n 2, 1), some (.iconst 4, 1), some (.idiv, 1), some (.aload_n 0, 1), some (.getfield 37, 3), none, none, some (.if_icmp .lt 7, 3), none, none, some (.iconst 1, 1)], [some (.goto 4, 3), none, none, some (.iconst 0, 1), some (.ireturn, 1)]]
/-- X5_maySit -/
def jv_c58 : List (List jv_I) := [[some (.aload_n 0, 1), some (.aload_n 0, 1), some (.iload_n 1, 1), some (.invokevirtual 64, 3), none, none, some (.getfield 90, 3), none, none, some (.iload_n 2, 1), some (.invokevirtual 93, 3), none, none, some (.ireturn, 1)]]
/-- X5_barredBy -/
def jv_c59 : List (List jv_I) := [[some (.iconst 0, 1), some (.istore_n 2, 1), some (.iconst 0, 1), some (.istore_n 3, 1), some (.iload_n 3, 1), some (.aload_n 0, 1), some (.getfield 46, 3), none, none, some (.if_icmp .ge 38, 3), none, none, some (.aload_n 0, 1), some (.iload_n 3, 1), some (.invokevirtual 64, 3), none], [none, some (.astore 4, 2), none, some (.aload 4, 2), none, some (.getfield 90, 3), none, none, some (.ifCond .ne 17, 3), none, none, some (.aload 4, 2), none, some (.getfield 83, 3), none, none], [some (.iconst 4, 1), some (.idiv, 1), some (.iload_n 1, 1), some (.if_icmp .ge 6, 3), none, none, some (.iinc 2 1, 3), none, none, some (.iinc 3 1, 3), none, none, some (.goto (-40), 3), none, none, some (.iload_n 2, 1)], [some (.ireturn, 1)]]
/-- X5_membersAt -/
def jv_c60 : List (List jv_I) := [[some (.iload_n 1, 1), some (.bipush 10, 2), none, some (.imul, 1), some (.iload_n 2, 1), some (.iadd, 1), some (.istore_n 3, 1), some (.iload_n 3, 1), some (.ifCond .lt 21, 3), none, none, some (.iload_n 3, 1), some (.aload_n 0, 1), some (.getfield 22, 3), none, none], [some (.arraylength, 1), some (.if_icmp .ge 12, 3), none, none, some (.aload_n 0, 1), some (.getfield 22, 3), none, none, some (.iload_n 3, 1), some (.iaload, 1), some (.goto 4, 3), none, none, some (.iconst 0, 1), some (.ireturn, 1)]]
/-- X5_countAtTable -/
def jv_c61 : List (List jv_I) := [[some (.aload_n 1, 1), some (.getfield 83, 3), none, none, some (.bipush 8, 2), none, some (.idiv, 1), some (.bipush 10, 2), none, some (.imul, 1), some (.aload_n 1, 1), some (.getfield 97, 3), none, none, some (.iadd, 1), some (.istore_n 3, 1)], [some (.iload_n 3, 1), some (.ifCond .lt 22, 3), none, none, some (.iload_n 3, 1), some (.aload_n 0, 1), some (.getfield 22, 3), none, none, some (.arraylength, 1), some (.if_icmp .ge 13, 3), none, none, some (.aload_n 0, 1), some (.getfield 22, 3), none], [none, some (.iload_n 3, 1), some (.dup2, 1), some (.iaload, 1), some (.iload_n 2, 1), some (.iadd, 1), some (.iastore, 1), some (.return_, 1)]]
/-- X5_admit -/
def jv_c62 : List (List jv_I) := [[some (.aload_n 0, 1), some (.getfield 46, 3), none, none, some (.aload_n 0, 1), some (.getfield 11, 3), none, none, some (.arraylength, 1), some (.if_icmp .lt 4, 3), none, none, some (.return_, 1), some (.aload_n 0, 1), some (.aload_n 0, 1), some (.getfield 46, 3)], [none, none, some (.invokevirtual 64, 3), none, none, some (.aload_n 1, 1), some (.invokevirtual 68, 3), none, none, some (.aload_n 0, 1), some (.aload_n 1, 1), some (.iconst 1, 1), some (.invokevirtual 100, 3), none, none, some (.aload_n 0, 1)], [some (.dup, 1), some (.getfield 46, 3), none, none, some (.iconst 1, 1), some (.iadd, 1), some (.putfield 46, 3), none, none, some (.return_, 1)]]
/-- X5_letOff -/
def jv_c63 : List (List jv_I) := [[some (.aload_n 0, 1), some (.iload_n 1, 1), some (.invokevirtual 64, 3), none, none, some (.astore_n 2, 1), some (.aload_n 0, 1), some (.getfield 29, 3), none, none, some (.iconst 4, 1), some (.iload_n 1, 1), some (.aload_n 2, 1), some (.getfield 83, 3), none, none], [some (.invokevirtual 104, 3), none, none, some (.aload_n 0, 1), some (.aload_n 2, 1), some (.iconst (-1), 1), some (.invokevirtual 100, 3), none, none, some (.aload_n 0, 1), some (.dup, 1), some (.getfield 46, 3), none, none, some (.iconst 1, 1), some (.isub, 1)], [some (.putfield 46, 3), none, none, some (.iload_n 1, 1), some (.istore_n 3, 1), some (.iload_n 3, 1), some (.aload_n 0, 1), some (.getfield 46, 3), none, none, some (.if_icmp .ge 24, 3), none, none, some (.aload_n 0, 1), some (.iload_n 3, 1), some (.invokevirtual 64, 3)], [none, none, some (.aload_n 0, 1), some (.iload_n 3, 1), some (.iconst 1, 1), some (.iadd, 1), some (.invokevirtual 64, 3), none, none, some (.invokevirtual 68, 3), none, none, some (.iinc 3 1, 3), none, none, some (.goto (-26), 3)], [none, none, some (.aload_n 0, 1), some (.dup, 1), some (.getfield 61, 3), none, none, some (.iconst 1, 1), some (.iadd, 1), some (.putfield 61, 3), none, none, some (.return_, 1)]]
/-- X5_goOn -/
def jv_c64 : List (List jv_I) := [[some (.aload_n 0, 1), some (.dup, 1), some (.getfield 43, 3), none, none, some (.iconst 1, 1), some (.iadd, 1), some (.putfield 43, 3), none, none, some (.aload_n 0, 1), some (.getfield 46, 3), none, none, some (.iconst 1, 1), some (.isub, 1)], [some (.istore_n 1, 1), some (.iload_n 1, 1), some (.ifCond .lt 29, 3), none, none, some (.aload_n 0, 1), some (.iload_n 1, 1), some (.invokevirtual 64, 3), none, none, some (.getfield 108, 3), none, none, some (.aload_n 0, 1), some (.getfield 43, 3), none], [none, some (.if_icmp .ne 8, 3), none, none, some (.aload_n 0, 1), some (.iload_n 1, 1), some (.invokevirtual 111, 3), none, none, some (.iinc 1 (-1), 3), none, none, some (.goto (-27), 3), none, none, some (.return_, 1)]]
/-- X5_joyIn -/
def jv_c65 : List (List jv_I) := [[some (.aload_n 0, 1), some (.iload_n 1, 1), some (.invokevirtual 64, 3), none, none, some (.astore_n 3, 1), some (.iload_n 2, 1), some (.iconst 4, 1), some (.idiv, 1), some (.istore 4, 2), none, some (.iload_n 2, 1), some (.iconst 4, 1), some (.irem, 1), some (.istore 5, 2), none], [some (.iconst 4, 1), some (.aload_n 0, 1), some (.aload_n 3, 1), some (.iload_n 2, 1), some (.bipush 8, 2), none, some (.idiv, 1), some (.invokevirtual 115, 3), none, none, some (.imul, 1), some (.aload_n 3, 1), some (.getfield 119, 3), none, none, some (.iload 4, 2)], [none, some (.aload_n 3, 1), some (.getfield 122, 3), none, none, some (.isub, 1), some (.invokestatic 125, 3), none, none, some (.imul, 1), some (.isub, 1), some (.istore 6, 2), none, some (.iload 5, 2), none, some (.ifCond .eq 9, 3)], [none, none, some (.iload 5, 2), none, some (.iconst 3, 1), some (.if_icmp .ne 12, 3), none, none, some (.iload 6, 2), none, some (.aload_n 3, 1), some (.getfield 130, 3), none, none, some (.iadd, 1), some (.istore 6, 2)], [none, some (.iload 4, 2), none, some (.invokestatic 133, 3), none, none, some (.ifCond .eq 12, 3), none, none, some (.iload 6, 2), none, some (.aload_n 3, 1), some (.getfield 137, 3), none, none, some (.iadd, 1)], [some (.istore 6, 2), none, some (.iload 6, 2), none, some (.ireturn, 1)]]
/-- X5_joyOf -/
def jv_c66 : List (List jv_I) := [[some (.aload_n 0, 1), some (.iload_n 1, 1), some (.aload_n 0, 1), some (.iload_n 1, 1), some (.invokevirtual 64, 3), none, none, some (.getfield 83, 3), none, none, some (.invokevirtual 140, 3), none, none, some (.ireturn, 1)]]
/-- X5_relativesAt -/
def jv_c67 : List (List jv_I) := [[some (.aload_n 1, 1), some (.getfield 97, 3), none, none, some (.ifCond .ne 5, 3), none, none, some (.iconst 0, 1), some (.ireturn, 1), some (.aload_n 0, 1), some (.iload_n 2, 1), some (.aload_n 1, 1), some (.getfield 97, 3), none, none, some (.invokevirtual 144, 3)], [none, none, some (.istore_n 3, 1), some (.aload_n 1, 1), some (.getfield 83, 3), none, none, some (.bipush 8, 2), none, some (.idiv, 1), some (.iload_n 2, 1), some (.if_icmp .ne 9, 3), none, none, some (.iload_n 3, 1), some (.iconst 1, 1)], [some (.isub, 1), some (.goto 4, 3), none, none, some (.iload_n 3, 1), some (.ireturn, 1)]]
/-- X5_looksForward -/
def jv_c68 : List (List jv_I) := [[some (.iload_n 0, 1), some (.iconst 2, 1), some (.irem, 1), some (.iconst 1, 1), some (.if_icmp .ne 7, 3), none, none, some (.iconst 1, 1), some (.goto 4, 3), none, none, some (.iconst 0, 1), some (.ireturn, 1)]]
/-- X5_sumOfJoys -/
def jv_c69 : List (List jv_I) := [[some (.iconst 0, 1), some (.istore_n 1, 1), some (.iconst 0, 1), some (.istore_n 2, 1), some (.iload_n 2, 1), some (.aload_n 0, 1), some (.getfield 46, 3), none, none, some (.if_icmp .ge 17, 3), none, none, some (.iload_n 1, 1), some (.aload_n 0, 1), some (.iload_n 2, 1), some (.invokevirtual 147, 3)], [none, none, some (.iadd, 1), some (.istore_n 1, 1), some (.iinc 2 1, 3), none, none, some (.goto (-19), 3), none, none, some (.iload_n 1, 1), some (.ireturn, 1)]]
/-- X5_grumblers -/
def jv_c70 : List (List jv_I) := [[some (.iconst 0, 1), some (.istore_n 1, 1), some (.iconst 0, 1), some (.istore_n 2, 1), some (.iload_n 2, 1), some (.aload_n 0, 1), some (.getfield 46, 3), none, none, some (.if_icmp .ge 20, 3), none, none, some (.aload_n 0, 1), some (.iload_n 2, 1), some (.invokevirtual 147, 3), none], [none, some (.ifCond .ge 6, 3), none, none, some (.iinc 1 1, 3), none, none, some (.iinc 2 1, 3), none, none, some (.goto (-22), 3), none, none, some (.iload_n 1, 1), some (.ireturn, 1)]]
/-- X5_placeOf -/
def jv_c71 : List (List jv_I) := [[some (.aload_n 0, 1), some (.iload_n 1, 1), some (.invokevirtual 147, 3), none, none, some (.istore_n 2, 1), some (.iconst 0, 1), some (.istore_n 3, 1), some (.iconst 0, 1), some (.istore 4, 2), none, some (.iload 4, 2), none, some (.aload_n 0, 1), some (.getfield 46, 3), none], [none, some (.if_icmp .ge 38, 3), none, none, some (.aload_n 0, 1), some (.iload 4, 2), none, some (.invokevirtual 147, 3), none, none, some (.istore 5, 2), none, some (.iload 5, 2), none, some (.iload_n 2, 1), some (.if_icmp .gt 15, 3)], [none, none, some (.iload 5, 2), none, some (.iload_n 2, 1), some (.if_icmp .ne 12, 3), none, none, some (.iload 4, 2), none, some (.iload_n 1, 1), some (.if_icmp .ge 6, 3), none, none, some (.iinc 3 1, 3), none], [none, some (.iinc 4 1, 3), none, none, some (.goto (-41), 3), none, none, some (.iload_n 3, 1), some (.ireturn, 1)]]
/-- X5_whoIsAtPlace -/
def jv_c72 : List (List jv_I) := [[some (.iconst 0, 1), some (.istore_n 2, 1), some (.iload_n 2, 1), some (.aload_n 0, 1), some (.getfield 46, 3), none, none, some (.if_icmp .ge 20, 3), none, none, some (.aload_n 0, 1), some (.iload_n 2, 1), some (.invokevirtual 150, 3), none, none, some (.iload_n 1, 1)], [some (.if_icmp .ne 5, 3), none, none, some (.iload_n 2, 1), some (.ireturn, 1), some (.iinc 2 1, 3), none, none, some (.goto (-22), 3), none, none, some (.bipush (-2), 2), none, some (.ireturn, 1)]]
/-- X5_isAt -/
def jv_c73 : List (List jv_I) := [[some (.aload_n 0, 1), some (.iload_n 1, 1), some (.invokevirtual 64, 3), none, none, some (.getfield 83, 3), none, none, some (.bipush 8, 2), none, some (.idiv, 1), some (.iload_n 2, 1), some (.if_icmp .ne 7, 3), none, none, some (.iconst 1, 1)], [some (.goto 4, 3), none, none, some (.iconst 0, 1), some (.ireturn, 1)]]
/-- X5_travellersAt -/
def jv_c74 : List (List jv_I) := [[some (.iconst 0, 1), some (.istore_n 2, 1), some (.iconst 0, 1), some (.istore_n 3, 1), some (.iload_n 3, 1), some (.aload_n 0, 1), some (.getfield 46, 3), none, none, some (.if_icmp .ge 21, 3), none, none, some (.aload_n 0, 1), some (.iload_n 3, 1), some (.iload_n 1, 1), some (.invokevirtual 153, 3)], [none, none, some (.ifCond .eq 6, 3), none, none, some (.iinc 2 1, 3), none, none, some (.iinc 3 1, 3), none, none, some (.goto (-23), 3), none, none, some (.iload_n 2, 1), some (.ireturn, 1)]]
/-- X5_grumblersAt -/
def jv_c75 : List (List jv_I) := [[some (.iconst 0, 1), some (.istore_n 2, 1), some (.iconst 0, 1), some (.istore_n 3, 1), some (.iload_n 3, 1), some (.aload_n 0, 1), some (.getfield 46, 3), none, none, some (.if_icmp .ge 29, 3), none, none, some (.aload_n 0, 1), some (.iload_n 3, 1), some (.iload_n 1, 1), some (.invokevirtual 153, 3)], [none, none, some (.ifCond .eq 14, 3), none, none, some (.aload_n 0, 1), some (.iload_n 3, 1), some (.invokevirtual 147, 3), none, none, some (.ifCond .ge 6, 3), none, none, some (.iinc 2 1, 3), none, none], [some (.iinc 3 1, 3), none, none, some (.goto (-31), 3), none, none, some (.iload_n 2, 1), some (.ireturn, 1)]]
/-- X5_sumOfJoysAt -/
def jv_c76 : List (List jv_I) := [[some (.iconst 0, 1), some (.istore_n 2, 1), some (.iconst 0, 1), some (.istore_n 3, 1), some (.iload_n 3, 1), some (.aload_n 0, 1), some (.getfield 46, 3), none, none, some (.if_icmp .ge 26, 3), none, none, some (.aload_n 0, 1), some (.iload_n 3, 1), some (.iload_n 1, 1), some (.invokevirtual 153, 3)], [none, none, some (.ifCond .eq 11, 3), none, none, some (.iload_n 2, 1), some (.aload_n 0, 1), some (.iload_n 3, 1), some (.invokevirtual 147, 3), none, none, some (.iadd, 1), some (.istore_n 2, 1), some (.iinc 3 1, 3), none, none], [some (.goto (-28), 3), none, none, some (.iload_n 2, 1), some (.ireturn, 1)]]
/-- X5_greatestFamilyAt -/
def jv_c77 : List (List jv_I) := [[some (.iconst 0, 1), some (.istore_n 2, 1), some (.iconst 0, 1), some (.istore_n 3, 1), some (.iconst 1, 1), some (.istore 4, 2), none, some (.iload 4, 2), none, some (.bipush 9, 2), none, some (.if_icmp .gt 30, 3), none, none, some (.aload_n 0, 1), some (.iload_n 1, 1)], [some (.iload 4, 2), none, some (.invokevirtual 144, 3), none, none, some (.istore 5, 2), none, some (.iload 5, 2), none, some (.iload_n 3, 1), some (.if_icmp .le 9, 3), none, none, some (.iload 5, 2), none, some (.istore_n 3, 1)], [some (.iload 4, 2), none, some (.istore_n 2, 1), some (.iinc 4 1, 3), none, none, some (.goto (-31), 3), none, none, some (.iload_n 2, 1), some (.ireturn, 1)]]
/-- X5_membersOf -/
def jv_c78 : List (List jv_I) := [[some (.iconst 0, 1), some (.istore_n 2, 1), some (.iconst 0, 1), some (.istore_n 3, 1), some (.iload_n 3, 1), some (.iconst 5, 1), some (.if_icmp .ge 18, 3), none, none, some (.iload_n 2, 1), some (.aload_n 0, 1), some (.iload_n 3, 1), some (.iload_n 1, 1), some (.invokevirtual 144, 3), none, none], [some (.iadd, 1), some (.istore_n 2, 1), some (.iinc 3 1, 3), none, none, some (.goto (-17), 3), none, none, some (.iload_n 2, 1), some (.ireturn, 1)]]
/-- X5_tablesOf -/
def jv_c79 : List (List jv_I) := [[some (.iconst 0, 1), some (.istore_n 2, 1), some (.iconst 0, 1), some (.istore_n 3, 1), some (.iload_n 3, 1), some (.iconst 5, 1), some (.if_icmp .ge 21, 3), none, none, some (.aload_n 0, 1), some (.iload_n 3, 1), some (.iload_n 1, 1), some (.invokevirtual 144, 3), none, none, some (.ifCond .le 6, 3)], [none, none, some (.iinc 2 1, 3), none, none, some (.iinc 3 1, 3), none, none, some (.goto (-20), 3), none, none, some (.iload_n 2, 1), some (.ireturn, 1)]]
/-- X5_sumOfJoysOf -/
def jv_c80 : List (List jv_I) := [[some (.iconst 0, 1), some (.istore_n 2, 1), some (.iconst 0, 1), some (.istore_n 3, 1), some (.iload_n 3, 1), some (.aload_n 0, 1), some (.getfield 46, 3), none, none, some (.if_icmp .ge 29, 3), none, none, some (.aload_n 0, 1), some (.iload_n 3, 1), some (.invokevirtual 64, 3), none], [none, some (.getfield 97, 3), none, none, some (.iload_n 1, 1), some (.if_icmp .ne 11, 3), none, none, some (.iload_n 2, 1), some (.aload_n 0, 1), some (.iload_n 3, 1), some (.invokevirtual 147, 3), none, none, some (.iadd, 1), some (.istore_n 2, 1)], [some (.iinc 3 1, 3), none, none, some (.goto (-31), 3), none, none, some (.iload_n 2, 1), some (.ireturn, 1)]]
/-- X5_families -/
def jv_c81 : List (List jv_I) := [[some (.iconst 0, 1), some (.istore_n 1, 1), some (.iconst 1, 1), some (.istore_n 2, 1), some (.iload_n 2, 1), some (.bipush 9, 2), none, some (.if_icmp .gt 20, 3), none, none, some (.aload_n 0, 1), some (.iload_n 2, 1), some (.invokevirtual 156, 3), none, none, some (.ifCond .le 6, 3)], [none, none, some (.iinc 1 1, 3), none, none, some (.iinc 2 1, 3), none, none, some (.goto (-20), 3), none, none, some (.iload_n 1, 1), some (.ireturn, 1)]]
/-- X5_sumOfSweets -/
def jv_c82 : List (List jv_I) := [[some (.iconst 0, 1), some (.istore_n 1, 1), some (.iconst 0, 1), some (.istore_n 2, 1), some (.iload_n 2, 1), some (.aload_n 0, 1), some (.getfield 46, 3), none, none, some (.if_icmp .ge 20, 3), none, none, some (.iload_n 1, 1), some (.aload_n 0, 1), some (.iload_n 2, 1), some (.invokevirtual 64, 3)], [none, none, some (.getfield 159, 3), none, none, some (.iadd, 1), some (.istore_n 1, 1), some (.iinc 2 1, 3), none, none, some (.goto (-22), 3), none, none, some (.iload_n 1, 1), some (.ireturn, 1)]]
/-- X5_sitDown -/
def jv_c83 : List (List jv_I) := [[some (.aload_n 0, 1), some (.iload_n 1, 1), some (.invokevirtual 64, 3), none, none, some (.astore_n 3, 1), some (.aload_n 0, 1), some (.aload_n 3, 1), some (.iconst (-1), 1), some (.invokevirtual 100, 3), none, none, some (.aload_n 3, 1), some (.iload_n 2, 1), some (.putfield 83, 3), none], [none, some (.aload_n 0, 1), some (.aload_n 3, 1), some (.iconst 1, 1), some (.invokevirtual 100, 3), none, none, some (.return_, 1)]]
/-- X5_exchangeSeats -/
def jv_c84 : List (List jv_I) := [[some (.aload_n 0, 1), some (.iload_n 1, 1), some (.invokevirtual 64, 3), none, none, some (.getfield 83, 3), none, none, some (.istore_n 3, 1), some (.aload_n 0, 1), some (.iload_n 1, 1), some (.aload_n 0, 1), some (.iload_n 2, 1), some (.invokevirtual 64, 3), none, none], [some (.getfield 83, 3), none, none, some (.invokevirtual 162, 3), none, none, some (.aload_n 0, 1), some (.iload_n 2, 1), some (.iload_n 3, 1), some (.invokevirtual 162, 3), none, none, some (.return_, 1)]]
/-- X5_passSeats -/
def jv_c85 : List (List jv_I) := [[some (.aload_n 0, 1), some (.iload_n 1, 1), some (.invokevirtual 64, 3), none, none, some (.getfield 83, 3), none, none, some (.istore 4, 2), none, some (.aload_n 0, 1), some (.iload_n 1, 1), some (.aload_n 0, 1), some (.iload_n 2, 1), some (.invokevirtual 64, 3), none], [none, some (.getfield 83, 3), none, none, some (.invokevirtual 162, 3), none, none, some (.aload_n 0, 1), some (.iload_n 2, 1), some (.aload_n 0, 1), some (.iload_n 3, 1), some (.invokevirtual 64, 3), none, none, some (.getfield 83, 3), none], [none, some (.invokevirtual 162, 3), none, none, some (.aload_n 0, 1), some (.iload_n 3, 1), some (.iload 4, 2), none, some (.invokevirtual 162, 3), none, none, some (.return_, 1)]]
/-- X5_riseBySwap -/
def jv_c86 : List (List jv_I) := [[some (.aload_n 0, 1), some (.iload_n 1, 1), some (.invokevirtual 147, 3), none, none, some (.istore_n 3, 1), some (.aload_n 0, 1), some (.iload_n 1, 1), some (.iload_n 2, 1), some (.invokevirtual 166, 3), none, none, some (.aload_n 0, 1), some (.iload_n 1, 1), some (.invokevirtual 147, 3), none], [none, some (.iload_n 3, 1), some (.isub, 1), some (.istore 4, 2), none, some (.aload_n 0, 1), some (.iload_n 1, 1), some (.iload_n 2, 1), some (.invokevirtual 166, 3), none, none, some (.iload 4, 2), none, some (.ireturn, 1)]]
/-- X5_sumIfSwapped -/
def jv_c87 : List (List jv_I) := [[some (.aload_n 0, 1), some (.iload_n 1, 1), some (.iload_n 2, 1), some (.invokevirtual 166, 3), none, none, some (.aload_n 0, 1), some (.invokevirtual 169, 3), none, none, some (.istore_n 3, 1), some (.aload_n 0, 1), some (.iload_n 1, 1), some (.iload_n 2, 1), some (.invokevirtual 166, 3), none], [none, some (.iload_n 3, 1), some (.ireturn, 1)]]
/-- X5_swapReason -/
def jv_c88 : List (List jv_I) := [[some (.aload_n 0, 1), some (.iload_n 1, 1), some (.aload_n 0, 1), some (.iload_n 2, 1), some (.invokevirtual 64, 3), none, none, some (.getfield 83, 3), none, none, some (.invokevirtual 172, 3), none, none, some (.ifCond .eq 19, 3), none, none], [some (.aload_n 0, 1), some (.iload_n 2, 1), some (.aload_n 0, 1), some (.iload_n 1, 1), some (.invokevirtual 64, 3), none, none, some (.getfield 83, 3), none, none, some (.invokevirtual 172, 3), none, none, some (.ifCond .ne 5, 3), none, none], [some (.iconst 1, 1), some (.ireturn, 1), some (.aload_n 0, 1), some (.iload_n 1, 1), some (.invokevirtual 64, 3), none, none, some (.getfield 159, 3), none, none, some (.iload_n 3, 1), some (.if_icmp .ge 5, 3), none, none, some (.iconst 2, 1), some (.ireturn, 1)], [some (.aload_n 0, 1), some (.iload_n 1, 1), some (.invokevirtual 147, 3), none, none, some (.istore 4, 2), none, some (.aload_n 0, 1), some (.iload_n 2, 1), some (.invokevirtual 147, 3), none, none, some (.istore 5, 2), none, some (.aload_n 0, 1), some (.iload_n 1, 1)], [some (.iload_n 2, 1), some (.invokevirtual 166, 3), none, none, some (.aload_n 0, 1), some (.iload_n 1, 1), some (.invokevirtual 147, 3), none, none, some (.iload 4, 2), none, some (.isub, 1), some (.istore 6, 2), none, some (.aload_n 0, 1), some (.iload_n 2, 1)], [some (.invokevirtual 147, 3), none, none, some (.iload 5, 2), none, some (.isub, 1), some (.istore 7, 2), none, some (.aload_n 0, 1), some (.iload_n 1, 1), some (.iload_n 2, 1), some (.invokevirtual 166, 3), none, none, some (.iload 6, 2), none], [some (.iload_n 3, 1), some (.if_icmp .ge 5, 3), none, none, some (.iconst 3, 1), some (.ireturn, 1), some (.iload 7, 2), none, some (.iload_n 3, 1), some (.ineg, 1), some (.if_icmp .ge 7, 3), none, none, some (.iconst 4, 1), some (.goto 4, 3), none], [none, some (.iconst 0, 1), some (.ireturn, 1)]]
/-- X5_doSwap -/
def jv_c89 : List (List jv_I) := [[some (.aload_n 0, 1), some (.iload_n 1, 1), some (.iload_n 2, 1), some (.invokevirtual 166, 3), none, none, some (.aload_n 0, 1), some (.iload_n 1, 1), some (.invokevirtual 64, 3), none, none, some (.dup, 1), some (.getfield 159, 3), none, none, some (.iload_n 3, 1)], [some (.isub, 1), some (.putfield 159, 3), none, none, some (.aload_n 0, 1), some (.iload_n 2, 1), some (.invokevirtual 64, 3), none, none, some (.dup, 1), some (.getfield 159, 3), none, none, some (.iload_n 3, 1), some (.iadd, 1), some (.putfield 159, 3)], [none, none, some (.aload_n 0, 1), some (.dup, 1), some (.getfield 49, 3), none, none, some (.iconst 1, 1), some (.iadd, 1), some (.putfield 49, 3), none, none, some (.aload_n 0, 1), some (.dup, 1), some (.getfield 58, 3), none], [none, some (.iload_n 3, 1), some (.iadd, 1), some (.putfield 58, 3), none, none, some (.aload_n 0, 1), some (.getfield 29, 3), none, none, some (.iconst 1, 1), some (.bipush 100, 2), none, some (.iload_n 1, 1), some (.imul, 1), some (.iload_n 2, 1)], [some (.iadd, 1), some (.iload_n 3, 1), some (.invokevirtual 104, 3), none, none, some (.return_, 1)]]
/-- X5_moveReason -/
def jv_c90 : List (List jv_I) := [[some (.aload_n 0, 1), some (.iload_n 2, 1), some (.invokevirtual 175, 3), none, none, some (.ifCond .ne 5, 3), none, none, some (.iconst 5, 1), some (.ireturn, 1), some (.aload_n 0, 1), some (.iload_n 1, 1), some (.iload_n 2, 1), some (.invokevirtual 172, 3), none, none], [some (.ifCond .ne 5, 3), none, none, some (.iconst 1, 1), some (.ireturn, 1), some (.aload_n 0, 1), some (.iload_n 1, 1), some (.iload_n 2, 1), some (.invokevirtual 140, 3), none, none, some (.aload_n 0, 1), some (.iload_n 1, 1), some (.invokevirtual 147, 3), none, none], [some (.if_icmp .ge 8, 3), none, none, some (.bipush 6, 2), none, some (.goto 4, 3), none, none, some (.iconst 0, 1), some (.ireturn, 1)]]
/-- X5_doMove -/
def jv_c91 : List (List jv_I) := [[some (.aload_n 0, 1), some (.iload_n 1, 1), some (.invokevirtual 64, 3), none, none, some (.getfield 83, 3), none, none, some (.istore_n 3, 1), some (.aload_n 0, 1), some (.iload_n 1, 1), some (.iload_n 2, 1), some (.invokevirtual 162, 3), none, none, some (.aload_n 0, 1)], [some (.dup, 1), some (.getfield 52, 3), none, none, some (.iconst 1, 1), some (.iadd, 1), some (.putfield 52, 3), none, none, some (.aload_n 0, 1), some (.getfield 29, 3), none, none, some (.iconst 2, 1), some (.iload_n 1, 1), some (.iload_n 3, 1)], [some (.invokevirtual 104, 3), none, none, some (.return_, 1)]]
/-- X5_ringReason -/
def jv_c92 : List (List jv_I) := [[some (.aload_n 0, 1), some (.iload_n 1, 1), some (.aload_n 0, 1), some (.iload_n 2, 1), some (.invokevirtual 64, 3), none, none, some (.getfield 83, 3), none, none, some (.invokevirtual 172, 3), none, none, some (.ifCond .eq 35, 3), none, none], [some (.aload_n 0, 1), some (.iload_n 2, 1), some (.aload_n 0, 1), some (.iload_n 3, 1), some (.invokevirtual 64, 3), none, none, some (.getfield 83, 3), none, none, some (.invokevirtual 172, 3), none, none, some (.ifCond .eq 19, 3), none, none], [some (.aload_n 0, 1), some (.iload_n 3, 1), some (.aload_n 0, 1), some (.iload_n 1, 1), some (.invokevirtual 64, 3), none, none, some (.getfield 83, 3), none, none, some (.invokevirtual 172, 3), none, none, some (.ifCond .ne 5, 3), none, none], [some (.iconst 1, 1), some (.ireturn, 1), some (.aload_n 0, 1), some (.iload_n 1, 1), some (.invokevirtual 147, 3), none, none, some (.istore 4, 2), none, some (.aload_n 0, 1), some (.iload_n 2, 1), some (.invokevirtual 147, 3), none, none, some (.istore 5, 2), none], [some (.aload_n 0, 1), some (.iload_n 3, 1), some (.invokevirtual 147, 3), none, none, some (.istore 6, 2), none, some (.aload_n 0, 1), some (.iload_n 1, 1), some (.iload_n 2, 1), some (.iload_n 3, 1), some (.invokevirtual 178, 3), none, none, some (.aload_n 0, 1), some (.iload_n 1, 1)], [some (.invokevirtual 147, 3), none, none, some (.iload 4, 2), none, some (.if_icmp .lt 23, 3), none, none, some (.aload_n 0, 1), some (.iload_n 2, 1), some (.invokevirtual 147, 3), none, none, some (.iload 5, 2), none, some (.if_icmp .lt 13, 3)], [none, none, some (.aload_n 0, 1), some (.iload_n 3, 1), some (.invokevirtual 147, 3), none, none, some (.iload 6, 2), none, some (.if_icmp .ge 7, 3), none, none, some (.iconst 1, 1), some (.goto 4, 3), none, none], [some (.iconst 0, 1), some (.istore 7, 2), none, some (.aload_n 0, 1), some (.iload_n 3, 1), some (.iload_n 2, 1), some (.iload_n 1, 1), some (.invokevirtual 178, 3), none, none, some (.iload 7, 2), none, some (.ifCond .eq 8, 3), none, none, some (.bipush 6, 2)], [none, some (.goto 4, 3), none, none, some (.iconst 0, 1), some (.ireturn, 1)]]
/-- X5_riseByRing -/
def jv_c93 : List (List jv_I) := [[some (.aload_n 0, 1), some (.iload_n 1, 1), some (.invokevirtual 147, 3), none, none, some (.aload_n 0, 1), some (.iload_n 2, 1), some (.invokevirtual 147, 3), none, none, some (.iadd, 1), some (.aload_n 0, 1), some (.iload_n 3, 1), some (.invokevirtual 147, 3), none, none], [some (.iadd, 1), some (.istore 4, 2), none, some (.aload_n 0, 1), some (.iload_n 1, 1), some (.iload_n 2, 1), some (.iload_n 3, 1), some (.invokevirtual 178, 3), none, none, some (.aload_n 0, 1), some (.iload_n 1, 1), some (.invokevirtual 147, 3), none, none, some (.aload_n 0, 1)], [some (.iload_n 2, 1), some (.invokevirtual 147, 3), none, none, some (.iadd, 1), some (.aload_n 0, 1), some (.iload_n 3, 1), some (.invokevirtual 147, 3), none, none, some (.iadd, 1), some (.iload 4, 2), none, some (.isub, 1), some (.istore 5, 2), none], [some (.aload_n 0, 1), some (.iload_n 3, 1), some (.iload_n 2, 1), some (.iload_n 1, 1), some (.invokevirtual 178, 3), none, none, some (.iload 5, 2), none, some (.ireturn, 1)]]
/-- X5_doRing -/
def jv_c94 : List (List jv_I) := [[some (.aload_n 0, 1), some (.iload_n 1, 1), some (.iload_n 2, 1), some (.iload_n 3, 1), some (.invokevirtual 178, 3), none, none, some (.aload_n 0, 1), some (.dup, 1), some (.getfield 55, 3), none, none, some (.iconst 1, 1), some (.iadd, 1), some (.putfield 55, 3), none], [none, some (.aload_n 0, 1), some (.getfield 29, 3), none, none, some (.iconst 3, 1), some (.sipush 10000, 3), none, none, some (.iload_n 1, 1), some (.imul, 1), some (.bipush 100, 2), none, some (.iload_n 2, 1), some (.imul, 1), some (.iadd, 1)], [some (.iload_n 3, 1), some (.iadd, 1), some (.iconst 0, 1), some (.invokevirtual 104, 3), none, none, some (.return_, 1)]]
/-- X5_risingRings -/
def jv_c95 : List (List jv_I) := [[some (.iconst 0, 1), some (.istore_n 1, 1), some (.iconst 0, 1), some (.istore_n 2, 1), some (.iload_n 2, 1), some (.aload_n 0, 1), some (.getfield 46, 3), none, none, some (.if_icmp .ge 78, 3), none, none, some (.iload_n 2, 1), some (.iconst 1, 1), some (.iadd, 1), some (.istore_n 3, 1)], [some (.iload_n 3, 1), some (.aload_n 0, 1), some (.getfield 46, 3), none, none, some (.if_icmp .ge 60, 3), none, none, some (.iload_n 2, 1), some (.iconst 1, 1), some (.iadd, 1), some (.istore 4, 2), none, some (.iload 4, 2), none, some (.aload_n 0, 1)], [some (.getfield 46, 3), none, none, some (.if_icmp .ge 40, 3), none, none, some (.iload_n 3, 1), some (.iload 4, 2), none, some (.if_icmp .eq 28, 3), none, none, some (.aload_n 0, 1), some (.iload_n 2, 1), some (.iload_n 3, 1), some (.iload 4, 2)], [none, some (.invokevirtual 181, 3), none, none, some (.ifCond .ne 17, 3), none, none, some (.aload_n 0, 1), some (.iload_n 2, 1), some (.iload_n 3, 1), some (.iload 4, 2), none, some (.invokevirtual 185, 3), none, none, some (.ifCond .le 6, 3)], [none, none, some (.iinc 1 1, 3), none, none, some (.iinc 4 1, 3), none, none, some (.goto (-43), 3), none, none, some (.iinc 3 1, 3), none, none, some (.goto (-62), 3), none], [none, some (.iinc 2 1, 3), none, none, some (.goto (-80), 3), none, none, some (.iload_n 1, 1), some (.ireturn, 1)]]
/-- X5_bestSeatFor -/
def jv_c96 : List (List jv_I) := [[some (.bipush (-2), 2), none, some (.istore_n 2, 1), some (.iconst 0, 1), some (.istore_n 3, 1), some (.iconst 0, 1), some (.istore 4, 2), none, some (.iload 4, 2), none, some (.aload_n 0, 1), some (.invokevirtual 75, 3), none, none, some (.if_icmp .ge 46, 3), none], [none, some (.aload_n 0, 1), some (.iload_n 1, 1), some (.iload 4, 2), none, some (.invokevirtual 188, 3), none, none, some (.ifCond .ne 30, 3), none, none, some (.aload_n 0, 1), some (.iload_n 1, 1), some (.iload 4, 2), none, some (.invokevirtual 140, 3)], [none, none, some (.istore 5, 2), none, some (.iload_n 2, 1), some (.bipush (-2), 2), none, some (.if_icmp .eq 9, 3), none, none, some (.iload 5, 2), none, some (.iload_n 3, 1), some (.if_icmp .le 9, 3), none, none], [some (.iload 4, 2), none, some (.istore_n 2, 1), some (.iload 5, 2), none, some (.istore_n 3, 1), some (.iinc 4 1, 3), none, none, some (.goto (-49), 3), none, none, some (.iload_n 2, 1), some (.ireturn, 1)]]
/-- X5_partnerFor -/
def jv_c97 : List (List jv_I) := [[some (.bipush (-2), 2), none, some (.istore_n 2, 1), some (.iconst 0, 1), some (.istore_n 3, 1), some (.iconst 0, 1), some (.istore 4, 2), none, some (.iload 4, 2), none, some (.aload_n 0, 1), some (.getfield 46, 3), none, none, some (.if_icmp .ge 47, 3), none], [none, some (.iload 4, 2), none, some (.iload_n 1, 1), some (.if_icmp .eq 35, 3), none, none, some (.aload_n 0, 1), some (.iload_n 1, 1), some (.iload 4, 2), none, some (.iconst 0, 1), some (.invokevirtual 191, 3), none, none, some (.ifCond .ne 24, 3)], [none, none, some (.aload_n 0, 1), some (.iload_n 1, 1), some (.iload 4, 2), none, some (.invokevirtual 194, 3), none, none, some (.istore 5, 2), none, some (.iload 5, 2), none, some (.iload_n 3, 1), some (.if_icmp .le 9, 3), none], [none, some (.iload 4, 2), none, some (.istore_n 2, 1), some (.iload 5, 2), none, some (.istore_n 3, 1), some (.iinc 4 1, 3), none, none, some (.goto (-50), 3), none, none, some (.iload_n 2, 1), some (.ireturn, 1)]]
/-- X5_settleOnce -/
def jv_c98 : List (List jv_I) := [[some (.aload_n 0, 1), some (.invokevirtual 169, 3), none, none, some (.istore_n 1, 1), some (.bipush (-2), 2), none, some (.istore_n 2, 1), some (.bipush (-2), 2), none, some (.istore_n 3, 1), some (.iconst 0, 1), some (.istore 4, 2), none, some (.iload 4, 2), none], [some (.aload_n 0, 1), some (.getfield 46, 3), none, none, some (.if_icmp .ge 82, 3), none, none, some (.iload 4, 2), none, some (.iconst 1, 1), some (.iadd, 1), some (.istore 5, 2), none, some (.iload 5, 2), none, some (.aload_n 0, 1)], [some (.getfield 46, 3), none, none, some (.if_icmp .ge 61, 3), none, none, some (.aload_n 0, 1), some (.iload 4, 2), none, some (.iload 5, 2), none, some (.iconst 0, 1), some (.invokevirtual 191, 3), none, none, some (.ifCond .eq 6, 3)], [none, none, some (.goto 40, 3), none, none, some (.aload_n 0, 1), some (.iload 4, 2), none, some (.iload 5, 2), none, some (.invokevirtual 166, 3), none, none, some (.aload_n 0, 1), some (.invokevirtual 169, 3), none], [none, some (.istore 6, 2), none, some (.aload_n 0, 1), some (.iload 4, 2), none, some (.iload 5, 2), none, some (.invokevirtual 166, 3), none, none, some (.iload 6, 2), none, some (.iload_n 1, 1), some (.if_icmp .le 12, 3), none], [none, some (.iload 6, 2), none, some (.istore_n 1, 1), some (.iload 4, 2), none, some (.istore_n 2, 1), some (.iload 5, 2), none, some (.istore_n 3, 1), some (.iinc 5 1, 3), none, none, some (.goto (-64), 3), none, none], [some (.iinc 4 1, 3), none, none, some (.goto (-85), 3), none, none, some (.iload_n 2, 1), some (.bipush (-2), 2), none, some (.if_icmp .ne 5, 3), none, none, some (.iconst 0, 1), some (.ireturn, 1), some (.aload_n 0, 1), some (.iload_n 2, 1)], [some (.iload_n 3, 1), some (.invokevirtual 166, 3), none, none, some (.iconst 1, 1), some (.ireturn, 1)]]
/-- X6_init -/
def jv_c101 : List (List jv_I) := [[some (.aload_n 0, 1), some (.invokespecial 3, 3), none, none, some (.return_, 1)]]
/-- X6_clear -/
def jv_c102 : List (List jv_I) := [[some (.aload_n 0, 1), some (.iconst 0, 1), some (.putfield 9, 3), none, none, some (.aload_n 0, 1), some (.iconst 0, 1), some (.putfield 15, 3), none, none, some (.aload_n 0, 1), some (.iconst 0, 1), some (.putfield 18, 3), none, none, some (.aload_n 0, 1)], [some (.iconst 0, 1), some (.putfield 21, 3), none, none, some (.aload_n 0, 1), some (.iconst 0, 1), some (.putfield 24, 3), none, none, some (.aload_n 0, 1), some (.iconst 0, 1), some (.putfield 27, 3), none, none, some (.aload_n 0, 1), some (.iconst 0, 1)], [some (.putfield 30, 3), none, none, some (.aload_n 0, 1), some (.iconst 0, 1), some (.putfield 33, 3), none, none, some (.aload_n 0, 1), some (.iconst 0, 1), some (.putfield 36, 3), none, none, some (.aload_n 0, 1), some (.bipush 99, 2), none], [some (.putfield 39, 3), none, none, some (.return_, 1)]]
/-- X6_copyFrom -/
def jv_c103 : List (List jv_I) := [[some (.aload_n 0, 1), some (.aload_n 1, 1), some (.getfield 9, 3), none, none, some (.putfield 9, 3), none, none, some (.aload_n 0, 1), some (.aload_n 1, 1), some (.getfield 15, 3), none, none, some (.putfield 15, 3), none, none], [some (.aload_n 0, 1), some (.aload_n 1, 1), some (.getfield 18, 3), none, none, some (.putfield 18, 3), none, none, some (.aload_n 0, 1), some (.aload_n 1, 1), some (.getfield 21, 3), none, none, some (.putfield 21, 3), none, none], [some (.aload_n 0, 1), some (.aload_n 1, 1), some (.getfield 24, 3), none, none, some (.putfield 24, 3), none, none, some (.aload_n 0, 1), some (.aload_n 1, 1), some (.getfield 27, 3), none, none, some (.putfield 27, 3), none, none], [some (.aload_n 0, 1), some (.aload_n 1, 1), some (.getfield 30, 3), none, none, some (.putfield 30, 3), none, none, some (.aload_n 0, 1), some (.aload_n 1, 1), some (.getfield 33, 3), none, none, some (.putfield 33, 3), none, none], [some (.aload_n 0, 1), some (.aload_n 1, 1), some (.getfield 36, 3), none, none, some (.putfield 36, 3), none, none, some (.aload_n 0, 1), some (.aload_n 1, 1), some (.getfield 39, 3), none, none, some (.putfield 39, 3), none, none], [some (.return_, 1)]]
/-- X6_settable -/
def jv_c104 : List (List jv_I) := [[some (.iload_n 1, 1), some (.tableswitch 51 0 3 #[31, 36, 41, 46], 31), none, none, none, none, none, none, none, none, none, none, none, none, none, none], [none, none, none, none, none, none, none, none, none, none, none, none, none, none, none, none], [some (.aload_n 0, 1), some (.getfield 24, 3), none, none, some (.ireturn, 1), some (.aload_n 0, 1), some (.getfield 27, 3), none, none, some (.ireturn, 1), some (.aload_n 0, 1), some (.getfield 30, 3), none, none, some (.ireturn, 1), some (.aload_n 0, 1)], [some (.getfield 33, 3), none, none, some (.ireturn, 1), some (.aload_n 0, 1), some (.getfield 18, 3), none, none, some (.ireturn, 1)]]
/-- X6_change -/
def jv_c105 : List (List jv_I) := [[some (.iload_n 1, 1), some (.tableswitch 63 0 3 #[31, 39, 47, 55], 31), none, none, none, none, none, none, none, none, none, none, none, none, none, none], [none, none, none, none, none, none, none, none, none, none, none, none, none, none, none, none], [some (.aload_n 0, 1), some (.iload_n 2, 1), some (.putfield 24, 3), none, none, some (.goto 32, 3), none, none, some (.aload_n 0, 1), some (.iload_n 2, 1), some (.putfield 27, 3), none, none, some (.goto 24, 3), none, none], [some (.aload_n 0, 1), some (.iload_n 2, 1), some (.putfield 30, 3), none, none, some (.goto 16, 3), none, none, some (.aload_n 0, 1), some (.iload_n 2, 1), some (.putfield 33, 3), none, none, some (.goto 8, 3), none, none], [some (.aload_n 0, 1), some (.iload_n 2, 1), some (.putfield 18, 3), none, none, some (.return_, 1)]]
/-- X6_letterAt -/
def jv_c106 : List (List jv_I) := [[some (.iload_n 1, 1), some (.iconst 5, 1), some (.if_icmp .ge 17, 3), none, none, some (.aload_n 0, 1), some (.getfield 9, 3), none, none, some (.iconst 5, 1), some (.iload_n 1, 1), some (.imul, 1), some (.ishr, 1), some (.bipush 31, 2), none, some (.iand, 1)], [some (.goto 4, 3), none, none, some (.iconst 0, 1), some (.ireturn, 1)]]
/-- X7_init -/
def jv_c107 : List (List jv_I) := [[some (.aload_n 0, 1), some (.invokespecial 1, 3), none, none, some (.aload_n 0, 1), some (.new 7, 3), none, none, some (.dup, 1), some (.invokespecial 9, 3), none, none, some (.putfield 10, 3), none, none, some (.aload_n 0, 1)], [some (.aload_n 0, 1), some (.getfield 10, 3), none, none, some (.getfield 16, 3), none, none, some (.putfield 20, 3), none, none, some (.aload_n 0, 1), some (.new 21, 3), none, none, some (.dup, 1), some (.invokespecial 23, 3)], [none, none, some (.putfield 24, 3), none, none, some (.aload_n 0, 1), some (.new 28, 3), none, none, some (.dup, 1), some (.invokespecial 30, 3), none, none, some (.putfield 31, 3), none, none], [some (.aload_n 0, 1), some (.new 28, 3), none, none, some (.dup, 1), some (.invokespecial 30, 3), none, none, some (.putfield 35, 3), none, none, some (.aload_n 0, 1), some (.new 38, 3), none, none, some (.dup, 1)], [some (.invokespecial 40, 3), none, none, some (.putfield 41, 3), none, none, some (.aload_n 0, 1), some (.iconst 2, 1), some (.anewarray 28, 3), none, none, some (.putfield 45, 3), none, none, some (.iconst 0, 1), some (.istore_n 1, 1)], [some (.iload_n 1, 1), some (.iconst 2, 1), some (.if_icmp .ge 22, 3), none, none, some (.aload_n 0, 1), some (.getfield 45, 3), none, none, some (.iload_n 1, 1), some (.new 28, 3), none, none, some (.dup, 1), some (.invokespecial 30, 3), none], [none, some (.aastore, 1), some (.iinc 1 1, 3), none, none, some (.goto (-21), 3), none, none, some (.aload_n 0, 1), some (.iconst 2, 1), some (.newarray .boolean, 2), none, some (.putfield 49, 3), none, none, some (.aload_n 0, 1)], [some (.new 53, 3), none, none, some (.dup, 1), some (.invokespecial 55, 3), none, none, some (.putfield 56, 3), none, none, some (.aload_n 0, 1), some (.bipush (-2), 2), none, some (.putfield 60, 3), none, none], [some (.return_, 1)]]
/-- X7_append -/
def jv_c108 : List (List jv_I) := [[some (.aload_n 0, 1), some (.getfield 20, 3), none, none, some (.invokevirtual 64, 3), none, none, some (.ifCond .ne 5, 3), none, none, some (.iconst (-1), 1), some (.ireturn, 1), some (.aload_n 0, 1), some (.getfield 20, 3), none, none], [some (.iload_n 1, 1), some (.invokevirtual 70, 3), none, none, some (.aload_n 0, 1), some (.getfield 20, 3), none, none, some (.iload_n 2, 1), some (.invokevirtual 70, 3), none, none, some (.aload_n 0, 1), some (.getfield 20, 3), none, none], [some (.iload_n 3, 1), some (.invokevirtual 70, 3), none, none, some (.aload_n 0, 1), some (.getfield 20, 3), none, none, some (.iload 4, 2), none, some (.invokevirtual 70, 3), none, none, some (.aload_n 0, 1), some (.getfield 20, 3), none], [none, some (.iload 5, 2), none, some (.invokevirtual 70, 3), none, none, some (.aload_n 0, 1), some (.getfield 20, 3), none, none, some (.getfield 74, 3), none, none, some (.ireturn, 1)]]
/-- X7_truncate -/
def jv_c109 : List (List jv_I) := [[some (.iload_n 1, 1), some (.iconst 0, 1), some (.aload_n 0, 1), some (.getfield 20, 3), none, none, some (.getfield 74, 3), none, none, some (.invokestatic 77, 3), none, none, some (.ifCond .ne 5, 3), none, none, some (.iconst (-1), 1)], [some (.ireturn, 1), some (.aload_n 0, 1), some (.getfield 20, 3), none, none, some (.dup, 1), some (.getfield 74, 3), none, none, some (.iload_n 1, 1), some (.isub, 1), some (.putfield 74, 3), none, none, some (.aload_n 0, 1), some (.getfield 20, 3)], [none, none, some (.getfield 74, 3), none, none, some (.ireturn, 1)]]
/-- X7_load -/
def jv_c110 : List (List jv_I) := [[some (.aload_n 0, 1), some (.getfield 10, 3), none, none, some (.aload_n 0, 1), some (.getfield 35, 3), none, none, some (.invokevirtual 81, 3), none, none, some (.istore_n 1, 1), some (.aload_n 0, 1), some (.iload_n 1, 1), some (.ifCond .eq 8, 3), none], [none, some (.bipush (-2), 2), none, some (.goto 10, 3), none, none, some (.aload_n 0, 1), some (.getfield 10, 3), none, none, some (.getfield 85, 3), none, none, some (.putfield 60, 3), none, none], [some (.aload_n 0, 1), some (.getfield 20, 3), none, none, some (.iconst 0, 1), some (.putfield 74, 3), none, none, some (.iload_n 1, 1), some (.ifCond .ne 5, 3), none, none, some (.iconst (-1), 1), some (.ireturn, 1), some (.aload_n 0, 1), some (.getfield 31, 3)], [none, none, some (.aload_n 0, 1), some (.getfield 35, 3), none, none, some (.invokevirtual 88, 3), none, none, some (.iconst 0, 1), some (.istore_n 2, 1), some (.iload_n 2, 1), some (.iconst 2, 1), some (.if_icmp .ge 16, 3), none, none], [some (.aload_n 0, 1), some (.getfield 49, 3), none, none, some (.iload_n 2, 1), some (.iconst 0, 1), some (.bastore, 1), some (.iinc 2 1, 3), none, none, some (.goto (-15), 3), none, none, some (.aload_n 0, 1), some (.getfield 56, 3), none], [none, some (.invokevirtual 92, 3), none, none, some (.aload_n 0, 1), some (.getfield 31, 3), none, none, some (.getfield 95, 3), none, none, some (.ireturn, 1)]]
/-- X7_errorPosition -/
def jv_c111 : List (List jv_I) := [[some (.aload_n 0, 1), some (.getfield 60, 3), none, none, some (.ireturn, 1)]]
/-- X7_come -/
def jv_c112_0 : List (List jv_I) := [[some (.aload_n 0, 1), some (.getfield 31, 3), none, none, some (.iload_n 1, 1), some (.invokevirtual 98, 3), none, none, some (.ifCond .eq 54, 3), none, none, some (.iload_n 2, 1), some (.iconst 0, 1), some (.iconst 1, 1), some (.invokestatic 77, 3), none], [none, some (.ifCond .eq 45, 3), none, none, some (.iload_n 3, 1), some (.iconst 0, 1), some (.bipush 9, 2), none, some (.invokestatic 77, 3), none, none, some (.ifCond .eq 35, 3), none, none, some (.iload 4, 2), none], [some (.iconst 0, 1), some (.bipush 99, 2), none, some (.invokestatic 77, 3), none, none, some (.ifCond .eq 24, 3), none, none, some (.iload 5, 2), none, some (.iconst 1, 1), some (.bipush 99, 2), none, some (.invokestatic 77, 3), none], [none, some (.ifCond .eq 13, 3), none, none, some (.aload_n 0, 1), some (.getfield 10, 3), none, none, some (.invokevirtual 102, 3), none, none, some (.ifCond .ne 5, 3), none, none, some (.iconst (-1), 1), some (.ireturn, 1)], [some (.aload_n 0, 1), some (.getfield 31, 3), none, none, some (.getfield 95, 3), none, none, some (.bipush 20, 2), none, some (.if_icmp .lt 6, 3), none, none, some (.bipush (-3), 2), none, some (.ireturn, 1), some (.aload_n 0, 1)], [some (.getfield 31, 3), none, none, some (.iload_n 1, 1), some (.invokevirtual 105, 3), none, none, some (.ifCond .eq 15, 3), none, none, some (.aload_n 0, 1), some (.getfield 31, 3), none, none, some (.iload_n 2, 1), some (.iload_n 1, 1)], [some (.invokevirtual 108, 3), none, none, some (.ifCond .ne 6, 3), none, none, some (.bipush (-4), 2), none, some (.ireturn, 1), some (.aload_n 0, 1), some (.getfield 56, 3), none, none, some (.aload_n 0, 1), some (.getfield 31, 3), none], [none, some (.invokevirtual 112, 3), none, none, some (.aload_n 0, 1), some (.getfield 41, 3), none, none, some (.invokevirtual 115, 3), none, none, some (.aload_n 0, 1), some (.getfield 41, 3), none, none, some (.aload_n 0, 1)], [some (.getfield 10, 3), none, none, some (.invokevirtual 118, 3), none, none, some (.putfield 122, 3), none, none, some (.aload_n 0, 1), some (.getfield 41, 3), none, none, some (.iload_n 1, 1), some (.putfield 125, 3), none], [none, some (.aload_n 0, 1), some (.getfield 41, 3), none, none, some (.iload_n 2, 1), some (.putfield 128, 3), none, none, some (.aload_n 0, 1), some (.getfield 41, 3), none, none, some (.iload_n 3, 1), some (.putfield 131, 3), none], [none, some (.aload_n 0, 1), some (.getfield 41, 3), none, none, some (.iload 4, 2), none, some (.putfield 134, 3), none, none, some (.aload_n 0, 1), some (.getfield 41, 3), none, none, some (.iload 5, 2), none], [some (.putfield 137, 3), none, none, some (.aload_n 0, 1), some (.getfield 31, 3), none, none, some (.getfield 95, 3), none, none, some (.istore 6, 2), none, some (.aload_n 0, 1), some (.getfield 31, 3), none, none]]
def jv_c112_1 : List (List jv_I) := [[some (.aload_n 0, 1), some (.getfield 41, 3), none, none, some (.invokevirtual 140, 3), none, none, some (.aload_n 0, 1), some (.getfield 31, 3), none, none, some (.getfield 144, 3), none, none, some (.iconst 0, 1), some (.iload 6, 2)], [none, some (.iload_n 1, 1), some (.invokevirtual 150, 3), none, none, some (.aload_n 0, 1), some (.getfield 20, 3), none, none, some (.iconst 0, 1), some (.putfield 74, 3), none, none, some (.iload 6, 2), none, some (.ireturn, 1)]]
def jv_c112 : List (List jv_I) := jv_c112_0 ++ jv_c112_1
/-- X7_set -/
def jv_c113 : List (List jv_I) := [[some (.aload_n 0, 1), some (.getfield 31, 3), none, none, some (.iload_n 1, 1), some (.invokevirtual 154, 3), none, none, some (.ifCond .eq 15, 3), none, none, some (.aload_n 0, 1), some (.getfield 31, 3), none, none, some (.iload_n 2, 1)], [some (.iload_n 3, 1), some (.invokevirtual 157, 3), none, none, some (.ifCond .ne 5, 3), none, none, some (.iconst (-1), 1), some (.ireturn, 1), some (.aload_n 0, 1), some (.getfield 31, 3), none, none, some (.iload_n 1, 1), some (.invokevirtual 160, 3), none], [none, some (.astore 4, 2), none, some (.aload 4, 2), none, some (.iload_n 2, 1), some (.invokevirtual 164, 3), none, none, some (.istore 5, 2), none, some (.iload 5, 2), none, some (.iload_n 3, 1), some (.if_icmp .ne 6, 3), none], [none, some (.bipush (-2), 2), none, some (.ireturn, 1), some (.iload_n 2, 1), some (.iconst 4, 1), some (.if_icmp .ne 22, 3), none, none, some (.aload_n 0, 1), some (.getfield 31, 3), none, none, some (.iload_n 3, 1), some (.aload 4, 2), none], [some (.getfield 125, 3), none, none, some (.invokevirtual 108, 3), none, none, some (.ifCond .ne 6, 3), none, none, some (.bipush (-4), 2), none, some (.ireturn, 1), some (.aload_n 0, 1), some (.getfield 56, 3), none, none], [some (.aload_n 0, 1), some (.getfield 31, 3), none, none, some (.invokevirtual 112, 3), none, none, some (.aload 4, 2), none, some (.iload_n 2, 1), some (.iload_n 3, 1), some (.invokevirtual 168, 3), none, none, some (.aload_n 0, 1), some (.getfield 31, 3)], [none, none, some (.getfield 144, 3), none, none, some (.bipush 6, 2), none, some (.bipush 10, 2), none, some (.iload_n 1, 1), some (.imul, 1), some (.iload_n 2, 1), some (.iadd, 1), some (.iload 5, 2), none, some (.invokevirtual 150, 3)], [none, none, some (.iload_n 2, 1), some (.ifCond .eq 8, 3), none, none, some (.iload_n 2, 1), some (.iconst 1, 1), some (.if_icmp .ne 7, 3), none, none, some (.iconst 1, 1), some (.goto 4, 3), none, none, some (.iconst 0, 1)], [some (.istore 6, 2), none, some (.iload 6, 2), none, some (.ifCond .eq 11, 3), none, none, some (.iload 5, 2), none, some (.bipush 9, 2), none, some (.iadd, 1), some (.goto 5, 3), none, none, some (.iload 5, 2)], [none, some (.ireturn, 1)]]
/-- X7_first -/
def jv_c114 : List (List jv_I) := [[some (.iload_n 1, 1), some (.iconst 0, 1), some (.aload_n 0, 1), some (.getfield 31, 3), none, none, some (.getfield 172, 3), none, none, some (.invokestatic 77, 3), none, none, some (.ifCond .ne 5, 3), none, none, some (.iconst (-1), 1)], [some (.ireturn, 1), some (.aload_n 0, 1), some (.getfield 31, 3), none, none, some (.getfield 175, 3), none, none, some (.istore_n 2, 1), some (.iload_n 1, 1), some (.iload_n 2, 1), some (.if_icmp .ne 6, 3), none, none, some (.bipush (-2), 2), none], [some (.ireturn, 1), some (.aload_n 0, 1), some (.getfield 31, 3), none, none, some (.iload_n 1, 1), some (.invokevirtual 178, 3), none, none, some (.ifCond .le 6, 3), none, none, some (.bipush (-4), 2), none, some (.ireturn, 1), some (.aload_n 0, 1)], [some (.getfield 56, 3), none, none, some (.aload_n 0, 1), some (.getfield 31, 3), none, none, some (.invokevirtual 112, 3), none, none, some (.aload_n 0, 1), some (.getfield 31, 3), none, none, some (.iload_n 1, 1), some (.putfield 175, 3)], [none, none, some (.aload_n 0, 1), some (.getfield 31, 3), none, none, some (.getfield 144, 3), none, none, some (.bipush 7, 2), none, some (.iconst 0, 1), some (.iload_n 2, 1), some (.invokevirtual 150, 3), none, none], [some (.iload_n 2, 1), some (.ireturn, 1)]]
/-- X7_swap -/
def jv_c115 : List (List jv_I) := [[some (.aload_n 0, 1), some (.iload_n 1, 1), some (.iload_n 2, 1), some (.invokevirtual 181, 3), none, none, some (.ifCond .eq 13, 3), none, none, some (.iload_n 3, 1), some (.iconst 0, 1), some (.bipush 9, 2), none, some (.invokestatic 77, 3), none, none], [some (.ifCond .ne 5, 3), none, none, some (.iconst (-1), 1), some (.ireturn, 1), some (.aload_n 0, 1), some (.getfield 31, 3), none, none, some (.iload_n 1, 1), some (.iload_n 2, 1), some (.iload_n 3, 1), some (.invokevirtual 184, 3), none, none, some (.istore 4, 2)], [none, some (.iload 4, 2), none, some (.ifCond .eq 9, 3), none, none, some (.iload 4, 2), none, some (.invokestatic 188, 3), none, none, some (.ireturn, 1), some (.aload_n 0, 1), some (.getfield 31, 3), none, none], [some (.iload_n 1, 1), some (.iload_n 2, 1), some (.invokevirtual 191, 3), none, none, some (.aload_n 0, 1), some (.getfield 31, 3), none, none, some (.iload_n 2, 1), some (.iload_n 1, 1), some (.invokevirtual 191, 3), none, none, some (.iadd, 1), some (.istore 5, 2)], [none, some (.aload_n 0, 1), some (.getfield 56, 3), none, none, some (.aload_n 0, 1), some (.getfield 31, 3), none, none, some (.invokevirtual 112, 3), none, none, some (.aload_n 0, 1), some (.getfield 31, 3), none, none], [some (.iload_n 1, 1), some (.iload_n 2, 1), some (.iload_n 3, 1), some (.invokevirtual 195, 3), none, none, some (.iload 5, 2), none, some (.bipush 100, 2), none, some (.iadd, 1), some (.ireturn, 1)]]
/-- X7_move -/
def jv_c116 : List (List jv_I) := [[some (.aload_n 0, 1), some (.getfield 31, 3), none, none, some (.iload_n 1, 1), some (.invokevirtual 154, 3), none, none, some (.ifCond .eq 14, 3), none, none, some (.aload_n 0, 1), some (.getfield 31, 3), none, none, some (.iload_n 2, 1)], [some (.invokevirtual 98, 3), none, none, some (.ifCond .ne 5, 3), none, none, some (.iconst (-1), 1), some (.ireturn, 1), some (.aload_n 0, 1), some (.getfield 31, 3), none, none, some (.iload_n 1, 1), some (.iload_n 2, 1), some (.invokevirtual 198, 3), none], [none, some (.istore_n 3, 1), some (.iload_n 3, 1), some (.ifCond .eq 8, 3), none, none, some (.iload_n 3, 1), some (.invokestatic 188, 3), none, none, some (.ireturn, 1), some (.aload_n 0, 1), some (.getfield 31, 3), none, none, some (.iload_n 1, 1)], [some (.iload_n 2, 1), some (.invokevirtual 201, 3), none, none, some (.aload_n 0, 1), some (.getfield 31, 3), none, none, some (.iload_n 1, 1), some (.invokevirtual 204, 3), none, none, some (.isub, 1), some (.istore 4, 2), none, some (.aload_n 0, 1)], [some (.getfield 56, 3), none, none, some (.aload_n 0, 1), some (.getfield 31, 3), none, none, some (.invokevirtual 112, 3), none, none, some (.aload_n 0, 1), some (.getfield 31, 3), none, none, some (.iload_n 1, 1), some (.iload_n 2, 1)], [some (.invokevirtual 207, 3), none, none, some (.iload 4, 2), none, some (.ireturn, 1)]]
/-- X7_ring -/
def jv_c117 : List (List jv_I) := [[some (.aload_n 0, 1), some (.iload_n 1, 1), some (.iload_n 2, 1), some (.invokevirtual 181, 3), none, none, some (.ifCond .eq 17, 3), none, none, some (.aload_n 0, 1), some (.iload_n 2, 1), some (.iload_n 3, 1), some (.invokevirtual 181, 3), none, none, some (.ifCond .eq 8, 3)], [none, none, some (.iload_n 1, 1), some (.iload_n 3, 1), some (.if_icmp .ne 5, 3), none, none, some (.iconst (-1), 1), some (.ireturn, 1), some (.aload_n 0, 1), some (.getfield 31, 3), none, none, some (.iload_n 1, 1), some (.iload_n 2, 1), some (.iload_n 3, 1)], [some (.invokevirtual 210, 3), none, none, some (.istore 4, 2), none, some (.iload 4, 2), none, some (.ifCond .eq 9, 3), none, none, some (.iload 4, 2), none, some (.invokestatic 188, 3), none, none, some (.ireturn, 1)], [some (.aload_n 0, 1), some (.getfield 31, 3), none, none, some (.iload_n 1, 1), some (.iload_n 2, 1), some (.iload_n 3, 1), some (.invokevirtual 213, 3), none, none, some (.istore 5, 2), none, some (.aload_n 0, 1), some (.getfield 56, 3), none, none], [some (.aload_n 0, 1), some (.getfield 31, 3), none, none, some (.invokevirtual 112, 3), none, none, some (.aload_n 0, 1), some (.getfield 31, 3), none, none, some (.iload_n 1, 1), some (.iload_n 2, 1), some (.iload_n 3, 1), some (.invokevirtual 216, 3), none], [none, some (.iload 5, 2), none, some (.ireturn, 1)]]
/-- X7_settle -/
def jv_c118 : List (List jv_I) := [[some (.aload_n 0, 1), some (.invokevirtual 219, 3), none, none, some (.istore_n 1, 1), some (.iload_n 1, 1), some (.ifCond .ne 6, 3), none, none, some (.bipush (-2), 2), none, some (.ireturn, 1), some (.aload_n 0, 1), some (.getfield 35, 3), none, none], [some (.invokevirtual 222, 3), none, none, some (.aload_n 0, 1), some (.getfield 31, 3), none, none, some (.invokevirtual 222, 3), none, none, some (.isub, 1), some (.istore_n 2, 1), some (.aload_n 0, 1), some (.getfield 56, 3), none, none], [some (.aload_n 0, 1), some (.getfield 31, 3), none, none, some (.invokevirtual 112, 3), none, none, some (.aload_n 0, 1), some (.getfield 31, 3), none, none, some (.aload_n 0, 1), some (.getfield 35, 3), none, none, some (.invokevirtual 88, 3)], [none, none, some (.aload_n 0, 1), some (.getfield 31, 3), none, none, some (.dup, 1), some (.getfield 225, 3), none, none, some (.iload_n 1, 1), some (.iadd, 1), some (.putfield 225, 3), none, none, some (.aload_n 0, 1)], [some (.getfield 31, 3), none, none, some (.getfield 144, 3), none, none, some (.iconst 5, 1), some (.iload_n 1, 1), some (.iload_n 2, 1), some (.invokevirtual 150, 3), none, none, some (.iload_n 1, 1), some (.ireturn, 1)]]
/-- X7_station -/
def jv_c119 : List (List jv_I) := [[some (.iload_n 1, 1), some (.iconst 1, 1), some (.bipush 50, 2), none, some (.invokestatic 77, 3), none, none, some (.ifCond .ne 5, 3), none, none, some (.iconst (-1), 1), some (.ireturn, 1), some (.aload_n 0, 1), some (.getfield 31, 3), none, none], [some (.getfield 228, 3), none, none, some (.iload_n 1, 1), some (.iadd, 1), some (.sipush 999, 3), none, none, some (.if_icmp .le 6, 3), none, none, some (.bipush (-3), 2), none, some (.ireturn, 1), some (.aload_n 0, 1), some (.getfield 56, 3)], [none, none, some (.aload_n 0, 1), some (.getfield 31, 3), none, none, some (.invokevirtual 112, 3), none, none, some (.aload_n 0, 1), some (.getfield 31, 3), none, none, some (.getfield 95, 3), none, none], [some (.istore_n 2, 1), some (.iconst 0, 1), some (.istore_n 3, 1), some (.iload_n 3, 1), some (.iload_n 1, 1), some (.if_icmp .ge 16, 3), none, none, some (.aload_n 0, 1), some (.getfield 31, 3), none, none, some (.invokevirtual 231, 3), none, none, some (.iinc 3 1, 3)], [none, none, some (.goto (-15), 3), none, none, some (.iload_n 2, 1), some (.aload_n 0, 1), some (.getfield 31, 3), none, none, some (.getfield 95, 3), none, none, some (.isub, 1), some (.ireturn, 1)]]
/-- X7_keep -/
def jv_c120 : List (List jv_I) := [[some (.iload_n 1, 1), some (.iconst 0, 1), some (.iconst 1, 1), some (.invokestatic 77, 3), none, none, some (.ifCond .ne 5, 3), none, none, some (.iconst (-1), 1), some (.ireturn, 1), some (.aload_n 0, 1), some (.getfield 45, 3), none, none, some (.iload_n 1, 1)], [some (.aaload, 1), some (.aload_n 0, 1), some (.getfield 31, 3), none, none, some (.invokevirtual 88, 3), none, none, some (.aload_n 0, 1), some (.getfield 49, 3), none, none, some (.iload_n 1, 1), some (.iconst 1, 1), some (.bastore, 1), some (.aload_n 0, 1)], [some (.getfield 31, 3), none, none, some (.getfield 95, 3), none, none, some (.ireturn, 1)]]
/-- X7_restore -/
def jv_c121 : List (List jv_I) := [[some (.iload_n 1, 1), some (.iconst 0, 1), some (.iconst 1, 1), some (.invokestatic 77, 3), none, none, some (.ifCond .ne 5, 3), none, none, some (.iconst (-1), 1), some (.ireturn, 1), some (.aload_n 0, 1), some (.getfield 49, 3), none, none, some (.iload_n 1, 1)], [some (.baload, 1), some (.ifCond .ne 6, 3), none, none, some (.bipush (-2), 2), none, some (.ireturn, 1), some (.aload_n 0, 1), some (.getfield 56, 3), none, none, some (.aload_n 0, 1), some (.getfield 31, 3), none, none, some (.invokevirtual 112, 3)], [none, none, some (.aload_n 0, 1), some (.getfield 31, 3), none, none, some (.aload_n 0, 1), some (.getfield 45, 3), none, none, some (.iload_n 1, 1), some (.aaload, 1), some (.invokevirtual 88, 3), none, none, some (.aload_n 0, 1)], [some (.getfield 31, 3), none, none, some (.getfield 95, 3), none, none, some (.ireturn, 1)]]
/-- X7_undo -/
def jv_c122 : List (List jv_I) := [[some (.aload_n 0, 1), some (.getfield 56, 3), none, none, some (.getfield 234, 3), none, none, some (.ifCond .ne 5, 3), none, none, some (.iconst (-1), 1), some (.ireturn, 1), some (.aload_n 0, 1), some (.getfield 56, 3), none, none], [some (.aload_n 0, 1), some (.getfield 31, 3), none, none, some (.invokevirtual 235, 3), none, none, some (.aload_n 0, 1), some (.getfield 56, 3), none, none, some (.getfield 234, 3), none, none, some (.ireturn, 1)]]
/-- X7_value -/
def jv_c123_0 : List (List jv_I) := [[some (.iload_n 1, 1), some (.tableswitch 234 0 16 #[83, 91, 99, 107, 115, 131, 143, 151, 159, 167, 175, 183, 191, 199, 207, 215, 226], 83), none, none, none, none, none, none, none, none, none, none, none, none, none, none], [none, none, none, none, none, none, none, none, none, none, none, none, none, none, none, none], [none, none, none, none, none, none, none, none, none, none, none, none, none, none, none, none], [none, none, none, none, none, none, none, none, none, none, none, none, none, none, none, none], [none, none, none, none, none, none, none, none, none, none, none, none, none, none, none, none], [none, none, none, none, some (.aload_n 0, 1), some (.getfield 31, 3), none, none, some (.getfield 172, 3), none, none, some (.ireturn, 1), some (.aload_n 0, 1), some (.getfield 31, 3), none, none], [some (.getfield 175, 3), none, none, some (.ireturn, 1), some (.aload_n 0, 1), some (.getfield 31, 3), none, none, some (.getfield 228, 3), none, none, some (.ireturn, 1), some (.aload_n 0, 1), some (.getfield 31, 3), none, none], [some (.getfield 95, 3), none, none, some (.ireturn, 1), some (.aload_n 0, 1), some (.getfield 31, 3), none, none, some (.invokevirtual 238, 3), none, none, some (.aload_n 0, 1), some (.getfield 31, 3), none, none, some (.getfield 95, 3)], [none, none, some (.isub, 1), some (.ireturn, 1), some (.aload_n 0, 1), some (.getfield 31, 3), none, none, some (.invokevirtual 222, 3), none, none, some (.sipush 10000, 3), none, none, some (.iadd, 1), some (.ireturn, 1)], [some (.aload_n 0, 1), some (.getfield 31, 3), none, none, some (.invokevirtual 241, 3), none, none, some (.ireturn, 1), some (.aload_n 0, 1), some (.getfield 31, 3), none, none, some (.invokevirtual 244, 3), none, none, some (.ireturn, 1)], [some (.aload_n 0, 1), some (.getfield 31, 3), none, none, some (.getfield 225, 3), none, none, some (.ireturn, 1), some (.aload_n 0, 1), some (.getfield 31, 3), none, none, some (.getfield 247, 3), none, none, some (.ireturn, 1)], [some (.aload_n 0, 1), some (.getfield 31, 3), none, none, some (.getfield 250, 3), none, none, some (.ireturn, 1), some (.aload_n 0, 1), some (.getfield 31, 3), none, none, some (.getfield 253, 3), none, none, some (.ireturn, 1)]]
def jv_c123_1 : List (List jv_I) := [[some (.aload_n 0, 1), some (.getfield 31, 3), none, none, some (.getfield 256, 3), none, none, some (.ireturn, 1), some (.aload_n 0, 1), some (.getfield 31, 3), none, none, some (.invokevirtual 259, 3), none, none, some (.ireturn, 1)], [some (.aload_n 0, 1), some (.getfield 31, 3), none, none, some (.invokevirtual 262, 3), none, none, some (.ireturn, 1), some (.aload_n 0, 1), some (.getfield 31, 3), none, none, some (.getfield 144, 3), none, none, some (.getfield 265, 3)], [none, none, some (.ireturn, 1), some (.aload_n 0, 1), some (.getfield 56, 3), none, none, some (.getfield 234, 3), none, none, some (.ireturn, 1), some (.iconst (-1), 1), some (.ireturn, 1)]]
def jv_c123 : List (List jv_I) := jv_c123_0 ++ jv_c123_1
/-- X7_of -/
def jv_c124 : List (List jv_I) := [[some (.aload_n 0, 1), some (.getfield 31, 3), none, none, some (.iload_n 1, 1), some (.invokevirtual 154, 3), none, none, some (.ifCond .ne 5, 3), none, none, some (.iconst (-1), 1), some (.ireturn, 1), some (.aload_n 0, 1), some (.getfield 31, 3), none], [none, some (.iload_n 1, 1), some (.invokevirtual 160, 3), none, none, some (.astore_n 3, 1), some (.iload_n 2, 1), some (.tableswitch 149 0 11 #[61, 66, 71, 76, 84, 92, 97, 102, 107, 112, 124, 140], 61), none, none, none, none, none, none, none, none], [none, none, none, none, none, none, none, none, none, none, none, none, none, none, none, none], [none, none, none, none, none, none, none, none, none, none, none, none, none, none, none, none], [none, none, none, none, none, none, none, none, none, none, none, none, none, none, none, none], [none, none, none, none, some (.aload_n 3, 1), some (.getfield 125, 3), none, none, some (.ireturn, 1), some (.aload_n 3, 1), some (.getfield 128, 3), none, none, some (.ireturn, 1), some (.aload_n 3, 1), some (.getfield 131, 3)], [none, none, some (.ireturn, 1), some (.aload_n 3, 1), some (.getfield 268, 3), none, none, some (.bipush 9, 2), none, some (.iadd, 1), some (.ireturn, 1), some (.aload_n 3, 1), some (.getfield 271, 3), none, none, some (.bipush 9, 2)], [none, some (.iadd, 1), some (.ireturn, 1), some (.aload_n 3, 1), some (.getfield 274, 3), none, none, some (.ireturn, 1), some (.aload_n 3, 1), some (.getfield 277, 3), none, none, some (.ireturn, 1), some (.aload_n 3, 1), some (.getfield 134, 3), none], [none, some (.ireturn, 1), some (.aload_n 3, 1), some (.getfield 137, 3), none, none, some (.ireturn, 1), some (.aload_n 0, 1), some (.getfield 31, 3), none, none, some (.iload_n 1, 1), some (.invokevirtual 204, 3), none, none, some (.bipush 100, 2)], [none, some (.iadd, 1), some (.ireturn, 1), some (.aload_n 0, 1), some (.getfield 31, 3), none, none, some (.aload_n 3, 1), some (.aload_n 3, 1), some (.getfield 125, 3), none, none, some (.bipush 8, 2), none, some (.idiv, 1), some (.invokevirtual 280, 3)], [none, none, some (.ireturn, 1), some (.aload_n 0, 1), some (.getfield 31, 3), none, none, some (.iload_n 1, 1), some (.invokevirtual 284, 3), none, none, some (.ireturn, 1), some (.iconst (-1), 1), some (.ireturn, 1)]]
/-- X7_at -/
def jv_c126 : List (List jv_I) := [[some (.aload_n 0, 1), some (.getfield 31, 3), none, none, some (.iload_n 1, 1), some (.invokevirtual 98, 3), none, none, some (.ifCond .eq 14, 3), none, none, some (.aload_n 0, 1), some (.getfield 31, 3), none, none, some (.iload_n 1, 1)], [some (.invokevirtual 290, 3), none, none, some (.goto 4, 3), none, none, some (.iconst (-1), 1), some (.ireturn, 1)]]
/-- X7_table -/
def jv_c127 : List (List jv_I) := [[some (.iload_n 1, 1), some (.iconst 0, 1), some (.aload_n 0, 1), some (.getfield 31, 3), none, none, some (.invokevirtual 259, 3), none, none, some (.iconst 1, 1), some (.isub, 1), some (.invokestatic 77, 3), none, none, some (.ifCond .ne 5, 3), none], [none, some (.iconst (-1), 1), some (.ireturn, 1), some (.iload_n 2, 1), some (.tableswitch 72 0 3 #[32, 41, 50, 63], 32), none, none, none, none, none, none, none, none, none, none, none], [none, none, none, none, none, none, none, none, none, none, none, none, none, none, none, none], [none, none, none, none, some (.aload_n 0, 1), some (.getfield 31, 3), none, none, some (.iload_n 1, 1), some (.invokevirtual 293, 3), none, none, some (.ireturn, 1), some (.aload_n 0, 1), some (.getfield 31, 3), none], [none, some (.iload_n 1, 1), some (.invokevirtual 296, 3), none, none, some (.ireturn, 1), some (.aload_n 0, 1), some (.getfield 31, 3), none, none, some (.iload_n 1, 1), some (.invokevirtual 299, 3), none, none, some (.sipush 1000, 3), none], [none, some (.iadd, 1), some (.ireturn, 1), some (.aload_n 0, 1), some (.getfield 31, 3), none, none, some (.iload_n 1, 1), some (.invokevirtual 302, 3), none, none, some (.ireturn, 1), some (.iconst (-1), 1), some (.ireturn, 1)]]
/-- X7_family -/
def jv_c128 : List (List jv_I) := [[some (.iload_n 1, 1), some (.iconst 1, 1), some (.bipush 9, 2), none, some (.invokestatic 77, 3), none, none, some (.ifCond .ne 5, 3), none, none, some (.iconst (-1), 1), some (.ireturn, 1), some (.iload_n 2, 1), some (.tableswitch 58 0 2 #[27, 36, 45], 27), none, none], [none, none, none, none, none, none, none, none, none, none, none, none, none, none, none, none], [none, none, none, none, none, none, none, none, some (.aload_n 0, 1), some (.getfield 31, 3), none, none, some (.iload_n 1, 1), some (.invokevirtual 305, 3), none, none], [some (.ireturn, 1), some (.aload_n 0, 1), some (.getfield 31, 3), none, none, some (.iload_n 1, 1), some (.invokevirtual 308, 3), none, none, some (.ireturn, 1), some (.aload_n 0, 1), some (.getfield 31, 3), none, none, some (.iload_n 1, 1), some (.invokevirtual 311, 3)], [none, none, some (.sipush 1000, 3), none, none, some (.iadd, 1), some (.ireturn, 1), some (.iconst (-1), 1), some (.ireturn, 1)]]
/-- X7_ranked -/
def jv_c129 : List (List jv_I) := [[some (.iload_n 1, 1), some (.ifCond .ge 7, 3), none, none, some (.iconst (-1), 1), some (.goto 11, 3), none, none, some (.aload_n 0, 1), some (.getfield 31, 3), none, none, some (.iload_n 1, 1), some (.invokevirtual 314, 3), none, none], [some (.ireturn, 1)]]
/-- X7_why -/
def jv_c130 : List (List jv_I) := [[some (.aload_n 0, 1), some (.iload_n 1, 1), some (.iload_n 2, 1), some (.invokevirtual 181, 3), none, none, some (.ifCond .eq 13, 3), none, none, some (.iload_n 3, 1), some (.iconst 0, 1), some (.bipush 9, 2), none, some (.invokestatic 77, 3), none, none], [some (.ifCond .ne 5, 3), none, none, some (.iconst (-1), 1), some (.ireturn, 1), some (.aload_n 0, 1), some (.getfield 31, 3), none, none, some (.iload_n 1, 1), some (.iload_n 2, 1), some (.iload_n 3, 1), some (.invokevirtual 184, 3), none, none, some (.ireturn, 1)]]
/-- X7_whyMove -/
def jv_c131 : List (List jv_I) := [[some (.aload_n 0, 1), some (.getfield 31, 3), none, none, some (.iload_n 1, 1), some (.invokevirtual 154, 3), none, none, some (.ifCond .eq 14, 3), none, none, some (.aload_n 0, 1), some (.getfield 31, 3), none, none, some (.iload_n 2, 1)], [some (.invokevirtual 98, 3), none, none, some (.ifCond .ne 5, 3), none, none, some (.iconst (-1), 1), some (.ireturn, 1), some (.aload_n 0, 1), some (.getfield 31, 3), none, none, some (.iload_n 1, 1), some (.iload_n 2, 1), some (.invokevirtual 198, 3), none], [none, some (.ireturn, 1)]]
/-- X7_joyAt -/
def jv_c132 : List (List jv_I) := [[some (.aload_n 0, 1), some (.getfield 31, 3), none, none, some (.iload_n 1, 1), some (.invokevirtual 154, 3), none, none, some (.ifCond .eq 14, 3), none, none, some (.aload_n 0, 1), some (.getfield 31, 3), none, none, some (.iload_n 2, 1)], [some (.invokevirtual 98, 3), none, none, some (.ifCond .ne 5, 3), none, none, some (.iconst (-1), 1), some (.ireturn, 1), some (.aload_n 0, 1), some (.getfield 31, 3), none, none, some (.iload_n 1, 1), some (.iload_n 2, 1), some (.invokevirtual 201, 3), none], [none, some (.bipush 100, 2), none, some (.iadd, 1), some (.ireturn, 1)]]
/-- X7_ifSwapped -/
def jv_c133 : List (List jv_I) := [[some (.aload_n 0, 1), some (.iload_n 1, 1), some (.iload_n 2, 1), some (.invokevirtual 181, 3), none, none, some (.ifCond .ne 5, 3), none, none, some (.iconst (-1), 1), some (.ireturn, 1), some (.iload_n 3, 1), some (.tableswitch 68 0 2 #[28, 41, 54], 28), none, none, none], [none, none, none, none, none, none, none, none, none, none, none, none, none, none, none, none], [none, none, none, none, none, none, none, none, some (.aload_n 0, 1), some (.getfield 31, 3), none, none, some (.iload_n 1, 1), some (.iload_n 2, 1), some (.invokevirtual 191, 3), none], [none, some (.bipush 100, 2), none, some (.iadd, 1), some (.ireturn, 1), some (.aload_n 0, 1), some (.getfield 31, 3), none, none, some (.iload_n 2, 1), some (.iload_n 1, 1), some (.invokevirtual 191, 3), none, none, some (.bipush 100, 2), none], [some (.iadd, 1), some (.ireturn, 1), some (.aload_n 0, 1), some (.getfield 31, 3), none, none, some (.iload_n 1, 1), some (.iload_n 2, 1), some (.invokevirtual 317, 3), none, none, some (.sipush 1000, 3), none, none, some (.iadd, 1), some (.ireturn, 1)], [some (.iconst (-1), 1), some (.ireturn, 1)]]
/-- X7_leastPrice -/
def jv_c134 : List (List jv_I) := [[some (.aload_n 0, 1), some (.iload_n 1, 1), some (.iload_n 2, 1), some (.invokevirtual 181, 3), none, none, some (.ifCond .ne 5, 3), none, none, some (.iconst (-1), 1), some (.ireturn, 1), some (.iconst 0, 1), some (.istore_n 3, 1), some (.iload_n 3, 1), some (.bipush 9, 2), none], [some (.if_icmp .gt 24, 3), none, none, some (.aload_n 0, 1), some (.getfield 31, 3), none, none, some (.iload_n 1, 1), some (.iload_n 2, 1), some (.iload_n 3, 1), some (.invokevirtual 184, 3), none, none, some (.ifCond .ne 5, 3), none, none], [some (.iload_n 3, 1), some (.ireturn, 1), some (.iinc 3 1, 3), none, none, some (.goto (-24), 3), none, none, some (.bipush (-2), 2), none, some (.ireturn, 1)]]
/-- X7_bestSeat -/
def jv_c135 : List (List jv_I) := [[some (.aload_n 0, 1), some (.getfield 31, 3), none, none, some (.iload_n 1, 1), some (.invokevirtual 154, 3), none, none, some (.ifCond .eq 14, 3), none, none, some (.aload_n 0, 1), some (.getfield 31, 3), none, none, some (.iload_n 1, 1)], [some (.invokevirtual 320, 3), none, none, some (.goto 4, 3), none, none, some (.iconst (-1), 1), some (.ireturn, 1)]]
/-- X7_partner -/
def jv_c136 : List (List jv_I) := [[some (.aload_n 0, 1), some (.getfield 31, 3), none, none, some (.iload_n 1, 1), some (.invokevirtual 154, 3), none, none, some (.ifCond .eq 14, 3), none, none, some (.aload_n 0, 1), some (.getfield 31, 3), none, none, some (.iload_n 1, 1)], [some (.invokevirtual 323, 3), none, none, some (.goto 4, 3), none, none, some (.iconst (-1), 1), some (.ireturn, 1)]]
/-- X7_rings -/
def jv_c137 : List (List jv_I) := [[some (.aload_n 0, 1), some (.getfield 31, 3), none, none, some (.invokevirtual 326, 3), none, none, some (.ireturn, 1)]]
/-- X7_ifSettled -/
def jv_c138 : List (List jv_I) := [[some (.iload_n 1, 1), some (.iconst 0, 1), some (.iconst 2, 1), some (.invokestatic 77, 3), none, none, some (.ifCond .ne 5, 3), none, none, some (.iconst (-1), 1), some (.ireturn, 1), some (.aload_n 0, 1), some (.invokevirtual 219, 3), none, none, some (.istore_n 2, 1)], [some (.iload_n 1, 1), some (.lookupswitch 41 #[(0, 27), (1, 29)], 27), none, none, none, none, none, none, none, none, none, none, none, none, none, none], [none, none, none, none, none, none, none, none, none, none, none, none, some (.iload_n 2, 1), some (.ireturn, 1), some (.aload_n 0, 1), some (.getfield 35, 3)], [none, none, some (.invokevirtual 222, 3), none, none, some (.sipush 10000, 3), none, none, some (.iadd, 1), some (.ireturn, 1), some (.aload_n 0, 1), some (.getfield 35, 3), none, none, some (.invokevirtual 241, 3), none], [none, some (.ireturn, 1)]]
/-- X7_ifFirst -/
def jv_c139 : List (List jv_I) := [[some (.iload_n 1, 1), some (.iconst 0, 1), some (.aload_n 0, 1), some (.getfield 31, 3), none, none, some (.getfield 172, 3), none, none, some (.invokestatic 77, 3), none, none, some (.ifCond .eq 14, 3), none, none, some (.aload_n 0, 1)], [some (.getfield 31, 3), none, none, some (.iload_n 1, 1), some (.invokevirtual 178, 3), none, none, some (.goto 4, 3), none, none, some (.iconst (-1), 1), some (.ireturn, 1)]]
/-- X7_full -/
def jv_c141 : List (List jv_I) := [[some (.aload_n 0, 1), some (.getfield 31, 3), none, none, some (.invokevirtual 238, 3), none, none, some (.istore_n 1, 1), some (.iload_n 1, 1), some (.ifCond .le 17, 3), none, none, some (.aload_n 0, 1), some (.getfield 31, 3), none, none], [some (.getfield 95, 3), none, none, some (.i2f, 1), some (.iload_n 1, 1), some (.i2f, 1), some (.fdiv, 1), some (.goto 4, 3), none, none, some (.fconst 0, 1), some (.freturn, 1)]]
/-- X7_meanJoy -/
def jv_c142 : List (List jv_I) := [[some (.aload_n 0, 1), some (.getfield 31, 3), none, none, some (.getfield 95, 3), none, none, some (.ifCond .le 23, 3), none, none, some (.aload_n 0, 1), some (.getfield 31, 3), none, none, some (.invokevirtual 222, 3), none], [none, some (.i2d, 1), some (.aload_n 0, 1), some (.getfield 31, 3), none, none, some (.getfield 95, 3), none, none, some (.i2d, 1), some (.ddiv, 1), some (.goto 4, 3), none, none, some (.dconst 0, 1), some (.dreturn, 1)]]
/-- X7_setupLength -/
def jv_c145 : List (List jv_I) := [[some (.aload_n 0, 1), some (.getfield 24, 3), none, none, some (.aload_n 0, 1), some (.getfield 31, 3), none, none, some (.bipush (-2), 2), none, some (.invokevirtual 338, 3), none, none, some (.aload_n 0, 1), some (.getfield 24, 3), none], [none, some (.getfield 342, 3), none, none, some (.ireturn, 1)]]
/-- X7_setupByte -/
def jv_c146 : List (List jv_I) := [[some (.iload_n 1, 1), some (.ifCond .ge 5, 3), none, none, some (.iconst (-1), 1), some (.ireturn, 1), some (.aload_n 0, 1), some (.getfield 24, 3), none, none, some (.aload_n 0, 1), some (.getfield 31, 3), none, none, some (.iload_n 1, 1), some (.invokevirtual 338, 3)], [none, none, some (.aload_n 0, 1), some (.getfield 24, 3), none, none, some (.getfield 343, 3), none, none, some (.ireturn, 1)]]
/-- X7_isIn -/
def jv_c147 : List (List jv_I) := [[some (.iload_n 0, 1), some (.iload_n 1, 1), some (.if_icmp .lt 12, 3), none, none, some (.iload_n 0, 1), some (.iload_n 2, 1), some (.if_icmp .gt 7, 3), none, none, some (.iconst 1, 1), some (.goto 4, 3), none, none, some (.iconst 0, 1), some (.ireturn, 1)]]
/-- X7_refusal -/
def jv_c148 : List (List jv_I) := [[some (.bipush (-10), 2), none, some (.iload_n 0, 1), some (.isub, 1), some (.ireturn, 1)]]
/-- X7_arePair -/
def jv_c149 : List (List jv_I) := [[some (.aload_n 0, 1), some (.getfield 31, 3), none, none, some (.iload_n 1, 1), some (.invokevirtual 154, 3), none, none, some (.ifCond .eq 23, 3), none, none, some (.aload_n 0, 1), some (.getfield 31, 3), none, none, some (.iload_n 2, 1)], [some (.invokevirtual 154, 3), none, none, some (.ifCond .eq 12, 3), none, none, some (.iload_n 1, 1), some (.iload_n 2, 1), some (.if_icmp .eq 7, 3), none, none, some (.iconst 1, 1), some (.goto 4, 3), none, none, some (.iconst 0, 1)], [some (.ireturn, 1)]]
/-- X7_settleDraft -/
def jv_c150 : List (List jv_I) := [[some (.aload_n 0, 1), some (.getfield 35, 3), none, none, some (.aload_n 0, 1), some (.getfield 31, 3), none, none, some (.invokevirtual 88, 3), none, none, some (.iconst 0, 1), some (.istore_n 1, 1), some (.iload_n 1, 1), some (.bipush 99, 2), none], [some (.if_icmp .ge 21, 3), none, none, some (.aload_n 0, 1), some (.getfield 35, 3), none, none, some (.invokevirtual 346, 3), none, none, some (.ifCond .ne 5, 3), none, none, some (.iload_n 1, 1), some (.ireturn, 1), some (.iinc 1 1, 3)], [none, none, some (.goto (-21), 3), none, none, some (.bipush 99, 2), none, some (.ireturn, 1)]]
/-- J0_init_81219 -/
def jv_c151 : List (List jv_I) := [[some (.aload_n 0, 1), some (.aload_n 1, 1), some (.aconst_null, 1), some (.invokespecial 489, 3), none, none, some (.return_, 1)]]
/-- J0_length_8abf5 -/
def jv_c152 : List (List jv_I) := [[some (.aload_n 0, 1), some (.getfield 9, 3), none, none, some (.arraylength, 1), some (.aload_n 0, 1), some (.invokevirtual 335, 3), none, none, some (.ishr, 1), some (.ireturn, 1)]]
/-- J0_charAt_5068e -/
def jv_c153 : List (List jv_I) := [[some (.aload_n 0, 1), some (.invokevirtual 492, 3), none, none, some (.ifCond .eq 12, 3), none, none, some (.aload_n 0, 1), some (.getfield 9, 3), none, none, some (.iload_n 1, 1), some (.invokestatic 495, 3), none, none, some (.ireturn, 1)], [some (.aload_n 0, 1), some (.getfield 9, 3), none, none, some (.iload_n 1, 1), some (.invokestatic 498, 3), none, none, some (.ireturn, 1)]]
/-- J0_getBytes_840e7 -/
def jv_c154 : List (List jv_I) := [[some (.aload_n 0, 1), some (.invokevirtual 335, 3), none, none, some (.iload_n 3, 1), some (.if_icmp .ne 23, 3), none, none, some (.aload_n 0, 1), some (.getfield 9, 3), none, none, some (.iconst 0, 1), some (.aload_n 1, 1), some (.iload_n 2, 1), some (.iload_n 3, 1)], [some (.ishl, 1), some (.aload_n 0, 1), some (.getfield 9, 3), none, none, some (.arraylength, 1), some (.invokestatic 212, 3), none, none, some (.goto 18, 3), none, none, some (.aload_n 0, 1), some (.getfield 9, 3), none, none], [some (.iconst 0, 1), some (.aload_n 1, 1), some (.iload_n 2, 1), some (.aload_n 0, 1), some (.getfield 9, 3), none, none, some (.arraylength, 1), some (.invokestatic 106, 3), none, none, some (.return_, 1)]]
/-- J0_init_db425 -/
def jv_c155 : List (List jv_I) := [[some (.aload_n 0, 1), some (.invokespecial 1, 3), none, none, some (.aload_n 1, 1), some (.invokevirtual 552, 3), none, none, some (.astore_n 3, 1), some (.aload_n 1, 1), some (.invokevirtual 549, 3), none, none, some (.istore 4, 2), none, some (.aload_n 1, 1)], [some (.invokevirtual 1047, 3), none, none, some (.ifCond .eq 22, 3), none, none, some (.aload_n 0, 1), some (.iconst 0, 1), some (.putfield 15, 3), none, none, some (.aload_n 0, 1), some (.aload_n 3, 1), some (.iconst 0, 1), some (.iload 4, 2), none], [some (.invokestatic 54, 3), none, none, some (.putfield 9, 3), none, none, some (.goto 59, 3), none, none, some (.getstatic 38, 3), none, none, some (.ifCond .eq 35, 3), none, none, some (.aload_n 1, 1)], [some (.getfield 1048, 3), none, none, some (.ifCond .eq 28, 3), none, none, some (.aload_n 0, 1), some (.aload_n 3, 1), some (.iconst 0, 1), some (.iload 4, 2), none, some (.invokestatic 1051, 3), none, none, some (.putfield 9, 3), none], [none, some (.aload_n 0, 1), some (.aload_n 0, 1), some (.getfield 9, 3), none, none, some (.iload 4, 2), none, some (.invokestatic 47, 3), none, none, some (.putfield 15, 3), none, none, some (.return_, 1), some (.aload_n 0, 1)], [some (.iconst 1, 1), some (.putfield 15, 3), none, none, some (.aload_n 0, 1), some (.aload_n 3, 1), some (.iconst 0, 1), some (.iload 4, 2), none, some (.iconst 1, 1), some (.ishl, 1), some (.invokestatic 54, 3), none, none, some (.putfield 9, 3), none], [none, some (.return_, 1)]]
/-- J0_coder_7d493 -/
def jv_c156 : List (List jv_I) := [[some (.getstatic 38, 3), none, none, some (.ifCond .eq 10, 3), none, none, some (.aload_n 0, 1), some (.getfield 15, 3), none, none, some (.goto 4, 3), none, none, some (.iconst 1, 1), some (.ireturn, 1)]]
/-- J0_isLatin1_aae02 -/
def jv_c157 : List (List jv_I) := [[some (.getstatic 38, 3), none, none, some (.ifCond .eq 14, 3), none, none, some (.aload_n 0, 1), some (.getfield 15, 3), none, none, some (.ifCond .ne 7, 3), none, none, some (.iconst 1, 1), some (.goto 4, 3), none], [none, some (.iconst 0, 1), some (.ireturn, 1)]]
/-- J4_init_da8c8 -/
def jv_c158 : List (List jv_I) := [[some (.aload_n 0, 1), some (.bipush 16, 2), none, some (.invokespecial 1, 3), none, none, some (.return_, 1)]]
/-- J4_init_a7421 -/
def jv_c159 : List (List jv_I) := [[some (.aload_n 0, 1), some (.aload_n 1, 1), some (.invokespecial 7, 3), none, none, some (.return_, 1)]]
/-- J4_append_15ec4 -/
def jv_c160 : List (List jv_I) := [[some (.aload_n 0, 1), some (.aload_n 1, 1), some (.invokespecial 29, 3), none, none, some (.pop, 1), some (.aload_n 0, 1), some (.areturn, 1)]]
/-- J4_append_cf468 -/
def jv_c161 : List (List jv_I) := [[some (.aload_n 0, 1), some (.iload_n 1, 1), some (.invokespecial 50, 3), none, none, some (.pop, 1), some (.aload_n 0, 1), some (.areturn, 1)]]
/-- J4_append_bf812 -/
def jv_c162 : List (List jv_I) := [[some (.aload_n 0, 1), some (.iload_n 1, 1), some (.invokespecial 53, 3), none, none, some (.pop, 1), some (.aload_n 0, 1), some (.areturn, 1)]]
/-- J4_toString_0e30d -/
def jv_c163 : List (List jv_I) := [[some (.new 18, 3), none, none, some (.dup, 1), some (.aload_n 0, 1), some (.invokespecial 137, 3), none, none, some (.areturn, 1)]]
/-- J4_append_cf1ce -/
def jv_c164 : List (List jv_I) := [[some (.aload_n 0, 1), some (.aload_n 1, 1), some (.invokevirtual 23, 3), none, none, some (.areturn, 1)]]
/-- J4_length_8abf5 -/
def jv_c165 : List (List jv_I) := [[some (.aload_n 0, 1), some (.invokespecial 343, 3), none, none, some (.ireturn, 1)]]
/-- J5_init_d00df -/
def jv_c166 : List (List jv_I) := [[some (.aload_n 0, 1), some (.invokespecial 3, 3), none, none, some (.getstatic 18, 3), none, none, some (.ifCond .eq 18, 3), none, none, some (.aload_n 0, 1), some (.iload_n 1, 1), some (.newarray .byte, 2), none, some (.putfield 15, 3), none], [none, some (.aload_n 0, 1), some (.iconst 0, 1), some (.putfield 22, 3), none, none, some (.goto 16, 3), none, none, some (.aload_n 0, 1), some (.iload_n 1, 1), some (.invokestatic 26, 3), none, none, some (.putfield 15, 3), none], [none, some (.aload_n 0, 1), some (.iconst 1, 1), some (.putfield 22, 3), none, none, some (.return_, 1)]]
/-- J5_init_a7421 -/
def jv_c167 : List (List jv_I) := [[some (.aload_n 0, 1), some (.invokespecial 3, 3), none, none, some (.aload_n 1, 1), some (.invokevirtual 32, 3), none, none, some (.istore_n 2, 1), some (.iload_n 2, 1), some (.ldc 38, 2), none, some (.if_icmp .ge 10, 3), none, none, some (.iload_n 2, 1)], [some (.bipush 16, 2), none, some (.iadd, 1), some (.goto 5, 3), none, none, some (.ldc 39, 2), none, some (.istore_n 3, 1), some (.aload_n 1, 1), some (.invokevirtual 40, 3), none, none, some (.istore 4, 2), none, some (.aload_n 0, 1)], [some (.iload 4, 2), none, some (.putfield 22, 3), none, none, some (.aload_n 0, 1), some (.iload 4, 2), none, some (.ifCond .ne 9, 3), none, none, some (.iload_n 3, 1), some (.newarray .byte, 2), none, some (.goto 7, 3), none], [none, some (.iload_n 3, 1), some (.invokestatic 26, 3), none, none, some (.putfield 15, 3), none, none, some (.aload_n 0, 1), some (.aload_n 1, 1), some (.invokevirtual 43, 3), none, none, some (.pop, 1), some (.return_, 1)]]
/-- J5_ensureCapacityInternal_d00df -/
def jv_c168 : List (List jv_I) := [[some (.aload_n 0, 1), some (.getfield 15, 3), none, none, some (.arraylength, 1), some (.aload_n 0, 1), some (.getfield 22, 3), none, none, some (.ishr, 1), some (.istore_n 2, 1), some (.iload_n 1, 1), some (.iload_n 2, 1), some (.isub, 1), some (.ifCond .le 24, 3), none], [none, some (.aload_n 0, 1), some (.aload_n 0, 1), some (.getfield 15, 3), none, none, some (.aload_n 0, 1), some (.iload_n 1, 1), some (.invokevirtual 104, 3), none, none, some (.aload_n 0, 1), some (.getfield 22, 3), none, none, some (.ishl, 1)], [some (.invokestatic 108, 3), none, none, some (.putfield 15, 3), none, none, some (.return_, 1)]]
/-- J5_newCapacity_0f7a4 -/
def jv_c169 : List (List jv_I) := [[some (.aload_n 0, 1), some (.getfield 15, 3), none, none, some (.arraylength, 1), some (.istore_n 2, 1), some (.iload_n 1, 1), some (.aload_n 0, 1), some (.getfield 22, 3), none, none, some (.ishl, 1), some (.istore_n 3, 1), some (.iload_n 3, 1), some (.iload_n 2, 1), some (.isub, 1)], [some (.istore 4, 2), none, some (.iload_n 2, 1), some (.iload 4, 2), none, some (.iload_n 2, 1), some (.iconst 2, 1), some (.aload_n 0, 1), some (.getfield 22, 3), none, none, some (.ishl, 1), some (.iadd, 1), some (.invokestatic 114, 3), none, none], [some (.istore 5, 2), none, some (.iload 5, 2), none, some (.ldc 39, 2), none, some (.if_icmp .ne 13, 3), none, none, some (.new 120, 3), none, none, some (.dup, 1), some (.ldc 122, 2), none, some (.invokespecial 124, 3)], [none, none, some (.athrow, 1), some (.iload 5, 2), none, some (.aload_n 0, 1), some (.getfield 22, 3), none, none, some (.ishr, 1), some (.ireturn, 1)]]
/-- J5_append_cf1ce -/
def jv_c170 : List (List jv_I) := [[some (.aload_n 1, 1), some (.ifnonnull 8, 3), none, none, some (.aload_n 0, 1), some (.invokevirtual 204, 3), none, none, some (.areturn, 1), some (.aload_n 1, 1), some (.invokevirtual 32, 3), none, none, some (.istore_n 2, 1), some (.aload_n 0, 1), some (.aload_n 0, 1)], [some (.getfield 79, 3), none, none, some (.iload_n 2, 1), some (.iadd, 1), some (.invokevirtual 100, 3), none, none, some (.aload_n 0, 1), some (.aload_n 0, 1), some (.getfield 79, 3), none, none, some (.aload_n 1, 1), some (.invokevirtual 208, 3), none], [none, some (.aload_n 0, 1), some (.dup, 1), some (.getfield 79, 3), none, none, some (.iload_n 2, 1), some (.iadd, 1), some (.putfield 79, 3), none, none, some (.aload_n 0, 1), some (.areturn, 1)]]
/-- J5_append_3fe6f -/
def jv_c171 : List (List jv_I) := [[some (.aload_n 0, 1), some (.aload_n 0, 1), some (.getfield 79, 3), none, none, some (.iconst 1, 1), some (.iadd, 1), some (.invokevirtual 100, 3), none, none, some (.aload_n 0, 1), some (.invokevirtual 83, 3), none, none, some (.ifCond .eq 31, 3), none], [none, some (.iload_n 1, 1), some (.invokestatic 191, 3), none, none, some (.ifCond .eq 24, 3), none, none, some (.aload_n 0, 1), some (.getfield 15, 3), none, none, some (.aload_n 0, 1), some (.dup, 1), some (.getfield 79, 3), none], [none, some (.dup_x1, 1), some (.iconst 1, 1), some (.iadd, 1), some (.putfield 79, 3), none, none, some (.iload_n 1, 1), some (.i2b, 1), some (.bastore, 1), some (.goto 33, 3), none, none, some (.aload_n 0, 1), some (.invokevirtual 83, 3), none], [none, some (.ifCond .eq 7, 3), none, none, some (.aload_n 0, 1), some (.invokevirtual 195, 3), none, none, some (.aload_n 0, 1), some (.getfield 15, 3), none, none, some (.aload_n 0, 1), some (.dup, 1), some (.getfield 79, 3), none], [none, some (.dup_x1, 1), some (.iconst 1, 1), some (.iadd, 1), some (.putfield 79, 3), none, none, some (.iload_n 1, 1), some (.invokestatic 197, 3), none, none, some (.aload_n 0, 1), some (.areturn, 1)]]
/-- J5_append_c97b9 -/
def jv_c172 : List (List jv_I) := [[some (.aload_n 0, 1), some (.getfield 79, 3), none, none, some (.istore_n 2, 1), some (.iload_n 2, 1), some (.iload_n 1, 1), some (.invokestatic 245, 3), none, none, some (.iadd, 1), some (.istore_n 3, 1), some (.aload_n 0, 1), some (.iload_n 3, 1), some (.invokevirtual 100, 3), none], [none, some (.aload_n 0, 1), some (.invokevirtual 83, 3), none, none, some (.ifCond .eq 16, 3), none, none, some (.iload_n 1, 1), some (.iload_n 3, 1), some (.aload_n 0, 1), some (.getfield 15, 3), none, none, some (.invokestatic 248, 3), none], [none, some (.pop, 1), some (.goto 14, 3), none, none, some (.iload_n 1, 1), some (.iload_n 2, 1), some (.iload_n 3, 1), some (.aload_n 0, 1), some (.getfield 15, 3), none, none, some (.invokestatic 251, 3), none, none, some (.pop, 1)], [some (.aload_n 0, 1), some (.iload_n 3, 1), some (.putfield 79, 3), none, none, some (.aload_n 0, 1), some (.areturn, 1)]]
/-- J5_isLatin1_aae02 -/
def jv_c173 : List (List jv_I) := [[some (.getstatic 18, 3), none, none, some (.ifCond .eq 14, 3), none, none, some (.aload_n 0, 1), some (.getfield 22, 3), none, none, some (.ifCond .ne 7, 3), none, none, some (.iconst 1, 1), some (.goto 4, 3), none], [none, some (.iconst 0, 1), some (.ireturn, 1)]]
/-- J5_inflateIfNeededFor_a7421 -/
def jv_c174 : List (List jv_I) := [[some (.getstatic 18, 3), none, none, some (.ifCond .eq 18, 3), none, none, some (.aload_n 0, 1), some (.getfield 22, 3), none, none, some (.aload_n 1, 1), some (.invokevirtual 40, 3), none, none, some (.if_icmp .eq 7, 3), none], [none, some (.aload_n 0, 1), some (.invokevirtual 195, 3), none, none, some (.return_, 1)]]
/-- J5_putStringAt_47b60 -/
def jv_c175 : List (List jv_I) := [[some (.aload_n 0, 1), some (.aload_n 2, 1), some (.invokevirtual 397, 3), none, none, some (.aload_n 2, 1), some (.aload_n 0, 1), some (.getfield 15, 3), none, none, some (.iload_n 1, 1), some (.aload_n 0, 1), some (.getfield 22, 3), none, none, some (.invokevirtual 399, 3)], [none, none, some (.return_, 1)]]
/-- J5_getValue_6d5f1 -/
def jv_c176 : List (List jv_I) := [[some (.aload_n 0, 1), some (.getfield 15, 3), none, none, some (.areturn, 1)]]
/-- J5_length_8abf5 -/
def jv_c177 : List (List jv_I) := [[some (.aload_n 0, 1), some (.getfield 79, 3), none, none, some (.ireturn, 1)]]
/-- J6_getChars_ba4f3 -/
def jv_c178 : List (List jv_I) := [[some (.iload_n 1, 1), some (.istore 5, 2), none, some (.iload_n 0, 1), some (.ifCond .ge 7, 3), none, none, some (.iconst 1, 1), some (.goto 4, 3), none, none, some (.iconst 0, 1), some (.istore 6, 2), none, some (.iload 6, 2), none], [some (.ifCond .ne 6, 3), none, none, some (.iload_n 0, 1), some (.ineg, 1), some (.istore_n 0, 1), some (.iload_n 0, 1), some (.bipush (-100), 2), none, some (.if_icmp .gt 47, 3), none, none, some (.iload_n 0, 1), some (.bipush 100, 2), none, some (.idiv, 1)], [some (.istore_n 3, 1), some (.iload_n 3, 1), some (.bipush 100, 2), none, some (.imul, 1), some (.iload_n 0, 1), some (.isub, 1), some (.istore 4, 2), none, some (.iload_n 3, 1), some (.istore_n 0, 1), some (.aload_n 2, 1), some (.iinc 5 (-1), 3), none, none, some (.iload 5, 2)], [none, some (.getstatic 83, 3), none, none, some (.iload 4, 2), none, some (.baload, 1), some (.bastore, 1), some (.aload_n 2, 1), some (.iinc 5 (-1), 3), none, none, some (.iload 5, 2), none, some (.getstatic 87, 3), none], [none, some (.iload 4, 2), none, some (.baload, 1), some (.bastore, 1), some (.goto (-47), 3), none, none, some (.aload_n 2, 1), some (.iinc 5 (-1), 3), none, none, some (.iload 5, 2), none, some (.getstatic 83, 3), none], [none, some (.iload_n 0, 1), some (.ineg, 1), some (.baload, 1), some (.bastore, 1), some (.iload_n 0, 1), some (.bipush (-9), 2), none, some (.if_icmp .ge 16, 3), none, none, some (.aload_n 2, 1), some (.iinc 5 (-1), 3), none, none, some (.iload 5, 2)], [none, some (.getstatic 87, 3), none, none, some (.iload_n 0, 1), some (.ineg, 1), some (.baload, 1), some (.bastore, 1), some (.iload 6, 2), none, some (.ifCond .eq 12, 3), none, none, some (.aload_n 2, 1), some (.iinc 5 (-1), 3), none], [none, some (.iload 5, 2), none, some (.bipush 45, 2), none, some (.bastore, 1), some (.iload 5, 2), none, some (.ireturn, 1)]]
/-- J6_stringSize_0f7a4 -/
def jv_c179 : List (List jv_I) := [[some (.iconst 1, 1), some (.istore_n 1, 1), some (.iload_n 0, 1), some (.ifCond .lt 8, 3), none, none, some (.iconst 0, 1), some (.istore_n 1, 1), some (.iload_n 0, 1), some (.ineg, 1), some (.istore_n 0, 1), some (.bipush (-10), 2), none, some (.istore_n 2, 1), some (.iconst 1, 1), some (.istore_n 3, 1)], [some (.iload_n 3, 1), some (.bipush 10, 2), none, some (.if_icmp .ge 23, 3), none, none, some (.iload_n 0, 1), some (.iload_n 2, 1), some (.if_icmp .le 7, 3), none, none, some (.iload_n 3, 1), some (.iload_n 1, 1), some (.iadd, 1), some (.ireturn, 1), some (.bipush 10, 2)], [none, some (.iload_n 2, 1), some (.imul, 1), some (.istore_n 2, 1), some (.iinc 3 1, 3), none, none, some (.goto (-23), 3), none, none, some (.bipush 10, 2), none, some (.iload_n 1, 1), some (.iadd, 1), some (.ireturn, 1)]]
/-- J9_max_7cf53 -/
def jv_c180 : List (List jv_I) := [[some (.iload_n 0, 1), some (.iload_n 1, 1), some (.if_icmp .lt 7, 3), none, none, some (.iload_n 0, 1), some (.goto 4, 3), none, none, some (.iload_n 1, 1), some (.ireturn, 1)]]
/-- J9_min_7cf53 -/
def jv_c181 : List (List jv_I) := [[some (.iload_n 0, 1), some (.iload_n 1, 1), some (.if_icmp .gt 7, 3), none, none, some (.iload_n 0, 1), some (.goto 4, 3), none, none, some (.iload_n 1, 1), some (.ireturn, 1)]]
/-- J1_charAt_3b067 -/
def jv_c182 : List (List jv_I) := [[some (.iload_n 1, 1), some (.aload_n 0, 1), some (.arraylength, 1), some (.invokestatic 9, 3), none, none, some (.aload_n 0, 1), some (.iload_n 1, 1), some (.baload, 1), some (.sipush 255, 3), none, none, some (.iand, 1), some (.i2c, 1), some (.ireturn, 1)]]
/-- J1_canEncode_fc78d -/
def jv_c183 : List (List jv_I) := [[some (.iload_n 0, 1), some (.sipush 255, 3), none, none, some (.if_icmp .gt 7, 3), none, none, some (.iconst 1, 1), some (.goto 4, 3), none, none, some (.iconst 0, 1), some (.ireturn, 1)]]
/-- J7_copyOf_9075b -/
def jv_c184 : List (List jv_I) := [[some (.iload_n 1, 1), some (.aload_n 0, 1), some (.arraylength, 1), some (.if_icmp .ne 11, 3), none, none, some (.aload_n 0, 1), some (.invokevirtual 310, 3), none, none, some (.checkcast 311, 3), none, none, some (.areturn, 1), some (.iload_n 1, 1), some (.newarray .byte, 2)], [none, some (.astore_n 2, 1), some (.aload_n 0, 1), some (.iconst 0, 1), some (.aload_n 2, 1), some (.iconst 0, 1), some (.aload_n 0, 1), some (.arraylength, 1), some (.iload_n 1, 1), some (.invokestatic 304, 3), none, none, some (.invokestatic 150, 3), none, none, some (.aload_n 2, 1)], [some (.areturn, 1)]]
/-- J7_copyOfRange_39247 -/
def jv_c185 : List (List jv_I) := [[some (.iload_n 1, 1), some (.ifCond .ne 9, 3), none, none, some (.iload_n 2, 1), some (.aload_n 0, 1), some (.arraylength, 1), some (.if_icmp .eq 10, 3), none, none, some (.aload_n 0, 1), some (.iload_n 1, 1), some (.iload_n 2, 1), some (.invokestatic 339, 3), none, none], [some (.areturn, 1), some (.aload_n 0, 1), some (.invokevirtual 310, 3), none, none, some (.checkcast 311, 3), none, none, some (.areturn, 1)]]
/-- J7_copyOfRangeByte_39247 -/
def jv_c186 : List (List jv_I) := [[some (.iload_n 1, 1), some (.iload_n 2, 1), some (.invokestatic 343, 3), none, none, some (.iload_n 2, 1), some (.iload_n 1, 1), some (.isub, 1), some (.istore_n 3, 1), some (.iload_n 3, 1), some (.newarray .byte, 2), none, some (.astore 4, 2), none, some (.aload_n 0, 1), some (.iload_n 1, 1)], [some (.aload 4, 2), none, some (.iconst 0, 1), some (.aload_n 0, 1), some (.arraylength, 1), some (.iload_n 1, 1), some (.isub, 1), some (.iload_n 3, 1), some (.invokestatic 304, 3), none, none, some (.invokestatic 150, 3), none, none, some (.aload 4, 2), none], [some (.areturn, 1)]]
/-- J7_checkLength_df160 -/
def jv_c187 : List (List jv_I) := [[some (.iload_n 1, 1), some (.iload_n 0, 1), some (.if_icmp .ge 35, 3), none, none, some (.new 43, 3), none, none, some (.dup, 1), some (.new 45, 3), none, none, some (.dup, 1), some (.invokespecial 47, 3), none, none], [some (.iload_n 0, 1), some (.invokevirtual 54, 3), none, none, some (.ldc_w 337, 3), none, none, some (.invokevirtual 50, 3), none, none, some (.iload_n 1, 1), some (.invokevirtual 54, 3), none, none, some (.invokevirtual 61, 3), none], [none, some (.invokespecial 65, 3), none, none, some (.athrow, 1), some (.return_, 1)]]
/-- J8_newLength_cabcc -/
def jv_c188 : List (List jv_I) := [[some (.iload_n 0, 1), some (.iload_n 1, 1), some (.iload_n 2, 1), some (.invokestatic 194, 3), none, none, some (.iadd, 1), some (.istore_n 3, 1), some (.iconst 0, 1), some (.iload_n 3, 1), some (.if_icmp .ge 11, 3), none, none, some (.iload_n 3, 1), some (.ldc 200, 2), none], [some (.if_icmp .gt 5, 3), none, none, some (.iload_n 3, 1), some (.ireturn, 1), some (.iload_n 0, 1), some (.iload_n 1, 1), some (.invokestatic 201, 3), none, none, some (.ireturn, 1)]]
/-- L_feeds -/
def jv_c189 : List (List jv_I) := [[some (.iconst 1, 1), some (.istore_n 2, 1), some (.iconst 0, 1), some (.istore_n 3, 1), some (.iload_n 3, 1), some (.aload_n 1, 1), some (.invokevirtual 7, 3), none, none, some (.if_icmp .ge 114, 3), none, none, some (.iconst 5, 1), some (.newarray .int, 2), none, some (.astore 4, 2)], [none, some (.iconst 0, 1), some (.istore 5, 2), none, some (.iload 5, 2), none, some (.bipush 20, 2), none, some (.if_icmp .ge 55, 3), none, none, some (.aload 4, 2), none, some (.iload 5, 2), none, some (.iconst 4, 1)], [some (.idiv, 1), some (.aload 4, 2), none, some (.iload 5, 2), none, some (.iconst 4, 1), some (.idiv, 1), some (.iaload, 1), some (.bipush 8, 2), none, some (.ishl, 1), some (.iload_n 3, 1), some (.iload 5, 2), none, some (.iadd, 1), some (.aload_n 1, 1)], [some (.invokevirtual 7, 3), none, none, some (.if_icmp .ge 18, 3), none, none, some (.aload_n 1, 1), some (.iload_n 3, 1), some (.iload 5, 2), none, some (.iadd, 1), some (.invokevirtual 13, 3), none, none, some (.sipush 255, 3), none], [none, some (.iand, 1), some (.goto 5, 3), none, none, some (.bipush 32, 2), none, some (.ior, 1), some (.iastore, 1), some (.iinc 5 1, 3), none, none, some (.goto (-56), 3), none, none, some (.iinc 3 20, 3)], [none, none, some (.iload_n 2, 1), some (.ifCond .eq 35, 3), none, none, some (.aload_n 0, 1), some (.aload 4, 2), none, some (.iconst 0, 1), some (.iaload, 1), some (.aload 4, 2), none, some (.iconst 1, 1), some (.iaload, 1), some (.aload 4, 2)], [none, some (.iconst 2, 1), some (.iaload, 1), some (.aload 4, 2), none, some (.iconst 3, 1), some (.iaload, 1), some (.aload 4, 2), none, some (.iconst 4, 1), some (.iaload, 1), some (.invokevirtual 17, 3), none, none, some (.iload_n 3, 1), some (.if_icmp .ne 7, 3)], [none, none, some (.iconst 1, 1), some (.goto 4, 3), none, none, some (.iconst 0, 1), some (.istore_n 2, 1), some (.goto (-116), 3), none, none, some (.iload_n 2, 1), some (.ifCond .eq 24, 3), none, none, some (.aload_n 0, 1)], [some (.iload_n 3, 1), some (.aload_n 1, 1), some (.invokevirtual 7, 3), none, none, some (.isub, 1), some (.invokevirtual 23, 3), none, none, some (.aload_n 1, 1), some (.invokevirtual 7, 3), none, none, some (.if_icmp .ne 7, 3), none, none], [some (.iconst 1, 1), some (.goto 4, 3), none, none, some (.iconst 0, 1), some (.ireturn, 1)]]
/-- L_train -/
def jv_c190_0 : List (List jv_I) := [[some (.iconst 2, 1), some (.iload_n 0, 1), some (.sipush 255, 3), none, none, some (.iand, 1), some (.iconst 5, 1), some (.irem, 1), some (.iadd, 1), some (.istore_n 2, 1), some (.iload_n 0, 1), some (.iconst 3, 1), some (.ishr, 1), some (.sipush 255, 3), none, none], [some (.iand, 1), some (.iload_n 2, 1), some (.iconst 1, 1), some (.iadd, 1), some (.irem, 1), some (.istore_n 3, 1), some (.new 27, 3), none, none, some (.dup, 1), some (.ldc 29, 2), none, some (.invokespecial 31, 3), none, none, some (.iload_n 2, 1)], [some (.invokevirtual 34, 3), none, none, some (.ldc 37, 2), none, some (.invokevirtual 39, 3), none, none, some (.iload_n 3, 1), some (.invokevirtual 34, 3), none, none, some (.bipush 59, 2), none, some (.invokevirtual 42, 3), none], [none, some (.astore 4, 2), none, some (.iconst 5, 1), some (.anewarray 8, 3), none, none, some (.dup, 1), some (.iconst 0, 1), some (.ldc 45, 2), none, some (.aastore, 1), some (.dup, 1), some (.iconst 1, 1), some (.ldc 47, 2), none], [some (.aastore, 1), some (.dup, 1), some (.iconst 2, 1), some (.ldc 49, 2), none, some (.aastore, 1), some (.dup, 1), some (.iconst 3, 1), some (.ldc 51, 2), none, some (.aastore, 1), some (.dup, 1), some (.iconst 4, 1), some (.ldc 53, 2), none, some (.aastore, 1)], [some (.astore 5, 2), none, some (.iload_n 1, 1), some (.istore 6, 2), none, some (.iconst 0, 1), some (.istore 7, 2), none, some (.iconst 0, 1), some (.istore 8, 2), none, some (.iload 8, 2), none, some (.iconst 4, 1), some (.iload_n 2, 1), some (.imul, 1)], [some (.if_icmp .ge 355, 3), none, none, some (.iload 7, 2), none, some (.bipush 13, 2), none, some (.if_icmp .ge 348, 3), none, none, some (.iload 6, 2), none, some (.ldc 55, 2), none, some (.imul, 1), some (.sipush 12345, 3)], [none, none, some (.iadd, 1), some (.istore 6, 2), none, some (.iload 6, 2), none, some (.bipush 8, 2), none, some (.ishr, 1), some (.iconst 3, 1), some (.iand, 1), some (.ifCond .ne 6, 3), none, none, some (.goto 318, 3)], [none, none, some (.aload 4, 2), none, some (.ldc 56, 2), none, some (.invokevirtual 39, 3), none, none, some (.iload 8, 2), none, some (.invokevirtual 34, 3), none, none, some (.bipush 32, 2), none], [some (.invokevirtual 42, 3), none, none, some (.aload 5, 2), none, some (.iload 6, 2), none, some (.bipush 10, 2), none, some (.ishr, 1), some (.sipush 255, 3), none, none, some (.iand, 1), some (.iconst 5, 1), some (.irem, 1)], [some (.aaload, 1), some (.invokevirtual 39, 3), none, none, some (.iload 8, 2), none, some (.iconst 4, 1), some (.idiv, 1), some (.iload_n 3, 1), some (.if_icmp .lt 14, 3), none, none, some (.iload 6, 2), none, some (.bipush 12, 2), none], [some (.ishr, 1), some (.bipush 7, 2), none, some (.iand, 1), some (.ifCond .ne 8, 3), none, none, some (.ldc 58, 2), none, some (.goto 5, 3), none, none, some (.ldc 60, 2), none, some (.invokevirtual 39, 3), none]]
def jv_c190_1 : List (List jv_I) := [[none, some (.pop, 1), some (.iload 6, 2), none, some (.bipush 15, 2), none, some (.ishr, 1), some (.iconst 1, 1), some (.iand, 1), some (.ifCond .ne 23, 3), none, none, some (.aload 4, 2), none, some (.ldc 62, 2), none], [some (.invokevirtual 39, 3), none, none, some (.iconst 1, 1), some (.iload 6, 2), none, some (.bipush 16, 2), none, some (.ishr, 1), some (.iconst 1, 1), some (.iand, 1), some (.iadd, 1), some (.invokevirtual 34, 3), none, none, some (.pop, 1)], [some (.iload 6, 2), none, some (.bipush 17, 2), none, some (.ishr, 1), some (.iconst 1, 1), some (.iand, 1), some (.ifCond .ne 46, 3), none, none, some (.aload 4, 2), none, some (.ldc 64, 2), none, some (.invokevirtual 39, 3), none], [none, some (.iload 6, 2), none, some (.bipush 18, 2), none, some (.ishr, 1), some (.iconst 1, 1), some (.iand, 1), some (.ifCond .ne 8, 3), none, none, some (.bipush 43, 2), none, some (.goto 5, 3), none, none], [some (.bipush 45, 2), none, some (.invokevirtual 42, 3), none, none, some (.iload 6, 2), none, some (.bipush 19, 2), none, some (.ishr, 1), some (.sipush 255, 3), none, none, some (.iand, 1), some (.bipush 10, 2), none], [some (.irem, 1), some (.invokevirtual 34, 3), none, none, some (.pop, 1), some (.iload 6, 2), none, some (.bipush 20, 2), none, some (.ishr, 1), some (.iconst 1, 1), some (.iand, 1), some (.ifCond .ne 46, 3), none, none, some (.aload 4, 2)], [none, some (.ldc 66, 2), none, some (.invokevirtual 39, 3), none, none, some (.iload 6, 2), none, some (.bipush 21, 2), none, some (.ishr, 1), some (.iconst 1, 1), some (.iand, 1), some (.ifCond .ne 8, 3), none, none], [some (.bipush 43, 2), none, some (.goto 5, 3), none, none, some (.bipush 45, 2), none, some (.invokevirtual 42, 3), none, none, some (.iload 6, 2), none, some (.bipush 22, 2), none, some (.ishr, 1), some (.sipush 255, 3)], [none, none, some (.iand, 1), some (.bipush 10, 2), none, some (.irem, 1), some (.invokevirtual 34, 3), none, none, some (.pop, 1), some (.iload 6, 2), none, some (.bipush 23, 2), none, some (.ishr, 1), some (.iconst 1, 1)], [some (.iand, 1), some (.ifCond .ne 38, 3), none, none, some (.aload 4, 2), none, some (.ldc 68, 2), none, some (.invokevirtual 39, 3), none, none, some (.iload 6, 2), none, some (.iconst 3, 1), some (.ishr, 1), some (.sipush 255, 3)], [none, none, some (.iand, 1), some (.iload_n 2, 1), some (.irem, 1), some (.invokevirtual 34, 3), none, none, some (.bipush 32, 2), none, some (.invokevirtual 42, 3), none, none, some (.iload 6, 2), none, some (.iconst 5, 1)], [some (.ishr, 1), some (.iconst 3, 1), some (.iand, 1), some (.invokevirtual 34, 3), none, none, some (.pop, 1), some (.iload 6, 2), none, some (.bipush 24, 2), none, some (.ishr, 1), some (.iconst 1, 1), some (.iand, 1), some (.ifCond .ne 21, 3), none]]
def jv_c190_2 : List (List jv_I) := [[none, some (.aload 4, 2), none, some (.ldc 70, 2), none, some (.invokevirtual 39, 3), none, none, some (.iload 6, 2), none, some (.iconst 4, 1), some (.ishr, 1), some (.bipush 15, 2), none, some (.iand, 1), some (.invokevirtual 34, 3)], [none, none, some (.pop, 1), some (.iload 6, 2), none, some (.bipush 25, 2), none, some (.ishr, 1), some (.iconst 1, 1), some (.iand, 1), some (.ifCond .ne 24, 3), none, none, some (.aload 4, 2), none, some (.ldc 72, 2)], [none, some (.invokevirtual 39, 3), none, none, some (.iconst 1, 1), some (.iload 6, 2), none, some (.bipush 6, 2), none, some (.ishr, 1), some (.bipush 15, 2), none, some (.iand, 1), some (.iadd, 1), some (.invokevirtual 34, 3), none], [none, some (.pop, 1), some (.aload 4, 2), none, some (.bipush 59, 2), none, some (.invokevirtual 42, 3), none, none, some (.pop, 1), some (.iinc 7 1, 3), none, none, some (.iinc 8 1, 3), none, none], [some (.goto (-357), 3), none, none, some (.aload 4, 2), none, some (.invokevirtual 74, 3), none, none, some (.areturn, 1)]]
def jv_c190 : List (List jv_I) := jv_c190_0 ++ jv_c190_1 ++ jv_c190_2
/-- L_setup -/
def jv_c191 : List (List jv_I) := [[some (.new 27, 3), none, none, some (.dup, 1), some (.invokespecial 78, 3), none, none, some (.astore_n 1, 1), some (.aload_n 0, 1), some (.invokevirtual 79, 3), none, none, some (.istore_n 2, 1), some (.iconst 0, 1), some (.istore_n 3, 1), some (.iload_n 3, 1)], [some (.iload_n 2, 1), some (.if_icmp .ge 20, 3), none, none, some (.aload_n 1, 1), some (.aload_n 0, 1), some (.iload_n 3, 1), some (.invokevirtual 82, 3), none, none, some (.i2c, 1), some (.invokevirtual 42, 3), none, none, some (.pop, 1), some (.iinc 3 1, 3)], [none, none, some (.goto (-19), 3), none, none, some (.aload_n 1, 1), some (.invokevirtual 74, 3), none, none, some (.areturn, 1)]]
/-- L_state -/
def jv_c192 : List (List jv_I) := [[some (.ldc2_w 85, 3), none, none, some (.lstore_n 1, 1), some (.iconst 0, 1), some (.istore_n 3, 1), some (.iload_n 3, 1), some (.bipush 16, 2), none, some (.if_icmp .ge 22, 3), none, none, some (.lload_n 1, 1), some (.ldc2_w 87, 3), none, none], [some (.lmul, 1), some (.aload_n 0, 1), some (.iload_n 3, 1), some (.invokevirtual 89, 3), none, none, some (.i2l, 1), some (.ladd, 1), some (.lstore_n 1, 1), some (.iinc 3 1, 3), none, none, some (.goto (-22), 3), none, none, some (.iconst 0, 1)], [some (.istore_n 3, 1), some (.iload_n 3, 1), some (.aload_n 0, 1), some (.iconst 3, 1), some (.invokevirtual 89, 3), none, none, some (.if_icmp .ge 40, 3), none, none, some (.iconst 0, 1), some (.istore 4, 2), none, some (.iload 4, 2), none, some (.bipush 9, 2)], [none, some (.if_icmp .ge 24, 3), none, none, some (.lload_n 1, 1), some (.ldc2_w 92, 3), none, none, some (.lmul, 1), some (.aload_n 0, 1), some (.iload_n 3, 1), some (.iload 4, 2), none, some (.invokevirtual 94, 3), none, none], [some (.i2l, 1), some (.ladd, 1), some (.lstore_n 1, 1), some (.iinc 4 1, 3), none, none, some (.goto (-25), 3), none, none, some (.iinc 3 1, 3), none, none, some (.goto (-43), 3), none, none, some (.lload_n 1, 1)], [some (.lreturn, 1)]]
/-- L_seats -/
def jv_c193_0 : List (List jv_I) := [[some (.aload_n 0, 1), some (.iconst 0, 1), some (.invokevirtual 89, 3), none, none, some (.istore_n 1, 1), some (.aload_n 0, 1), some (.iconst 3, 1), some (.invokevirtual 89, 3), none, none, some (.istore_n 2, 1), some (.iconst 0, 1), some (.istore_n 3, 1), some (.aload_n 0, 1), some (.iload_n 2, 1)], [some (.iconst 0, 1), some (.invokevirtual 94, 3), none, none, some (.iconst (-1), 1), some (.if_icmp .ne 28, 3), none, none, some (.aload_n 0, 1), some (.iconst 4, 1), some (.iload_n 1, 1), some (.imul, 1), some (.invokevirtual 98, 3), none, none, some (.iconst (-1), 1)], [some (.if_icmp .ne 17, 3), none, none, some (.aload_n 0, 1), some (.bipush 17, 2), none, some (.invokevirtual 89, 3), none, none, some (.iconst (-1), 1), some (.if_icmp .ne 7, 3), none, none, some (.iconst 1, 1), some (.goto 4, 3), none], [none, some (.iconst 0, 1), some (.istore 4, 2), none, some (.iconst 0, 1), some (.istore 5, 2), none, some (.iload 5, 2), none, some (.iconst 4, 1), some (.iload_n 1, 1), some (.imul, 1), some (.if_icmp .ge 77, 3), none, none, some (.iload 4, 2)], [none, some (.ifCond .eq 72, 3), none, none, some (.aload_n 0, 1), some (.iload 5, 2), none, some (.invokevirtual 98, 3), none, none, some (.istore 6, 2), none, some (.iload 6, 2), none, some (.bipush (-2), 2), none], [some (.if_icmp .ne 9, 3), none, none, some (.iinc 3 1, 3), none, none, some (.goto 45, 3), none, none, some (.aload_n 0, 1), some (.iload 6, 2), none, some (.iconst 0, 1), some (.invokevirtual 94, 3), none, none], [some (.iload 5, 2), none, some (.if_icmp .ne 30, 3), none, none, some (.aload_n 0, 1), some (.iload 6, 2), none, some (.iconst 1, 1), some (.invokevirtual 94, 3), none, none, some (.iconst 1, 1), some (.if_icmp .eq 15, 3), none, none], [some (.iload 5, 2), none, some (.iconst 4, 1), some (.idiv, 1), some (.aload_n 0, 1), some (.iconst 1, 1), some (.invokevirtual 89, 3), none, none, some (.if_icmp .lt 7, 3), none, none, some (.iconst 1, 1), some (.goto 4, 3), none, none], [some (.iconst 0, 1), some (.istore 4, 2), none, some (.iinc 5 1, 3), none, none, some (.goto (-79), 3), none, none, some (.iconst 0, 1), some (.istore 5, 2), none, some (.iconst 0, 1), some (.istore 6, 2), none, some (.iconst 0, 1)], [some (.istore 7, 2), none, some (.bipush 6, 2), none, some (.newarray .int, 2), none, some (.astore 8, 2), none, some (.bipush 6, 2), none, some (.newarray .int, 2), none, some (.astore 9, 2), none, some (.bipush 6, 2), none], [some (.newarray .int, 2), none, some (.astore 10, 2), none, some (.bipush 10, 2), none, some (.newarray .int, 2), none, some (.astore 11, 2), none, some (.bipush 10, 2), none, some (.newarray .int, 2), none, some (.astore 12, 2), none], [some (.bipush 6, 2), none, some (.bipush 10, 2), none, some (.multianewarray 101 2, 4), none, none, none, some (.astore 13, 2), none, some (.iconst 0, 1), some (.istore 14, 2), none, some (.iload 14, 2), none, some (.iload_n 2, 1)]]
def jv_c193_1 : List (List jv_I) := [[some (.if_icmp .ge 375, 3), none, none, some (.iload 4, 2), none, some (.ifCond .eq 370, 3), none, none, some (.aload_n 0, 1), some (.iload 14, 2), none, some (.iconst 0, 1), some (.invokevirtual 94, 3), none, none, some (.istore 15, 2)], [none, some (.aload_n 0, 1), some (.iload 14, 2), none, some (.iconst 2, 1), some (.invokevirtual 94, 3), none, none, some (.istore 16, 2), none, some (.iconst 0, 1), some (.istore 17, 2), none, some (.iconst 0, 1), some (.istore 18, 2), none], [some (.iload 18, 2), none, some (.iload_n 2, 1), some (.if_icmp .ge 54, 3), none, none, some (.iload 18, 2), none, some (.iload 14, 2), none, some (.if_icmp .eq 41, 3), none, none, some (.iload 16, 2), none, some (.ifCond .le 36, 3)], [none, none, some (.aload_n 0, 1), some (.iload 18, 2), none, some (.iconst 2, 1), some (.invokevirtual 94, 3), none, none, some (.iload 16, 2), none, some (.if_icmp .ne 24, 3), none, none, some (.aload_n 0, 1), some (.iload 18, 2)], [none, some (.iconst 0, 1), some (.invokevirtual 94, 3), none, none, some (.bipush 8, 2), none, some (.idiv, 1), some (.iload 15, 2), none, some (.bipush 8, 2), none, some (.idiv, 1), some (.if_icmp .ne 6, 3), none, none], [some (.iinc 17 1, 3), none, none, some (.iinc 18 1, 3), none, none, some (.goto (-54), 3), none, none, some (.iconst 4, 1), some (.iload 17, 2), none, some (.imul, 1), some (.aload_n 0, 1), some (.iload 14, 2), none], [some (.bipush 6, 2), none, some (.invokevirtual 94, 3), none, none, some (.iload 15, 2), none, some (.iconst 4, 1), some (.idiv, 1), some (.aload_n 0, 1), some (.iload 14, 2), none, some (.iconst 5, 1), some (.invokevirtual 94, 3), none, none], [some (.isub, 1), some (.invokestatic 103, 3), none, none, some (.imul, 1), some (.isub, 1), some (.istore 18, 2), none, some (.iload 15, 2), none, some (.iconst 4, 1), some (.irem, 1), some (.ifCond .eq 11, 3), none, none, some (.iload 15, 2)], [none, some (.iconst 4, 1), some (.irem, 1), some (.iconst 3, 1), some (.if_icmp .ne 18, 3), none, none, some (.iload 18, 2), none, some (.aload_n 0, 1), some (.iload 14, 2), none, some (.iconst 3, 1), some (.invokevirtual 94, 3), none, none], [some (.bipush 9, 2), none, some (.isub, 1), some (.iadd, 1), some (.istore 18, 2), none, some (.iload 15, 2), none, some (.iconst 4, 1), some (.idiv, 1), some (.iconst 2, 1), some (.irem, 1), some (.iconst 1, 1), some (.if_icmp .ne 18, 3), none, none], [some (.iload 18, 2), none, some (.aload_n 0, 1), some (.iload 14, 2), none, some (.iconst 4, 1), some (.invokevirtual 94, 3), none, none, some (.bipush 9, 2), none, some (.isub, 1), some (.iadd, 1), some (.istore 18, 2), none, some (.aload_n 0, 1)], [some (.iload 14, 2), none, some (.bipush 9, 2), none, some (.invokevirtual 94, 3), none, none, some (.iload 18, 2), none, some (.bipush 100, 2), none, some (.iadd, 1), some (.if_icmp .ne 76, 3), none, none, some (.aload_n 0, 1)]]
def jv_c193_2 : List (List jv_I) := [[some (.iload 14, 2), none, some (.iload 15, 2), none, some (.invokevirtual 108, 3), none, none, some (.iload 18, 2), none, some (.bipush 100, 2), none, some (.iadd, 1), some (.if_icmp .ne 60, 3), none, none, some (.aload_n 0, 1)], [some (.iload 14, 2), none, some (.bipush 10, 2), none, some (.invokevirtual 94, 3), none, none, some (.iload 17, 2), none, some (.if_icmp .ne 47, 3), none, none, some (.aload_n 0, 1), some (.iload 15, 2), none, some (.invokevirtual 98, 3)], [none, none, some (.iload 14, 2), none, some (.if_icmp .ne 36, 3), none, none, some (.aload_n 0, 1), some (.aload_n 0, 1), some (.iload 14, 2), none, some (.bipush 11, 2), none, some (.invokevirtual 94, 3), none, none], [some (.invokevirtual 111, 3), none, none, some (.iload 14, 2), none, some (.if_icmp .ne 19, 3), none, none, some (.aload_n 0, 1), some (.iload 14, 2), none, some (.iload 15, 2), none, some (.invokevirtual 114, 3), none, none], [some (.iconst 5, 1), some (.if_icmp .ne 7, 3), none, none, some (.iconst 1, 1), some (.goto 4, 3), none, none, some (.iconst 0, 1), some (.istore 4, 2), none, some (.iload 5, 2), none, some (.iload 18, 2), none, some (.iadd, 1)], [some (.istore 5, 2), none, some (.iload 7, 2), none, some (.aload_n 0, 1), some (.iload 14, 2), none, some (.bipush 7, 2), none, some (.invokevirtual 94, 3), none, none, some (.iadd, 1), some (.istore 7, 2), none, some (.aload 8, 2)], [none, some (.iload 15, 2), none, some (.bipush 8, 2), none, some (.idiv, 1), some (.dup2, 1), some (.iaload, 1), some (.iconst 1, 1), some (.iadd, 1), some (.iastore, 1), some (.aload 10, 2), none, some (.iload 15, 2), none, some (.bipush 8, 2)], [none, some (.idiv, 1), some (.dup2, 1), some (.iaload, 1), some (.iload 18, 2), none, some (.iadd, 1), some (.iastore, 1), some (.aload 11, 2), none, some (.iload 16, 2), none, some (.dup2, 1), some (.iaload, 1), some (.iconst 1, 1), some (.iadd, 1)], [some (.iastore, 1), some (.aload 12, 2), none, some (.iload 16, 2), none, some (.dup2, 1), some (.iaload, 1), some (.iload 18, 2), none, some (.iadd, 1), some (.iastore, 1), some (.aload 13, 2), none, some (.iload 15, 2), none, some (.bipush 8, 2)], [none, some (.idiv, 1), some (.aaload, 1), some (.iload 16, 2), none, some (.dup2, 1), some (.iaload, 1), some (.iconst 1, 1), some (.iadd, 1), some (.iastore, 1), some (.iload 18, 2), none, some (.ifCond .lt 6, 3), none, none, some (.goto 18, 3)], [none, none, some (.iinc 6 1, 3), none, none, some (.aload 9, 2), none, some (.iload 15, 2), none, some (.bipush 8, 2), none, some (.idiv, 1), some (.dup2, 1), some (.iaload, 1), some (.iconst 1, 1), some (.iadd, 1)], [some (.iastore, 1), some (.iinc 14 1, 3), none, none, some (.goto (-375), 3), none, none, some (.iconst 0, 1), some (.istore 14, 2), none, some (.iconst 1, 1), some (.istore 15, 2), none, some (.iload 15, 2), none, some (.bipush 10, 2)]]
def jv_c193_3 : List (List jv_I) := [[none, some (.if_icmp .ge 111, 3), none, none, some (.iload 4, 2), none, some (.ifCond .eq 106, 3), none, none, some (.iconst 0, 1), some (.istore 16, 2), none, some (.iconst 0, 1), some (.istore 17, 2), none, some (.iload 17, 2)], [none, some (.bipush 6, 2), none, some (.if_icmp .ge 23, 3), none, none, some (.aload 13, 2), none, some (.iload 17, 2), none, some (.aaload, 1), some (.iload 15, 2), none, some (.iaload, 1), some (.ifCond .le 6, 3), none], [none, some (.iinc 16 1, 3), none, none, some (.iinc 17 1, 3), none, none, some (.goto (-24), 3), none, none, some (.aload 11, 2), none, some (.iload 15, 2), none, some (.iaload, 1), some (.ifCond .le 6, 3)], [none, none, some (.iinc 14 1, 3), none, none, some (.aload_n 0, 1), some (.iload 15, 2), none, some (.iconst 0, 1), some (.invokevirtual 117, 3), none, none, some (.aload 11, 2), none, some (.iload 15, 2), none], [some (.iaload, 1), some (.if_icmp .ne 38, 3), none, none, some (.aload_n 0, 1), some (.iload 15, 2), none, some (.iconst 1, 1), some (.invokevirtual 117, 3), none, none, some (.iload 16, 2), none, some (.if_icmp .ne 26, 3), none, none], [some (.aload_n 0, 1), some (.iload 15, 2), none, some (.iconst 2, 1), some (.invokevirtual 117, 3), none, none, some (.aload 12, 2), none, some (.iload 15, 2), none, some (.iaload, 1), some (.sipush 1000, 3), none, none, some (.iadd, 1)], [some (.if_icmp .ne 7, 3), none, none, some (.iconst 1, 1), some (.goto 4, 3), none, none, some (.iconst 0, 1), some (.istore 4, 2), none, some (.iinc 15 1, 3), none, none, some (.goto (-112), 3), none, none], [some (.iconst 0, 1), some (.istore 15, 2), none, some (.iload 15, 2), none, some (.aload_n 0, 1), some (.bipush 13, 2), none, some (.invokevirtual 89, 3), none, none, some (.if_icmp .ge 140, 3), none, none, some (.iload 4, 2), none], [some (.ifCond .eq 135, 3), none, none, some (.iconst 0, 1), some (.istore 16, 2), none, some (.iconst 1, 1), some (.istore 17, 2), none, some (.iload 17, 2), none, some (.bipush 10, 2), none, some (.if_icmp .ge 48, 3), none, none], [some (.aload 13, 2), none, some (.iload 15, 2), none, some (.aaload, 1), some (.iload 17, 2), none, some (.iaload, 1), some (.aload 13, 2), none, some (.iload 15, 2), none, some (.aaload, 1), some (.iload 16, 2), none, some (.iaload, 1)], [some (.if_icmp .gt 19, 3), none, none, some (.iload 16, 2), none, some (.ifCond .ne 18, 3), none, none, some (.aload 13, 2), none, some (.iload 15, 2), none, some (.aaload, 1), some (.iload 17, 2), none, some (.iaload, 1)], [some (.ifCond .le 7, 3), none, none, some (.iload 17, 2), none, some (.istore 16, 2), none, some (.iinc 17 1, 3), none, none, some (.goto (-49), 3), none, none, some (.aload_n 0, 1), some (.iload 15, 2), none]]
def jv_c193_4 : List (List jv_I) := [[some (.iconst 0, 1), some (.invokevirtual 120, 3), none, none, some (.aload 8, 2), none, some (.iload 15, 2), none, some (.iaload, 1), some (.if_icmp .ne 53, 3), none, none, some (.aload_n 0, 1), some (.iload 15, 2), none, some (.iconst 1, 1)], [some (.invokevirtual 120, 3), none, none, some (.aload 9, 2), none, some (.iload 15, 2), none, some (.iaload, 1), some (.if_icmp .ne 38, 3), none, none, some (.aload_n 0, 1), some (.iload 15, 2), none, some (.iconst 2, 1), some (.invokevirtual 120, 3)], [none, none, some (.aload 10, 2), none, some (.iload 15, 2), none, some (.iaload, 1), some (.sipush 1000, 3), none, none, some (.iadd, 1), some (.if_icmp .ne 19, 3), none, none, some (.aload_n 0, 1), some (.iload 15, 2)], [none, some (.iconst 3, 1), some (.invokevirtual 120, 3), none, none, some (.iload 16, 2), none, some (.if_icmp .ne 7, 3), none, none, some (.iconst 1, 1), some (.goto 4, 3), none, none, some (.iconst 0, 1), some (.istore 4, 2)], [none, some (.iinc 15 1, 3), none, none, some (.goto (-145), 3), none, none, some (.iconst 1, 1), some (.istore 15, 2), none, some (.iload 15, 2), none, some (.iload_n 2, 1), some (.if_icmp .ge 84, 3), none, none], [some (.iload 4, 2), none, some (.ifCond .eq 79, 3), none, none, some (.aload_n 0, 1), some (.iload 15, 2), none, some (.iconst 1, 1), some (.isub, 1), some (.invokevirtual 111, 3), none, none, some (.istore 16, 2), none, some (.aload_n 0, 1)], [some (.iload 15, 2), none, some (.invokevirtual 111, 3), none, none, some (.istore 17, 2), none, some (.aload_n 0, 1), some (.iload 16, 2), none, some (.bipush 9, 2), none, some (.invokevirtual 94, 3), none, none, some (.aload_n 0, 1)], [some (.iload 17, 2), none, some (.bipush 9, 2), none, some (.invokevirtual 94, 3), none, none, some (.if_icmp .gt 29, 3), none, none, some (.aload_n 0, 1), some (.iload 16, 2), none, some (.bipush 9, 2), none, some (.invokevirtual 94, 3)], [none, none, some (.aload_n 0, 1), some (.iload 17, 2), none, some (.bipush 9, 2), none, some (.invokevirtual 94, 3), none, none, some (.if_icmp .ne 14, 3), none, none, some (.iload 16, 2), none, some (.iload 17, 2)], [none, some (.if_icmp .ge 7, 3), none, none, some (.iconst 1, 1), some (.goto 4, 3), none, none, some (.iconst 0, 1), some (.istore 4, 2), none, some (.iinc 15 1, 3), none, none, some (.goto (-84), 3), none], [none, some (.iload 4, 2), none, some (.ifCond .eq 139, 3), none, none, some (.aload_n 0, 1), some (.iload_n 2, 1), some (.invokevirtual 111, 3), none, none, some (.bipush (-2), 2), none, some (.if_icmp .ne 129, 3), none, none], [some (.iload_n 3, 1), some (.aload_n 0, 1), some (.iconst 4, 1), some (.invokevirtual 89, 3), none, none, some (.if_icmp .ne 120, 3), none, none, some (.iload 5, 2), none, some (.sipush 10000, 3), none, none, some (.iadd, 1), some (.aload_n 0, 1)]]
def jv_c193_5 : List (List jv_I) := [[some (.iconst 5, 1), some (.invokevirtual 89, 3), none, none, some (.if_icmp .ne 106, 3), none, none, some (.iload 6, 2), none, some (.aload_n 0, 1), some (.bipush 6, 2), none, some (.invokevirtual 89, 3), none, none, some (.if_icmp .ne 95, 3)], [none, none, some (.iload 7, 2), none, some (.aload_n 0, 1), some (.bipush 7, 2), none, some (.invokevirtual 89, 3), none, none, some (.if_icmp .ne 84, 3), none, none, some (.iload 14, 2), none, some (.aload_n 0, 1)], [some (.bipush 14, 2), none, some (.invokevirtual 89, 3), none, none, some (.if_icmp .ne 73, 3), none, none, some (.aload_n 0, 1), some (.bipush 13, 2), none, some (.invokevirtual 89, 3), none, none, some (.iload_n 1, 1), some (.iconst 1, 1)], [some (.iadd, 1), some (.iconst 2, 1), some (.idiv, 1), some (.if_icmp .ne 59, 3), none, none, some (.aload_n 0, 1), some (.aload_n 0, 1), some (.bipush 13, 2), none, some (.invokevirtual 89, 3), none, none, some (.iconst 0, 1), some (.invokevirtual 120, 3), none], [none, some (.iconst (-1), 1), some (.if_icmp .ne 44, 3), none, none, some (.aload_n 0, 1), some (.invokevirtual 123, 3), none, none, some (.iload_n 2, 1), some (.i2f, 1), some (.iconst 4, 1), some (.iload_n 1, 1), some (.imul, 1), some (.i2f, 1), some (.fdiv, 1)], [some (.fcmp .l, 1), some (.ifCond .ne 29, 3), none, none, some (.aload_n 0, 1), some (.invokevirtual 127, 3), none, none, some (.iload_n 2, 1), some (.ifCond .ne 7, 3), none, none, some (.dconst 0, 1), some (.goto 9, 3), none, none], [some (.iload 5, 2), none, some (.i2d, 1), some (.iload_n 2, 1), some (.i2d, 1), some (.ddiv, 1), some (.dcmp .l, 1), some (.ifCond .ne 7, 3), none, none, some (.iconst 1, 1), some (.goto 4, 3), none, none, some (.iconst 0, 1), some (.ireturn, 1)]]
def jv_c193 : List (List jv_I) := jv_c193_0 ++ jv_c193_1 ++ jv_c193_2 ++ jv_c193_3 ++ jv_c193_4 ++ jv_c193_5
/-- L_swaps -/
def jv_c194_0 : List (List jv_I) := [[some (.aload_n 0, 1), some (.iconst 3, 1), some (.invokevirtual 89, 3), none, none, some (.istore_n 3, 1), some (.aload_n 0, 1), some (.iload_n 1, 1), some (.iload_n 1, 1), some (.iconst 0, 1), some (.invokevirtual 131, 3), none, none, some (.iconst (-1), 1), some (.if_icmp .ne 18, 3), none], [none, some (.aload_n 0, 1), some (.iload_n 1, 1), some (.iload_n 1, 1), some (.iconst 0, 1), some (.invokevirtual 135, 3), none, none, some (.iconst (-1), 1), some (.if_icmp .ne 7, 3), none, none, some (.iconst 1, 1), some (.goto 4, 3), none, none], [some (.iconst 0, 1), some (.istore 4, 2), none, some (.iconst 0, 1), some (.istore 5, 2), none, some (.iload 5, 2), none, some (.iload_n 3, 1), some (.if_icmp .ge 564, 3), none, none, some (.iload 4, 2), none, some (.ifCond .eq 559, 3), none], [none, some (.iload_n 1, 1), some (.iload 5, 2), none, some (.if_icmp .ne 6, 3), none, none, some (.goto 544, 3), none, none, some (.aload_n 0, 1), some (.iload_n 1, 1), some (.iload 5, 2), none, some (.invokevirtual 138, 3), none], [none, some (.istore 6, 2), none, some (.aload_n 0, 1), some (.iload_n 1, 1), some (.iload 5, 2), none, some (.iconst 0, 1), some (.invokevirtual 135, 3), none, none, some (.bipush 100, 2), none, some (.isub, 1), some (.istore 7, 2), none], [some (.aload_n 0, 1), some (.iload_n 1, 1), some (.iload 5, 2), none, some (.iconst 1, 1), some (.invokevirtual 135, 3), none, none, some (.bipush 100, 2), none, some (.isub, 1), some (.istore 8, 2), none, some (.aload_n 0, 1), some (.iload_n 1, 1), some (.iload 5, 2)], [none, some (.iconst 2, 1), some (.invokevirtual 135, 3), none, none, some (.istore 9, 2), none, some (.iconst 0, 1), some (.istore 10, 2), none, some (.iload 10, 2), none, some (.bipush 10, 2), none, some (.if_icmp .ge 441, 3), none], [none, some (.iload 4, 2), none, some (.ifCond .eq 436, 3), none, none, some (.aload_n 0, 1), some (.iload_n 1, 1), some (.iload 5, 2), none, some (.iload 10, 2), none, some (.invokevirtual 131, 3), none, none, some (.istore 11, 2)], [none, some (.aload_n 0, 1), some (.iload_n 1, 1), some (.iconst 1, 1), some (.invokevirtual 94, 3), none, none, some (.ifCond .ne 20, 3), none, none, some (.aload_n 0, 1), some (.iload 5, 2), none, some (.iconst 0, 1), some (.invokevirtual 94, 3), none], [none, some (.iconst 4, 1), some (.idiv, 1), some (.aload_n 0, 1), some (.iconst 1, 1), some (.invokevirtual 89, 3), none, none, some (.if_icmp .lt 29, 3), none, none, some (.aload_n 0, 1), some (.iload 5, 2), none, some (.iconst 1, 1), some (.invokevirtual 94, 3)], [none, none, some (.ifCond .ne 23, 3), none, none, some (.aload_n 0, 1), some (.iload_n 1, 1), some (.iconst 0, 1), some (.invokevirtual 94, 3), none, none, some (.iconst 4, 1), some (.idiv, 1), some (.aload_n 0, 1), some (.iconst 1, 1), some (.invokevirtual 89, 3)], [none, none, some (.if_icmp .ge 7, 3), none, none, some (.iconst 1, 1), some (.goto 4, 3), none, none, some (.iconst 0, 1), some (.istore 12, 2), none, some (.iload 12, 2), none, some (.ifCond .eq 7, 3), none]]
def jv_c194_1 : List (List jv_I) := [[none, some (.iconst 1, 1), some (.goto 43, 3), none, none, some (.aload_n 0, 1), some (.iload_n 1, 1), some (.bipush 7, 2), none, some (.invokevirtual 94, 3), none, none, some (.iload 10, 2), none, some (.if_icmp .ge 7, 3), none], [none, some (.iconst 2, 1), some (.goto 27, 3), none, none, some (.iload 7, 2), none, some (.iload 10, 2), none, some (.if_icmp .ge 7, 3), none, none, some (.iconst 3, 1), some (.goto 16, 3), none, none], [some (.iload 8, 2), none, some (.ineg, 1), some (.iload 10, 2), none, some (.if_icmp .le 7, 3), none, none, some (.iconst 4, 1), some (.goto 4, 3), none, none, some (.iconst 0, 1), some (.istore 13, 2), none, some (.iload 11, 2)], [none, some (.iload 13, 2), none, some (.if_icmp .ne 24, 3), none, none, some (.iload 11, 2), none, some (.ifCond .gt 15, 3), none, none, some (.iload 6, 2), none, some (.ifCond .lt 14, 3), none, none], [some (.iload 6, 2), none, some (.iload 10, 2), none, some (.if_icmp .gt 7, 3), none, none, some (.iconst 1, 1), some (.goto 4, 3), none, none, some (.iconst 0, 1), some (.istore 4, 2), none, some (.bipush 7, 2), none], [some (.newarray .int, 2), none, some (.dup, 1), some (.iconst 0, 1), some (.aload_n 0, 1), some (.iload_n 1, 1), some (.iconst 0, 1), some (.invokevirtual 94, 3), none, none, some (.iastore, 1), some (.dup, 1), some (.iconst 1, 1), some (.aload_n 0, 1), some (.iload 5, 2), none], [some (.iconst 0, 1), some (.invokevirtual 94, 3), none, none, some (.iastore, 1), some (.dup, 1), some (.iconst 2, 1), some (.aload_n 0, 1), some (.iload_n 1, 1), some (.bipush 7, 2), none, some (.invokevirtual 94, 3), none, none, some (.iastore, 1), some (.dup, 1)], [some (.iconst 3, 1), some (.aload_n 0, 1), some (.iload 5, 2), none, some (.bipush 7, 2), none, some (.invokevirtual 94, 3), none, none, some (.iastore, 1), some (.dup, 1), some (.iconst 4, 1), some (.aload_n 0, 1), some (.bipush 8, 2), none, some (.invokevirtual 89, 3)], [none, none, some (.iastore, 1), some (.dup, 1), some (.iconst 5, 1), some (.aload_n 0, 1), some (.bipush 11, 2), none, some (.invokevirtual 89, 3), none, none, some (.iastore, 1), some (.dup, 1), some (.bipush 6, 2), none, some (.aload_n 0, 1)], [some (.bipush 7, 2), none, some (.invokevirtual 89, 3), none, none, some (.iastore, 1), some (.astore 14, 2), none, some (.aload_n 0, 1), some (.iload_n 1, 1), some (.iload 5, 2), none, some (.iload 10, 2), none, some (.invokevirtual 141, 3), none], [none, some (.istore 15, 2), none, some (.iload 11, 2), none, some (.ifCond .le 28, 3), none, none, some (.iload 4, 2), none, some (.ifCond .eq 17, 3), none, none, some (.iload 15, 2), none, some (.bipush (-10), 2)], [none, some (.iload 11, 2), none, some (.isub, 1), some (.if_icmp .ne 7, 3), none, none, some (.iconst 1, 1), some (.goto 4, 3), none, none, some (.iconst 0, 1), some (.istore 4, 2), none, some (.goto 156, 3), none]]
def jv_c194_2 : List (List jv_I) := [[none, some (.iload 4, 2), none, some (.ifCond .eq 148, 3), none, none, some (.iload 15, 2), none, some (.iload 7, 2), none, some (.iload 8, 2), none, some (.iadd, 1), some (.bipush 100, 2), none, some (.iadd, 1)], [some (.if_icmp .ne 135, 3), none, none, some (.aload_n 0, 1), some (.iload_n 1, 1), some (.iconst 0, 1), some (.invokevirtual 94, 3), none, none, some (.aload 14, 2), none, some (.iconst 1, 1), some (.iaload, 1), some (.if_icmp .ne 122, 3), none, none], [some (.aload_n 0, 1), some (.iload 5, 2), none, some (.iconst 0, 1), some (.invokevirtual 94, 3), none, none, some (.aload 14, 2), none, some (.iconst 0, 1), some (.iaload, 1), some (.if_icmp .ne 108, 3), none, none, some (.aload_n 0, 1), some (.iload_n 1, 1)], [some (.bipush 7, 2), none, some (.invokevirtual 94, 3), none, none, some (.aload 14, 2), none, some (.iconst 2, 1), some (.iaload, 1), some (.iload 10, 2), none, some (.isub, 1), some (.if_icmp .ne 91, 3), none, none, some (.aload_n 0, 1)], [some (.iload 5, 2), none, some (.bipush 7, 2), none, some (.invokevirtual 94, 3), none, none, some (.aload 14, 2), none, some (.iconst 3, 1), some (.iaload, 1), some (.iload 10, 2), none, some (.iadd, 1), some (.if_icmp .ne 73, 3), none], [none, some (.aload_n 0, 1), some (.bipush 8, 2), none, some (.invokevirtual 89, 3), none, none, some (.aload 14, 2), none, some (.iconst 4, 1), some (.iaload, 1), some (.iconst 1, 1), some (.iadd, 1), some (.if_icmp .ne 58, 3), none, none], [some (.aload_n 0, 1), some (.bipush 11, 2), none, some (.invokevirtual 89, 3), none, none, some (.aload 14, 2), none, some (.iconst 5, 1), some (.iaload, 1), some (.iload 10, 2), none, some (.iadd, 1), some (.if_icmp .ne 42, 3), none, none], [some (.aload_n 0, 1), some (.bipush 7, 2), none, some (.invokevirtual 89, 3), none, none, some (.aload 14, 2), none, some (.bipush 6, 2), none, some (.iaload, 1), some (.if_icmp .ne 28, 3), none, none, some (.aload_n 0, 1), some (.iconst 5, 1)], [some (.invokevirtual 89, 3), none, none, some (.iload 9, 2), none, some (.sipush 9000, 3), none, none, some (.iadd, 1), some (.if_icmp .ne 14, 3), none, none, some (.aload_n 0, 1), some (.invokevirtual 144, 3), none, none], [some (.ifCond .lt 7, 3), none, none, some (.iconst 1, 1), some (.goto 4, 3), none, none, some (.iconst 0, 1), some (.istore 4, 2), none, some (.iload 10, 2), none, some (.iconst 1, 1), some (.iload_n 2, 1), some (.iconst 3, 1), some (.iand, 1)], [some (.iadd, 1), some (.iadd, 1), some (.istore 10, 2), none, some (.goto (-442), 3), none, none, some (.iload 6, 2), none, some (.ifCond .lt 46, 3), none, none, some (.iload 4, 2), none, some (.ifCond .eq 38, 3), none], [none, some (.aload_n 0, 1), some (.iload_n 1, 1), some (.iload 5, 2), none, some (.iload 6, 2), none, some (.invokevirtual 131, 3), none, none, some (.ifCond .ne 26, 3), none, none, some (.iload 6, 2), none, some (.ifCond .eq 17, 3)]]
def jv_c194_3 : List (List jv_I) := [[none, none, some (.aload_n 0, 1), some (.iload_n 1, 1), some (.iload 5, 2), none, some (.iload 6, 2), none, some (.iconst 1, 1), some (.isub, 1), some (.invokevirtual 131, 3), none, none, some (.ifCond .le 7, 3), none, none], [some (.iconst 1, 1), some (.goto 4, 3), none, none, some (.iconst 0, 1), some (.istore 4, 2), none, some (.iinc 5 1, 3), none, none, some (.goto (-564), 3), none, none, some (.aload_n 0, 1), some (.iload_n 1, 1), some (.invokevirtual 147, 3)], [none, none, some (.istore 5, 2), none, some (.iconst 0, 1), some (.istore 6, 2), none, some (.bipush (-2), 2), none, some (.istore 7, 2), none, some (.iconst 0, 1), some (.istore 8, 2), none, some (.iload 8, 2), none], [some (.iload_n 3, 1), some (.if_icmp .ge 67, 3), none, none, some (.iload 4, 2), none, some (.ifCond .eq 62, 3), none, none, some (.iload_n 1, 1), some (.iload 8, 2), none, some (.if_icmp .eq 50, 3), none, none, some (.aload_n 0, 1)], [some (.iload_n 1, 1), some (.iload 8, 2), none, some (.iconst 0, 1), some (.invokevirtual 131, 3), none, none, some (.ifCond .ne 39, 3), none, none, some (.aload_n 0, 1), some (.iload_n 1, 1), some (.iload 8, 2), none, some (.iconst 0, 1), some (.invokevirtual 135, 3)], [none, none, some (.bipush 100, 2), none, some (.isub, 1), some (.iload 6, 2), none, some (.if_icmp .gt 6, 3), none, none, some (.goto 20, 3), none, none, some (.aload_n 0, 1), some (.iload_n 1, 1), some (.iload 8, 2)], [none, some (.iconst 0, 1), some (.invokevirtual 135, 3), none, none, some (.bipush 100, 2), none, some (.isub, 1), some (.istore 6, 2), none, some (.iload 8, 2), none, some (.istore 7, 2), none, some (.iinc 8 1, 3), none], [none, some (.goto (-67), 3), none, none, some (.iload 4, 2), none, some (.ifCond .eq 14, 3), none, none, some (.iload 5, 2), none, some (.iload 7, 2), none, some (.if_icmp .ne 7, 3), none, none], [some (.iconst 1, 1), some (.goto 4, 3), none, none, some (.iconst 0, 1), some (.ireturn, 1)]]
def jv_c194 : List (List jv_I) := jv_c194_0 ++ jv_c194_1 ++ jv_c194_2 ++ jv_c194_3
/-- L_moves -/
def jv_c195_0 : List (List jv_I) := [[some (.bipush (-2), 2), none, some (.istore_n 2, 1), some (.iconst 1, 1), some (.istore_n 3, 1), some (.iconst 0, 1), some (.istore 4, 2), none, some (.iload 4, 2), none, some (.iconst 4, 1), some (.aload_n 0, 1), some (.iconst 0, 1), some (.invokevirtual 89, 3), none, none], [some (.imul, 1), some (.if_icmp .ge 214, 3), none, none, some (.iload_n 3, 1), some (.ifCond .eq 210, 3), none, none, some (.aload_n 0, 1), some (.iload_n 1, 1), some (.iload 4, 2), none, some (.invokevirtual 114, 3), none, none, some (.istore 5, 2)], [none, some (.aload_n 0, 1), some (.iload_n 1, 1), some (.bipush 9, 2), none, some (.invokevirtual 94, 3), none, none, some (.istore 6, 2), none, some (.aload_n 0, 1), some (.iload_n 1, 1), some (.iload 4, 2), none, some (.invokevirtual 108, 3), none], [none, some (.istore 7, 2), none, some (.aload_n 0, 1), some (.iload 4, 2), none, some (.invokevirtual 98, 3), none, none, some (.ifCond .lt 7, 3), none, none, some (.iconst 5, 1), some (.goto 41, 3), none, none], [some (.aload_n 0, 1), some (.iload_n 1, 1), some (.iconst 1, 1), some (.invokevirtual 94, 3), none, none, some (.ifCond .ne 19, 3), none, none, some (.iload 4, 2), none, some (.iconst 4, 1), some (.idiv, 1), some (.aload_n 0, 1), some (.iconst 1, 1), some (.invokevirtual 89, 3)], [none, none, some (.if_icmp .ge 7, 3), none, none, some (.iconst 1, 1), some (.goto 16, 3), none, none, some (.iload 7, 2), none, some (.iload 6, 2), none, some (.if_icmp .ge 8, 3), none, none], [some (.bipush 6, 2), none, some (.goto 4, 3), none, none, some (.iconst 0, 1), some (.istore 8, 2), none, some (.iload 5, 2), none, some (.ifCond .ne 21, 3), none, none, some (.iload_n 2, 1), some (.ifCond .lt 14, 3), none], [none, some (.iload 7, 2), none, some (.aload_n 0, 1), some (.iload_n 1, 1), some (.iload_n 2, 1), some (.invokevirtual 108, 3), none, none, some (.if_icmp .le 6, 3), none, none, some (.iload 4, 2), none, some (.istore_n 2, 1), some (.aload_n 0, 1)], [some (.iload_n 1, 1), some (.iconst 0, 1), some (.invokevirtual 94, 3), none, none, some (.istore 9, 2), none, some (.aload_n 0, 1), some (.iload_n 1, 1), some (.iload 4, 2), none, some (.invokevirtual 150, 3), none, none, some (.istore 10, 2), none], [some (.iload 5, 2), none, some (.iload 8, 2), none, some (.if_icmp .ne 75, 3), none, none, some (.iload 5, 2), none, some (.ifCond .le 16, 3), none, none, some (.iload 10, 2), none, some (.bipush (-10), 2), none], [some (.iload 5, 2), none, some (.isub, 1), some (.if_icmp .ne 60, 3), none, none, some (.goto 53, 3), none, none, some (.iload 10, 2), none, some (.iload 7, 2), none, some (.iload 6, 2), none, some (.isub, 1)], [some (.if_icmp .ne 47, 3), none, none, some (.aload_n 0, 1), some (.iload_n 1, 1), some (.bipush 9, 2), none, some (.invokevirtual 94, 3), none, none, some (.iload 7, 2), none, some (.if_icmp .ne 35, 3), none, none, some (.aload_n 0, 1)]]
def jv_c195_1 : List (List jv_I) := [[some (.iload 9, 2), none, some (.invokevirtual 98, 3), none, none, some (.bipush (-2), 2), none, some (.if_icmp .ne 24, 3), none, none, some (.aload_n 0, 1), some (.iload 4, 2), none, some (.invokevirtual 98, 3), none, none], [some (.iload_n 1, 1), some (.if_icmp .ne 14, 3), none, none, some (.aload_n 0, 1), some (.invokevirtual 144, 3), none, none, some (.ifCond .lt 7, 3), none, none, some (.iconst 1, 1), some (.goto 4, 3), none, none, some (.iconst 0, 1)], [some (.istore_n 3, 1), some (.iinc 4 1, 3), none, none, some (.goto (-220), 3), none, none, some (.iload_n 3, 1), some (.ifCond .eq 16, 3), none, none, some (.aload_n 0, 1), some (.iload_n 1, 1), some (.invokevirtual 153, 3), none, none], [some (.iload_n 2, 1), some (.if_icmp .ne 7, 3), none, none, some (.iconst 1, 1), some (.goto 4, 3), none, none, some (.iconst 0, 1), some (.ireturn, 1)]]
def jv_c195 : List (List jv_I) := jv_c195_0 ++ jv_c195_1
/-- L_rings -/
def jv_c196_0 : List (List jv_I) := [[some (.aload_n 0, 1), some (.iconst 3, 1), some (.invokevirtual 89, 3), none, none, some (.istore_n 1, 1), some (.iconst 0, 1), some (.istore_n 2, 1), some (.iconst 1, 1), some (.istore_n 3, 1), some (.iconst 0, 1), some (.istore 4, 2), none, some (.iload 4, 2), none, some (.iload_n 1, 1)], [some (.if_icmp .ge 334, 3), none, none, some (.iload_n 3, 1), some (.ifCond .eq 330, 3), none, none, some (.iload 4, 2), none, some (.iconst 1, 1), some (.iadd, 1), some (.istore 5, 2), none, some (.iload 5, 2), none, some (.iload_n 1, 1)], [some (.if_icmp .ge 312, 3), none, none, some (.iload_n 3, 1), some (.ifCond .eq 308, 3), none, none, some (.iload 4, 2), none, some (.iconst 1, 1), some (.iadd, 1), some (.istore 6, 2), none, some (.iload 6, 2), none, some (.iload_n 1, 1)], [some (.if_icmp .ge 290, 3), none, none, some (.iload_n 3, 1), some (.ifCond .eq 286, 3), none, none, some (.iload 5, 2), none, some (.iload 6, 2), none, some (.if_icmp .ne 6, 3), none, none, some (.goto 270, 3), none], [none, some (.iconst 3, 1), some (.newarray .int, 2), none, some (.dup, 1), some (.iconst 0, 1), some (.aload_n 0, 1), some (.iload 4, 2), none, some (.iconst 0, 1), some (.invokevirtual 94, 3), none, none, some (.iastore, 1), some (.dup, 1), some (.iconst 1, 1)], [some (.aload_n 0, 1), some (.iload 5, 2), none, some (.iconst 0, 1), some (.invokevirtual 94, 3), none, none, some (.iastore, 1), some (.dup, 1), some (.iconst 2, 1), some (.aload_n 0, 1), some (.iload 6, 2), none, some (.iconst 0, 1), some (.invokevirtual 94, 3), none], [none, some (.iastore, 1), some (.astore 7, 2), none, some (.iconst 3, 1), some (.newarray .int, 2), none, some (.dup, 1), some (.iconst 0, 1), some (.aload_n 0, 1), some (.iload 4, 2), none, some (.bipush 9, 2), none, some (.invokevirtual 94, 3), none], [none, some (.iastore, 1), some (.dup, 1), some (.iconst 1, 1), some (.aload_n 0, 1), some (.iload 5, 2), none, some (.bipush 9, 2), none, some (.invokevirtual 94, 3), none, none, some (.iastore, 1), some (.dup, 1), some (.iconst 2, 1), some (.aload_n 0, 1)], [some (.iload 6, 2), none, some (.bipush 9, 2), none, some (.invokevirtual 94, 3), none, none, some (.iastore, 1), some (.astore 8, 2), none, some (.aload_n 0, 1), some (.iload 4, 2), none, some (.iload 5, 2), none, some (.iload 6, 2)], [none, some (.invokevirtual 156, 3), none, none, some (.istore 9, 2), none, some (.iload 9, 2), none, some (.ifCond .ge 26, 3), none, none, some (.iload 9, 2), none, some (.bipush (-11), 2), none, some (.if_icmp .eq 10, 3)], [none, none, some (.iload 9, 2), none, some (.bipush (-16), 2), none, some (.if_icmp .ne 7, 3), none, none, some (.iconst 1, 1), some (.goto 4, 3), none, none, some (.iconst 0, 1), some (.istore_n 3, 1), some (.goto 157, 3)], [none, none, some (.iload 9, 2), none, some (.ifCond .le 6, 3), none, none, some (.iinc 2 1, 3), none, none, some (.aload_n 0, 1), some (.iload 4, 2), none, some (.iconst 0, 1), some (.invokevirtual 94, 3), none]]
def jv_c196_1 : List (List jv_I) := [[none, some (.aload 7, 2), none, some (.iconst 1, 1), some (.iaload, 1), some (.if_icmp .ne 133, 3), none, none, some (.aload_n 0, 1), some (.iload 5, 2), none, some (.iconst 0, 1), some (.invokevirtual 94, 3), none, none, some (.aload 7, 2)], [none, some (.iconst 2, 1), some (.iaload, 1), some (.if_icmp .ne 119, 3), none, none, some (.aload_n 0, 1), some (.iload 6, 2), none, some (.iconst 0, 1), some (.invokevirtual 94, 3), none, none, some (.aload 7, 2), none, some (.iconst 0, 1)], [some (.iaload, 1), some (.if_icmp .ne 105, 3), none, none, some (.aload_n 0, 1), some (.iload 4, 2), none, some (.bipush 9, 2), none, some (.invokevirtual 94, 3), none, none, some (.aload 8, 2), none, some (.iconst 0, 1), some (.iaload, 1)], [some (.if_icmp .lt 90, 3), none, none, some (.aload_n 0, 1), some (.iload 5, 2), none, some (.bipush 9, 2), none, some (.invokevirtual 94, 3), none, none, some (.aload 8, 2), none, some (.iconst 1, 1), some (.iaload, 1), some (.if_icmp .lt 75, 3)], [none, none, some (.aload_n 0, 1), some (.iload 6, 2), none, some (.bipush 9, 2), none, some (.invokevirtual 94, 3), none, none, some (.aload 8, 2), none, some (.iconst 2, 1), some (.iaload, 1), some (.if_icmp .lt 60, 3), none], [none, some (.iload 9, 2), none, some (.aload_n 0, 1), some (.iload 4, 2), none, some (.bipush 9, 2), none, some (.invokevirtual 94, 3), none, none, some (.aload_n 0, 1), some (.iload 5, 2), none, some (.bipush 9, 2), none], [some (.invokevirtual 94, 3), none, none, some (.iadd, 1), some (.aload_n 0, 1), some (.iload 6, 2), none, some (.bipush 9, 2), none, some (.invokevirtual 94, 3), none, none, some (.iadd, 1), some (.aload 8, 2), none, some (.iconst 0, 1)], [some (.iaload, 1), some (.isub, 1), some (.aload 8, 2), none, some (.iconst 1, 1), some (.iaload, 1), some (.isub, 1), some (.aload 8, 2), none, some (.iconst 2, 1), some (.iaload, 1), some (.isub, 1), some (.if_icmp .ne 14, 3), none, none, some (.aload_n 0, 1)], [some (.invokevirtual 144, 3), none, none, some (.ifCond .lt 7, 3), none, none, some (.iconst 1, 1), some (.goto 4, 3), none, none, some (.iconst 0, 1), some (.istore_n 3, 1), some (.iinc 6 1, 3), none, none, some (.goto (-290), 3)], [none, none, some (.iinc 5 1, 3), none, none, some (.goto (-312), 3), none, none, some (.iinc 4 1, 3), none, none, some (.goto (-334), 3), none, none, some (.iload_n 3, 1), some (.ifCond .eq 15, 3)], [none, none, some (.aload_n 0, 1), some (.invokevirtual 159, 3), none, none, some (.iload_n 2, 1), some (.if_icmp .ne 7, 3), none, none, some (.iconst 1, 1), some (.goto 4, 3), none, none, some (.iconst 0, 1), some (.ireturn, 1)]]
def jv_c196 : List (List jv_I) := jv_c196_0 ++ jv_c196_1
/-- L_settles -/
def jv_c197_0 : List (List jv_I) := [[some (.aload_n 0, 1), some (.invokestatic 162, 3), none, none, some (.lstore_n 1, 1), some (.aload_n 0, 1), some (.iconst 0, 1), some (.invokevirtual 168, 3), none, none, some (.istore_n 3, 1), some (.aload_n 0, 1), some (.iconst 1, 1), some (.invokevirtual 168, 3), none, none], [some (.istore 4, 2), none, some (.aload_n 0, 1), some (.iconst 2, 1), some (.invokevirtual 168, 3), none, none, some (.istore 5, 2), none, some (.aload_n 0, 1), some (.iconst 5, 1), some (.invokevirtual 89, 3), none, none, some (.istore 6, 2), none], [some (.aload_n 0, 1), some (.bipush 8, 2), none, some (.invokevirtual 89, 3), none, none, some (.istore 7, 2), none, some (.aload_n 0, 1), some (.invokevirtual 171, 3), none, none, some (.istore 8, 2), none, some (.iload_n 3, 1), some (.ifCond .ne 43, 3)], [none, none, some (.iload 8, 2), none, some (.bipush (-2), 2), none, some (.if_icmp .ne 34, 3), none, none, some (.iload 4, 2), none, some (.iload 6, 2), none, some (.if_icmp .ne 27, 3), none, none], [some (.iload 5, 2), none, some (.aload_n 0, 1), some (.bipush 6, 2), none, some (.invokevirtual 89, 3), none, none, some (.if_icmp .ne 16, 3), none, none, some (.aload_n 0, 1), some (.invokestatic 162, 3), none, none, some (.lload_n 1, 1)], [some (.lcmp, 1), some (.ifCond .ne 7, 3), none, none, some (.iconst 1, 1), some (.goto 4, 3), none, none, some (.iconst 0, 1), some (.ireturn, 1), some (.iload 8, 2), none, some (.iload_n 3, 1), some (.if_icmp .ne 71, 3), none, none], [some (.aload_n 0, 1), some (.iconst 5, 1), some (.invokevirtual 89, 3), none, none, some (.iload 4, 2), none, some (.if_icmp .ne 61, 3), none, none, some (.iload 4, 2), none, some (.iload 6, 2), none, some (.if_icmp .le 54, 3), none], [none, some (.aload_n 0, 1), some (.bipush 6, 2), none, some (.invokevirtual 89, 3), none, none, some (.iload 5, 2), none, some (.if_icmp .ne 43, 3), none, none, some (.aload_n 0, 1), some (.bipush 8, 2), none, some (.invokevirtual 89, 3)], [none, none, some (.iload 7, 2), none, some (.iload_n 3, 1), some (.iadd, 1), some (.if_icmp .ne 30, 3), none, none, some (.iload_n 3, 1), some (.bipush 99, 2), none, some (.if_icmp .eq 20, 3), none, none, some (.aload_n 0, 1)], [some (.iconst 0, 1), some (.invokevirtual 168, 3), none, none, some (.ifCond .ne 16, 3), none, none, some (.aload_n 0, 1), some (.invokevirtual 171, 3), none, none, some (.bipush (-2), 2), none, some (.if_icmp .ne 7, 3), none, none], [some (.iconst 1, 1), some (.goto 4, 3), none, none, some (.iconst 0, 1), some (.istore 9, 2), none, some (.iconst 0, 1), some (.istore 10, 2), none, some (.iload 10, 2), none, some (.aload_n 0, 1), some (.iconst 3, 1), some (.invokevirtual 89, 3), none], [none, some (.if_icmp .ge 83, 3), none, none, some (.iload_n 3, 1), some (.bipush 99, 2), none, some (.if_icmp .ge 77, 3), none, none, some (.iconst 0, 1), some (.istore 11, 2), none, some (.iload 11, 2), none, some (.aload_n 0, 1)]]
def jv_c197_1 : List (List jv_I) := [[some (.iconst 3, 1), some (.invokevirtual 89, 3), none, none, some (.if_icmp .ge 58, 3), none, none, some (.iload 10, 2), none, some (.iload 11, 2), none, some (.if_icmp .eq 45, 3), none, none, some (.aload_n 0, 1), some (.iload 10, 2)], [none, some (.iload 11, 2), none, some (.iconst 0, 1), some (.invokevirtual 131, 3), none, none, some (.ifCond .ne 33, 3), none, none, some (.iload 9, 2), none, some (.ifCond .eq 25, 3), none, none, some (.aload_n 0, 1)], [some (.iload 10, 2), none, some (.iload 11, 2), none, some (.iconst 2, 1), some (.invokevirtual 135, 3), none, none, some (.sipush 9000, 3), none, none, some (.iadd, 1), some (.iload 4, 2), none, some (.if_icmp .gt 7, 3), none], [none, some (.iconst 1, 1), some (.goto 4, 3), none, none, some (.iconst 0, 1), some (.istore 9, 2), none, some (.iinc 11 1, 3), none, none, some (.goto (-62), 3), none, none, some (.iinc 10 1, 3), none], [none, some (.goto (-87), 3), none, none, some (.iload 9, 2), none, some (.ifCond .eq 23, 3), none, none, some (.aload_n 0, 1), some (.invokevirtual 144, 3), none, none, some (.ifCond .lt 16, 3), none, none], [some (.aload_n 0, 1), some (.invokestatic 162, 3), none, none, some (.lload_n 1, 1), some (.lcmp, 1), some (.ifCond .ne 7, 3), none, none, some (.iconst 1, 1), some (.goto 4, 3), none, none, some (.iconst 0, 1), some (.ireturn, 1)]]
def jv_c197 : List (List jv_I) := jv_c197_0 ++ jv_c197_1
/-- L_stations -/
def jv_c198_0 : List (List jv_I) := [[some (.aload_n 0, 1), some (.invokestatic 162, 3), none, none, some (.lstore_n 2, 1), some (.iconst 1, 1), some (.iload_n 1, 1), some (.bipush 15, 2), none, some (.iand, 1), some (.iadd, 1), some (.istore 4, 2), none, some (.iconst 0, 1), some (.istore 5, 2), none], [some (.iconst 0, 1), some (.istore 6, 2), none, some (.iload 6, 2), none, some (.aload_n 0, 1), some (.iconst 3, 1), some (.invokevirtual 89, 3), none, none, some (.if_icmp .ge 47, 3), none, none, some (.aload_n 0, 1), some (.iload 6, 2), none], [some (.bipush 8, 2), none, some (.invokevirtual 94, 3), none, none, some (.aload_n 0, 1), some (.iconst 2, 1), some (.invokevirtual 89, 3), none, none, some (.if_icmp .le 25, 3), none, none, some (.aload_n 0, 1), some (.iload 6, 2), none], [some (.bipush 8, 2), none, some (.invokevirtual 94, 3), none, none, some (.aload_n 0, 1), some (.iconst 2, 1), some (.invokevirtual 89, 3), none, none, some (.iload 4, 2), none, some (.iadd, 1), some (.if_icmp .gt 6, 3), none, none], [some (.iinc 5 1, 3), none, none, some (.iinc 6 1, 3), none, none, some (.goto (-51), 3), none, none, some (.aload_n 0, 1), some (.iconst 3, 1), some (.invokevirtual 89, 3), none, none, some (.istore 6, 2), none], [some (.aload_n 0, 1), some (.bipush 12, 2), none, some (.invokevirtual 89, 3), none, none, some (.istore 7, 2), none, some (.aload_n 0, 1), some (.iconst 2, 1), some (.invokevirtual 89, 3), none, none, some (.istore 8, 2), none, some (.aload_n 0, 1)], [some (.iload 4, 2), none, some (.invokevirtual 174, 3), none, none, some (.iload 5, 2), none, some (.if_icmp .ne 47, 3), none, none, some (.aload_n 0, 1), some (.iconst 3, 1), some (.invokevirtual 89, 3), none, none, some (.iload 6, 2)], [none, some (.iload 5, 2), none, some (.isub, 1), some (.if_icmp .ne 34, 3), none, none, some (.aload_n 0, 1), some (.bipush 12, 2), none, some (.invokevirtual 89, 3), none, none, some (.iload 7, 2), none, some (.iload 5, 2)], [none, some (.iadd, 1), some (.if_icmp .ne 20, 3), none, none, some (.aload_n 0, 1), some (.iconst 2, 1), some (.invokevirtual 89, 3), none, none, some (.iload 8, 2), none, some (.iload 4, 2), none, some (.iadd, 1), some (.if_icmp .ne 7, 3)], [none, none, some (.iconst 1, 1), some (.goto 4, 3), none, none, some (.iconst 0, 1), some (.istore 9, 2), none, some (.iconst 0, 1), some (.istore 10, 2), none, some (.iload 10, 2), none, some (.aload_n 0, 1), some (.iconst 3, 1)], [some (.invokevirtual 89, 3), none, none, some (.if_icmp .ge 50, 3), none, none, some (.iload 9, 2), none, some (.ifCond .eq 36, 3), none, none, some (.aload_n 0, 1), some (.iload 10, 2), none, some (.bipush 8, 2), none], [some (.invokevirtual 94, 3), none, none, some (.iload 8, 2), none, some (.if_icmp .le 19, 3), none, none, some (.aload_n 0, 1), some (.iload 10, 2), none, some (.bipush 8, 2), none, some (.invokevirtual 94, 3), none, none]]
def jv_c198_1 : List (List jv_I) := [[some (.iload 8, 2), none, some (.iload 4, 2), none, some (.iadd, 1), some (.if_icmp .le 7, 3), none, none, some (.iconst 1, 1), some (.goto 4, 3), none, none, some (.iconst 0, 1), some (.istore 9, 2), none, some (.iinc 10 1, 3)], [none, none, some (.goto (-54), 3), none, none, some (.iload 9, 2), none, some (.ifCond .eq 14, 3), none, none, some (.aload_n 0, 1), some (.invokevirtual 144, 3), none, none, some (.ifCond .lt 7, 3), none], [none, some (.iconst 1, 1), some (.goto 4, 3), none, none, some (.iconst 0, 1), some (.istore 9, 2), none, some (.iconst 0, 1), some (.istore 10, 2), none, some (.iload 10, 2), none, some (.aload_n 0, 1), some (.iconst 0, 1), some (.invokevirtual 89, 3)], [none, none, some (.if_icmp .gt 134, 3), none, none, some (.iload 9, 2), none, some (.ifCond .eq 129, 3), none, none, some (.iconst 0, 1), some (.istore 11, 2), none, some (.iconst 0, 1), some (.istore 12, 2), none], [some (.iload 12, 2), none, some (.iload 6, 2), none, some (.if_icmp .ge 36, 3), none, none, some (.aload_n 0, 1), some (.iload 12, 2), none, some (.iconst 1, 1), some (.invokevirtual 94, 3), none, none, some (.ifCond .ne 20, 3), none], [none, some (.aload_n 0, 1), some (.iload 12, 2), none, some (.iconst 0, 1), some (.invokevirtual 94, 3), none, none, some (.iconst 4, 1), some (.idiv, 1), some (.iload 10, 2), none, some (.if_icmp .ge 6, 3), none, none, some (.iinc 11 1, 3)], [none, none, some (.iinc 12 1, 3), none, none, some (.goto (-37), 3), none, none, some (.aload_n 0, 1), some (.iconst 1, 1), some (.invokevirtual 89, 3), none, none, some (.istore 12, 2), none, some (.aload_n 0, 1)], [some (.iload 10, 2), none, some (.invokevirtual 177, 3), none, none, some (.istore 13, 2), none, some (.iload 13, 2), none, some (.iload 10, 2), none, some (.iload 12, 2), none, some (.if_icmp .ne 8, 3), none, none], [some (.bipush (-2), 2), none, some (.goto 15, 3), none, none, some (.iload 11, 2), none, some (.ifCond .le 8, 3), none, none, some (.bipush (-4), 2), none, some (.goto 5, 3), none, none, some (.iload 12, 2)], [none, some (.if_icmp .ne 30, 3), none, none, some (.iload 13, 2), none, some (.ifCond .lt 10, 3), none, none, some (.aload_n 0, 1), some (.invokevirtual 144, 3), none, none, some (.ifCond .lt 18, 3), none, none], [some (.aload_n 0, 1), some (.iload 10, 2), none, some (.invokevirtual 180, 3), none, none, some (.iload 11, 2), none, some (.if_icmp .ne 7, 3), none, none, some (.iconst 1, 1), some (.goto 4, 3), none, none, some (.iconst 0, 1)], [some (.istore 9, 2), none, some (.iinc 10 1, 3), none, none, some (.goto (-138), 3), none, none, some (.iload 9, 2), none, some (.ifCond .eq 16, 3), none, none, some (.aload_n 0, 1), some (.invokestatic 162, 3), none]]
def jv_c198_2 : List (List jv_I) := [[none, some (.lload_n 2, 1), some (.lcmp, 1), some (.ifCond .ne 7, 3), none, none, some (.iconst 1, 1), some (.goto 4, 3), none, none, some (.iconst 0, 1), some (.ireturn, 1)]]
def jv_c198 : List (List jv_I) := jv_c198_0 ++ jv_c198_1 ++ jv_c198_2
/-- L_does -/
def jv_c199_0 : List (List jv_I) := [[some (.aload_n 0, 1), some (.invokestatic 162, 3), none, none, some (.lstore_n 3, 1), some (.aload_n 0, 1), some (.iconst 3, 1), some (.invokevirtual 89, 3), none, none, some (.istore 5, 2), none, some (.iload 5, 2), none, some (.ifCond .ne 7, 3), none], [none, some (.iconst 0, 1), some (.goto 11, 3), none, none, some (.iload_n 2, 1), some (.sipush 255, 3), none, none, some (.iand, 1), some (.iload 5, 2), none, some (.irem, 1), some (.istore 6, 2), none, some (.iload 5, 2)], [none, some (.ifCond .ne 7, 3), none, none, some (.iconst 0, 1), some (.goto 13, 3), none, none, some (.iload_n 2, 1), some (.iconst 4, 1), some (.ishr, 1), some (.sipush 255, 3), none, none, some (.iand, 1), some (.iload 5, 2)], [none, some (.irem, 1), some (.istore 7, 2), none, some (.iload_n 2, 1), some (.iconst 2, 1), some (.ishr, 1), some (.sipush 255, 3), none, none, some (.iand, 1), some (.iconst 4, 1), some (.aload_n 0, 1), some (.iconst 0, 1), some (.invokevirtual 89, 3), none], [none, some (.imul, 1), some (.irem, 1), some (.istore 8, 2), none, some (.iload_n 1, 1), some (.bipush 15, 2), none, some (.iand, 1), some (.tableswitch 331 0 14 #[75, 75, 75, 132, 132, 157, 182, 210, 210, 230, 243, 271, 280, 294, 307], 75), none, none, none, none, none, none], [none, none, none, none, none, none, none, none, none, none, none, none, none, none, none, none], [none, none, none, none, none, none, none, none, none, none, none, none, none, none, none, none], [none, none, none, none, none, none, none, none, none, none, none, none, none, none, none, none], [none, none, none, none, none, none, none, none, none, none, none, none, none, none, none, none], [none, none, none, none, some (.aload_n 0, 1), some (.ldc 183, 2), none, some (.invokestatic 185, 3), none, none, some (.ifCond .ne 5, 3), none, none, some (.iconst 0, 1), some (.ireturn, 1), some (.aload_n 0, 1)], [some (.iload 8, 2), none, some (.iload_n 2, 1), some (.iconst 1, 1), some (.iand, 1), some (.iload_n 2, 1), some (.bipush 8, 2), none, some (.ishr, 1), some (.iconst 3, 1), some (.iand, 1), some (.iload_n 2, 1), some (.iconst 3, 1), some (.ishr, 1), some (.bipush 31, 2), none], [some (.iand, 1), some (.iconst 1, 1), some (.iload_n 2, 1), some (.iconst 5, 1), some (.ishr, 1), some (.bipush 31, 2), none, some (.iand, 1), some (.iadd, 1), some (.invokevirtual 189, 3), none, none, some (.istore 9, 2), none, some (.iload 9, 2), none]]
def jv_c199_1 : List (List jv_I) := [[some (.ifCond .ge 226, 3), none, none, some (.aload_n 0, 1), some (.iconst 3, 1), some (.invokevirtual 23, 3), none, none, some (.ifCond .eq 218, 3), none, none, some (.iconst 0, 1), some (.ireturn, 1), some (.aload_n 0, 1), some (.iload 6, 2), none], [some (.iconst 0, 1), some (.iload_n 2, 1), some (.iconst 3, 1), some (.ishr, 1), some (.sipush 255, 3), none, none, some (.iand, 1), some (.bipush 19, 2), none, some (.irem, 1), some (.bipush 9, 2), none, some (.isub, 1), some (.invokevirtual 192, 3), none], [none, some (.istore 9, 2), none, some (.goto 191, 3), none, none, some (.aload_n 0, 1), some (.iload 6, 2), none, some (.iconst 1, 1), some (.iload_n 2, 1), some (.iconst 3, 1), some (.ishr, 1), some (.sipush 255, 3), none, none], [some (.iand, 1), some (.bipush 19, 2), none, some (.irem, 1), some (.bipush 9, 2), none, some (.isub, 1), some (.invokevirtual 192, 3), none, none, some (.istore 9, 2), none, some (.goto 166, 3), none, none, some (.aload_n 0, 1)], [some (.iload 6, 2), none, some (.iconst 2, 1), some (.iload_n 2, 1), some (.iconst 3, 1), some (.ishr, 1), some (.sipush 255, 3), none, none, some (.iand, 1), some (.iconst 3, 1), some (.irem, 1), some (.iadd, 1), some (.iload_n 2, 1), some (.bipush 6, 2), none], [some (.ishr, 1), some (.iconst 3, 1), some (.iand, 1), some (.invokevirtual 192, 3), none, none, some (.istore 9, 2), none, some (.goto 138, 3), none, none, some (.aload_n 0, 1), some (.iload 6, 2), none, some (.iload 7, 2), none], [some (.iload_n 2, 1), some (.bipush 9, 2), none, some (.ishr, 1), some (.bipush 7, 2), none, some (.iand, 1), some (.invokevirtual 141, 3), none, none, some (.istore 9, 2), none, some (.goto 118, 3), none, none, some (.aload_n 0, 1)], [some (.iload 6, 2), none, some (.iload 8, 2), none, some (.invokevirtual 150, 3), none, none, some (.istore 9, 2), none, some (.goto 105, 3), none, none, some (.aload_n 0, 1), some (.iload 6, 2), none, some (.iload 7, 2)], [none, some (.iload_n 2, 1), some (.bipush 8, 2), none, some (.ishr, 1), some (.sipush 255, 3), none, none, some (.iand, 1), some (.iconst 1, 1), some (.iload 5, 2), none, some (.invokestatic 195, 3), none, none, some (.irem, 1)], [some (.invokevirtual 156, 3), none, none, some (.istore 9, 2), none, some (.goto 77, 3), none, none, some (.aload_n 0, 1), some (.invokevirtual 171, 3), none, none, some (.istore 9, 2), none, some (.goto 68, 3), none], [none, some (.aload_n 0, 1), some (.iconst 1, 1), some (.iload_n 2, 1), some (.iconst 3, 1), some (.iand, 1), some (.iadd, 1), some (.invokevirtual 174, 3), none, none, some (.istore 9, 2), none, some (.goto 54, 3), none, none, some (.aload_n 0, 1)], [some (.iload_n 2, 1), some (.bipush 7, 2), none, some (.iand, 1), some (.invokevirtual 177, 3), none, none, some (.istore 9, 2), none, some (.goto 41, 3), none, none, some (.iload_n 2, 1), some (.iconst 1, 1), some (.iand, 1), some (.ifCond .ne 11, 3)]]
def jv_c199_2 : List (List jv_I) := [[none, none, some (.aload_n 0, 1), some (.iconst 1, 1), some (.invokevirtual 198, 3), none, none, some (.goto 8, 3), none, none, some (.aload_n 0, 1), some (.iconst 1, 1), some (.invokevirtual 201, 3), none, none, some (.istore 9, 2)], [none, some (.goto 17, 3), none, none, some (.aload_n 0, 1), some (.invokevirtual 144, 3), none, none, some (.iconst (-1), 1), some (.if_icmp .lt 7, 3), none, none, some (.iconst 1, 1), some (.goto 4, 3), none, none], [some (.iconst 0, 1), some (.ireturn, 1), some (.iload 9, 2), none, some (.ifCond .ge 12, 3), none, none, some (.aload_n 0, 1), some (.invokestatic 162, 3), none, none, some (.lload_n 3, 1), some (.lcmp, 1), some (.ifCond .ne 7, 3), none, none], [some (.iconst 1, 1), some (.goto 4, 3), none, none, some (.iconst 0, 1), some (.ireturn, 1)]]
def jv_c199 : List (List jv_I) := jv_c199_0 ++ jv_c199_1 ++ jv_c199_2
/-- J9_floorMod_7cf53 -/
def jv_c269 : List (List jv_I) := [[some (.iload_n 0, 1), some (.iload_n 1, 1), some (.irem, 1), some (.istore_n 2, 1), some (.iload_n 0, 1), some (.iload_n 1, 1), some (.ixor, 1), some (.ifCond .ge 11, 3), none, none, some (.iload_n 2, 1), some (.ifCond .eq 7, 3), none, none, some (.iload_n 2, 1), some (.iload_n 1, 1)], [some (.iadd, 1), some (.ireturn, 1), some (.iload_n 2, 1), some (.ireturn, 1)]]
/-- J9_abs_0f7a4 -/
def jv_c270 : List (List jv_I) := [[some (.iload_n 0, 1), some (.ifCond .ge 8, 3), none, none, some (.iload_n 0, 1), some (.ineg, 1), some (.goto 4, 3), none, none, some (.iload_n 0, 1), some (.ireturn, 1)]]
/-- L_law -/
def jv_c271_0 : List (List jv_I) := [[some (.bipush 6, 2), none, some (.newarray .int, 2), none, some (.astore_n 1, 1), some (.iconst 0, 1), some (.istore_n 2, 1), some (.iload_n 2, 1), some (.bipush 6, 2), none, some (.if_icmp .ge 24, 3), none, none, some (.iload_n 2, 1), some (.aload_n 0, 1), some (.arraylength, 1)], [some (.if_icmp .ge 18, 3), none, none, some (.aload_n 1, 1), some (.iload_n 2, 1), some (.aload_n 0, 1), some (.iload_n 2, 1), some (.iaload, 1), some (.ldc 204, 2), none, some (.iand, 1), some (.iastore, 1), some (.iinc 2 1, 3), none, none, some (.goto (-24), 3)], [none, none, some (.new 18, 3), none, none, some (.dup, 1), some (.invokespecial 205, 3), none, none, some (.astore_n 2, 1), some (.aload_n 2, 1), some (.invokevirtual 144, 3), none, none, some (.iconst (-1), 1), some (.if_icmp .ne 69, 3)], [none, none, some (.aload_n 2, 1), some (.iconst 0, 1), some (.invokevirtual 89, 3), none, none, some (.iconst 4, 1), some (.if_icmp .ne 60, 3), none, none, some (.aload_n 2, 1), some (.iconst 1, 1), some (.invokevirtual 89, 3), none, none], [some (.iconst 1, 1), some (.if_icmp .ne 51, 3), none, none, some (.aload_n 2, 1), some (.iconst 4, 1), some (.invokevirtual 89, 3), none, none, some (.bipush 16, 2), none, some (.if_icmp .ne 41, 3), none, none, some (.aload_n 2, 1), some (.iconst 5, 1)], [some (.invokevirtual 89, 3), none, none, some (.sipush 10000, 3), none, none, some (.if_icmp .ne 30, 3), none, none, some (.aload_n 2, 1), some (.invokevirtual 171, 3), none, none, some (.bipush (-2), 2), none, some (.if_icmp .ne 21, 3)], [none, none, some (.aload_n 2, 1), some (.invokevirtual 159, 3), none, none, some (.ifCond .ne 14, 3), none, none, some (.aload_n 2, 1), some (.invokestatic 206, 3), none, none, some (.ifCond .eq 7, 3), none, none], [some (.iconst 1, 1), some (.goto 4, 3), none, none, some (.iconst 0, 1), some (.istore_n 3, 1), some (.iconst 0, 1), some (.istore 4, 2), none, some (.iload 4, 2), none, some (.iconst 1, 1), some (.iadd, 1), some (.bipush 6, 2), none, some (.if_icmp .ge 470, 3)], [none, none, some (.iload_n 3, 1), some (.ifCond .eq 466, 3), none, none, some (.iload 4, 2), none, some (.iconst 2, 1), some (.if_icmp .eq 53, 3), none, none, some (.aload_n 2, 1), some (.aload_n 1, 1), some (.iload 4, 2), none], [some (.iaload, 1), some (.aload_n 1, 1), some (.iload 4, 2), none, some (.iconst 1, 1), some (.iadd, 1), some (.iaload, 1), some (.invokestatic 210, 3), none, none, some (.invokestatic 185, 3), none, none, some (.ifCond .eq 31, 3), none, none], [some (.aload_n 2, 1), some (.invokevirtual 214, 3), none, none, some (.ifCond .lt 24, 3), none, none, some (.aload_n 2, 1), some (.invokevirtual 217, 3), none, none, some (.bipush (-2), 2), none, some (.if_icmp .ne 15, 3), none, none], [some (.aload_n 2, 1), some (.invokevirtual 144, 3), none, none, some (.iconst (-1), 1), some (.if_icmp .ne 7, 3), none, none, some (.iconst 1, 1), some (.goto 4, 3), none, none, some (.iconst 0, 1), some (.istore_n 3, 1), some (.iconst 0, 1), some (.istore 5, 2)]]
def jv_c271_1 : List (List jv_I) := [[none, some (.iload 5, 2), none, some (.bipush 6, 2), none, some (.if_icmp .ge 38, 3), none, none, some (.iload_n 3, 1), some (.ifCond .eq 34, 3), none, none, some (.aload_n 2, 1), some (.aload_n 1, 1), some (.iload 4, 2), none], [some (.iaload, 1), some (.iconst 3, 1), some (.iload 5, 2), none, some (.imul, 1), some (.ishr, 1), some (.aload_n 1, 1), some (.iload 4, 2), none, some (.iconst 1, 1), some (.iadd, 1), some (.iaload, 1), some (.iconst 2, 1), some (.iload 5, 2), none, some (.imul, 1)], [some (.ishr, 1), some (.invokestatic 220, 3), none, none, some (.istore_n 3, 1), some (.iinc 5 1, 3), none, none, some (.goto (-39), 3), none, none, some (.iload_n 3, 1), some (.ifCond .eq 10, 3), none, none, some (.aload_n 2, 1)], [some (.invokestatic 162, 3), none, none, some (.goto 4, 3), none, none, some (.lconst 0, 1), some (.lstore 5, 2), none, some (.iload_n 3, 1), some (.ifCond .eq 24, 3), none, none, some (.aload_n 2, 1), some (.invokestatic 206, 3), none], [none, some (.ifCond .eq 17, 3), none, none, some (.aload_n 2, 1), some (.invokestatic 162, 3), none, none, some (.lload 5, 2), none, some (.lcmp, 1), some (.ifCond .ne 7, 3), none, none, some (.iconst 1, 1), some (.goto 4, 3)], [none, none, some (.iconst 0, 1), some (.istore_n 3, 1), some (.iload_n 3, 1), some (.ifCond .eq 11, 3), none, none, some (.aload_n 2, 1), some (.iconst 3, 1), some (.invokevirtual 89, 3), none, none, some (.goto 4, 3), none, none], [some (.iconst 0, 1), some (.istore 7, 2), none, some (.aload_n 1, 1), some (.iload 4, 2), none, some (.iaload, 1), some (.sipush 255, 3), none, none, some (.iand, 1), some (.iconst 3, 1), some (.irem, 1), some (.istore 8, 2), none, some (.iload 8, 2)], [none, some (.iload 7, 2), none, some (.if_icmp .ge 46, 3), none, none, some (.iload_n 3, 1), some (.ifCond .eq 42, 3), none, none, some (.aload_n 2, 1), some (.iload 8, 2), none, some (.aload_n 1, 1), some (.iload 4, 2), none], [some (.iconst 1, 1), some (.iadd, 1), some (.iaload, 1), some (.iload 8, 2), none, some (.ishr, 1), some (.invokestatic 224, 3), none, none, some (.ifCond .eq 16, 3), none, none, some (.aload_n 2, 1), some (.iload 8, 2), none, some (.invokestatic 227, 3)], [none, none, some (.ifCond .eq 7, 3), none, none, some (.iconst 1, 1), some (.goto 4, 3), none, none, some (.iconst 0, 1), some (.istore_n 3, 1), some (.iinc 8 3, 3), none, none, some (.goto (-47), 3), none], [none, some (.iload_n 3, 1), some (.ifCond .eq 61, 3), none, none, some (.aload_n 2, 1), some (.invokestatic 162, 3), none, none, some (.lload 5, 2), none, some (.lcmp, 1), some (.ifCond .ne 51, 3), none, none, some (.iload 7, 2)], [none, some (.bipush 9, 2), none, some (.if_icmp .gt 10, 3), none, none, some (.aload_n 2, 1), some (.invokestatic 231, 3), none, none, some (.ifCond .eq 37, 3), none, none, some (.aload_n 2, 1), some (.invokestatic 162, 3), none]]
def jv_c271_2 : List (List jv_I) := [[none, some (.lload 5, 2), none, some (.lcmp, 1), some (.ifCond .ne 27, 3), none, none, some (.aload_n 2, 1), some (.invokestatic 233, 3), none, none, some (.ifCond .eq 20, 3), none, none, some (.aload_n 2, 1), some (.aload_n 1, 1)], [some (.iload 4, 2), none, some (.iconst 1, 1), some (.iadd, 1), some (.iaload, 1), some (.invokestatic 236, 3), none, none, some (.ifCond .eq 7, 3), none, none, some (.iconst 1, 1), some (.goto 4, 3), none, none, some (.iconst 0, 1)], [some (.istore_n 3, 1), some (.iload 4, 2), none, some (.iconst 4, 1), some (.if_icmp .lt 171, 3), none, none, some (.iload_n 3, 1), some (.ifCond .ne 6, 3), none, none, some (.goto 164, 3), none, none, some (.aload_n 2, 1), some (.invokestatic 239, 3)], [none, none, some (.astore 8, 2), none, some (.aload 8, 2), none, some (.invokevirtual 7, 3), none, none, some (.sipush 990, 3), none, none, some (.if_icmp .le 6, 3), none, none, some (.goto 144, 3)], [none, none, some (.iconst 0, 1), some (.istore 9, 2), none, some (.iconst 0, 1), some (.istore 10, 2), none, some (.iload 10, 2), none, some (.iload 7, 2), none, some (.if_icmp .ge 34, 3), none, none, some (.iload 9, 2)], [none, some (.ifCond .ne 16, 3), none, none, some (.aload_n 2, 1), some (.iload 10, 2), none, some (.bipush 7, 2), none, some (.invokevirtual 94, 3), none, none, some (.bipush 99, 2), none, some (.if_icmp .le 7, 3), none], [none, some (.iconst 1, 1), some (.goto 4, 3), none, none, some (.iconst 0, 1), some (.istore 9, 2), none, some (.iinc 10 1, 3), none, none, some (.goto (-35), 3), none, none, some (.new 18, 3), none], [none, some (.dup, 1), some (.invokespecial 205, 3), none, none, some (.astore 10, 2), none, some (.iload 9, 2), none, some (.ifCond .ne 86, 3), none, none, some (.aload 10, 2), none, some (.aload 8, 2), none], [some (.invokestatic 185, 3), none, none, some (.ifCond .eq 74, 3), none, none, some (.aload 10, 2), none, some (.invokevirtual 214, 3), none, none, some (.iload 7, 2), none, some (.if_icmp .ne 64, 3), none, none], [some (.aload 10, 2), none, some (.invokevirtual 79, 3), none, none, some (.aload 8, 2), none, some (.invokevirtual 7, 3), none, none, some (.if_icmp .ne 51, 3), none, none, some (.aload 10, 2), none, some (.iconst 5, 1)], [some (.invokevirtual 89, 3), none, none, some (.aload_n 2, 1), some (.iconst 5, 1), some (.invokevirtual 89, 3), none, none, some (.if_icmp .ne 37, 3), none, none, some (.aload 10, 2), none, some (.bipush 7, 2), none, some (.invokevirtual 89, 3)], [none, none, some (.aload_n 2, 1), some (.bipush 7, 2), none, some (.invokevirtual 89, 3), none, none, some (.if_icmp .ne 21, 3), none, none, some (.aload 10, 2), none, some (.iconst 1, 1), some (.invokevirtual 89, 3), none]]
def jv_c271_3 : List (List jv_I) := [[none, some (.aload_n 2, 1), some (.iconst 1, 1), some (.invokevirtual 89, 3), none, none, some (.if_icmp .ne 7, 3), none, none, some (.iconst 1, 1), some (.goto 4, 3), none, none, some (.iconst 0, 1), some (.istore_n 3, 1), some (.iinc 4 2, 3)], [none, none, some (.goto (-473), 3), none, none, some (.iload_n 3, 1), some (.ireturn, 1)]]
def jv_c271 : List (List jv_I) := jv_c271_0 ++ jv_c271_1 ++ jv_c271_2 ++ jv_c271_3
def jv_prog : List (List (List (List jv_I))) := [[jv_c0, jv_c1, jv_c2, jv_c3, jv_c4, jv_c5, jv_c0, jv_c7, jv_c8, jv_c9, jv_c10, jv_c11, jv_c12, jv_c13, jv_c14, jv_c15], [jv_c16, jv_c17, jv_c18, jv_c19, jv_c20, jv_c21, jv_c22, jv_c23, jv_c24, jv_c25, jv_c26, jv_c27, jv_c28, jv_c29, jv_c30, jv_c31], [jv_c32, jv_c33, jv_c34, jv_c35, jv_c36, jv_c37, jv_c38, jv_c39, jv_c40, jv_c41, jv_c42, jv_c43, jv_c44, jv_c45, jv_c46, jv_c47], [jv_c48, jv_c49, jv_c50, jv_c51, jv_c52, jv_c53, jv_c54, jv_c55, jv_c56, jv_c57, jv_c58, jv_c59, jv_c60, jv_c61, jv_c62, jv_c63], [jv_c64, jv_c65, jv_c66, jv_c67, jv_c68, jv_c69, jv_c70, jv_c71, jv_c72, jv_c73, jv_c74, jv_c75, jv_c76, jv_c77, jv_c78, jv_c79], [jv_c80, jv_c81, jv_c82, jv_c83, jv_c84, jv_c85, jv_c86, jv_c87, jv_c88, jv_c89, jv_c90, jv_c91, jv_c92, jv_c93, jv_c94, jv_c95], [jv_c96, jv_c97, jv_c98, jv_c0, jv_c0, jv_c101, jv_c102, jv_c103, jv_c104, jv_c105, jv_c106, jv_c107, jv_c108, jv_c109, jv_c110, jv_c111], [jv_c112, jv_c113, jv_c114, jv_c115, jv_c116, jv_c117, jv_c118, jv_c119, jv_c120, jv_c121, jv_c122, jv_c123, jv_c124, jv_c0, jv_c126, jv_c127], [jv_c128, jv_c129, jv_c130, jv_c131, jv_c132, jv_c133, jv_c134, jv_c135, jv_c136, jv_c137, jv_c138, jv_c139, jv_c0, jv_c141, jv_c142, jv_c0], [jv_c0, jv_c145, jv_c146, jv_c147, jv_c148, jv_c149, jv_c150, jv_c151, jv_c152, jv_c153, jv_c154, jv_c155, jv_c156, jv_c157, jv_c158, jv_c159], [jv_c160, jv_c161, jv_c162, jv_c163, jv_c164, jv_c165, jv_c166, jv_c167, jv_c168, jv_c169, jv_c170, jv_c171, jv_c172, jv_c173, jv_c174, jv_c175], [jv_c176, jv_c177, jv_c178, jv_c179, jv_c180, jv_c181, jv_c182, jv_c183, jv_c184, jv_c185, jv_c186, jv_c187, jv_c188, jv_c189, jv_c190, jv_c191], [jv_c192, jv_c193, jv_c194, jv_c195, jv_c196, jv_c197, jv_c198, jv_c199, jv_c0, jv_c0, jv_c0, jv_c0, jv_c0, jv_c0, jv_c0, jv_c0], [jv_c0, jv_c0, jv_c0, jv_c0, jv_c0, jv_c0, jv_c0, jv_c0, jv_c0, jv_c0, jv_c0, jv_c0, jv_c0, jv_c0, jv_c0, jv_c0], [jv_c0, jv_c0, jv_c0, jv_c0, jv_c0, jv_c0, jv_c0, jv_c0, jv_c0, jv_c0, jv_c0, jv_c0, jv_c0, jv_c0, jv_c0, jv_c0], [jv_c0, jv_c0, jv_c0, jv_c0, jv_c0, jv_c0, jv_c0, jv_c0, jv_c0, jv_c0, jv_c0, jv_c0, jv_c0, jv_c0, jv_c0, jv_c0], [jv_c0, jv_c0, jv_c0, jv_c0, jv_c0, jv_c0, jv_c0, jv_c0, jv_c0, jv_c0, jv_c0, jv_c0, jv_c0, jv_c269, jv_c270, jv_c271]]
def jv_code (y pc : Nat) : jv_I := match jv_nth jv_prog (y / 16) with
  | none => none
  | some a => match jv_nth a (y % 16) with
    | none => none
    | some b => match jv_nth b (pc / 16) with
      | none => none
      | some c => match jv_nth c (pc % 16) with
        | none => none
        | some d => d
/-- a method: its class, kind (0 static, 1 virtual, 2 constructor), words of arguments, locals, frames below, words below -/
def jv_i0 : List (Nat × Nat × Nat × Nat × Nat × Nat) := [(0, 2, 1, 1, 1, 20), (0, 1, 1, 1, 0, 0), (0, 1, 2, 3, 0, 0), (0, 1, 3, 3, 1, 22), (0, 1, 3, 3, 0, 0), (0, 1, 4, 4, 2, 44), (0, 2, 1, 1, 1, 20), (1, 2, 1, 2, 3, 61), (1, 1, 1, 1, 0, 0), (1, 1, 2, 2, 1, 22), (1, 1, 2, 2, 2, 44), (1, 1, 2, 2, 2, 44), (2, 2, 1, 1, 2, 40), (2, 0, 1, 1, 0, 0), (2, 1, 1, 1, 2, 42), (2, 1, 1, 2, 1, 21)]
def jv_i1 : List (Nat × Nat × Nat × Nat × Nat × Nat) := [(2, 1, 2, 2, 1, 21), (2, 1, 2, 3, 8, 162), (2, 1, 1, 1, 9, 184), (2, 1, 1, 1, 10, 204), (2, 1, 1, 3, 1, 21), (2, 1, 1, 3, 1, 21), (2, 1, 2, 2, 2, 42), (2, 1, 2, 2, 9, 184), (2, 1, 2, 3, 9, 184), (2, 1, 3, 4, 3, 63), (2, 1, 1, 3, 4, 86), (2, 1, 2, 2, 4, 86), (2, 1, 1, 2, 11, 224), (2, 1, 1, 1, 11, 224), (2, 1, 1, 1, 3, 62), (2, 1, 2, 3, 13, 266)]
def jv_i2 : List (Nat × Nat × Nat × Nat × Nat × Nat) := [(2, 1, 2, 2, 12, 245), (3, 2, 1, 1, 1, 20), (3, 1, 3, 4, 11, 229), (3, 1, 2, 3, 10, 207), (3, 1, 4, 4, 9, 184), (3, 1, 3, 3, 9, 184), (3, 1, 2, 4, 1, 21), (3, 1, 2, 3, 8, 162), (3, 1, 2, 2, 0, 0), (4, 2, 1, 1, 1, 20), (4, 1, 1, 1, 0, 0), (4, 1, 2, 3, 1, 21), (4, 1, 2, 2, 0, 0), (4, 1, 2, 2, 0, 0), (5, 2, 1, 2, 2, 40), (5, 1, 1, 2, 1, 20)]
def jv_i3 : List (Nat × Nat × Nat × Nat × Nat × Nat) := [(5, 1, 2, 3, 1, 22), (5, 1, 2, 2, 0, 0), (5, 1, 1, 1, 0, 0), (5, 1, 1, 1, 0, 0), (5, 1, 2, 2, 1, 22), (5, 1, 2, 2, 1, 22), (5, 1, 3, 3, 1, 22), (5, 1, 2, 3, 1, 21), (5, 1, 2, 2, 2, 43), (5, 1, 3, 3, 0, 0), (5, 1, 3, 3, 1, 22), (5, 1, 2, 5, 1, 21), (5, 1, 3, 4, 0, 0), (5, 1, 3, 4, 0, 0), (5, 1, 2, 2, 1, 23), (5, 1, 2, 4, 3, 67)]
def jv_i4 : List (Nat × Nat × Nat × Nat × Nat × Nat) := [(5, 1, 1, 2, 4, 90), (5, 1, 3, 7, 2, 46), (5, 1, 2, 2, 3, 72), (5, 1, 3, 4, 1, 23), (5, 0, 1, 1, 0, 0), (5, 1, 1, 3, 4, 93), (5, 1, 1, 3, 4, 93), (5, 1, 2, 6, 4, 93), (5, 1, 2, 3, 5, 118), (5, 1, 3, 3, 1, 21), (5, 1, 2, 4, 2, 43), (5, 1, 2, 4, 4, 93), (5, 1, 2, 4, 4, 93), (5, 1, 2, 6, 1, 23), (5, 1, 2, 4, 1, 23), (5, 1, 2, 4, 1, 23)]
def jv_i5 : List (Nat × Nat × Nat × Nat × Nat × Nat) := [(5, 1, 2, 4, 4, 93), (5, 1, 1, 3, 2, 46), (5, 1, 1, 3, 1, 21), (5, 1, 3, 4, 1, 23), (5, 1, 3, 4, 2, 46), (5, 1, 4, 5, 2, 46), (5, 1, 3, 5, 4, 93), (5, 1, 3, 4, 5, 115), (5, 1, 4, 8, 4, 93), (5, 1, 4, 4, 3, 69), (5, 1, 3, 3, 4, 93), (5, 1, 3, 4, 3, 67), (5, 1, 4, 8, 4, 93), (5, 1, 4, 6, 4, 93), (5, 1, 4, 4, 3, 70), (5, 1, 1, 5, 5, 120)]
def jv_i6 : List (Nat × Nat × Nat × Nat × Nat × Nat) := [(5, 1, 2, 6, 5, 115), (5, 1, 2, 6, 5, 120), (5, 1, 1, 7, 5, 120), (0, 2, 1, 1, 1, 20), (0, 2, 1, 1, 1, 20), (6, 2, 1, 1, 1, 20), (6, 1, 1, 1, 0, 0), (6, 1, 2, 2, 0, 0), (6, 1, 2, 2, 0, 0), (6, 1, 3, 3, 0, 0), (6, 1, 2, 2, 0, 0), (7, 2, 1, 2, 4, 82), (7, 1, 6, 6, 2, 43), (7, 1, 2, 2, 1, 22), (7, 1, 1, 3, 14, 288), (7, 1, 1, 1, 0, 0)]
def jv_i7 : List (Nat × Nat × Nat × Nat × Nat × Nat) := [(7, 1, 6, 7, 12, 244), (7, 1, 4, 7, 3, 67), (7, 1, 2, 3, 3, 67), (7, 1, 4, 6, 5, 120), (7, 1, 3, 5, 5, 115), (7, 1, 4, 6, 5, 120), (7, 1, 1, 3, 7, 167), (7, 1, 2, 4, 5, 111), (7, 1, 2, 2, 2, 44), (7, 1, 2, 2, 3, 65), (7, 1, 1, 1, 3, 65), (7, 1, 2, 2, 5, 115), (7, 1, 3, 4, 5, 118), (0, 2, 1, 1, 1, 20), (7, 1, 2, 2, 2, 43), (7, 1, 3, 3, 5, 116)]
def jv_i8 : List (Nat × Nat × Nat × Nat × Nat × Nat) := [(7, 1, 3, 3, 5, 116), (7, 1, 2, 2, 6, 140), (7, 1, 4, 4, 5, 120), (7, 1, 3, 3, 5, 115), (7, 1, 3, 3, 3, 72), (7, 1, 4, 4, 6, 138), (7, 1, 3, 4, 5, 120), (7, 1, 2, 2, 6, 140), (7, 1, 2, 2, 6, 145), (7, 1, 1, 1, 6, 144), (7, 1, 2, 3, 7, 167), (7, 1, 2, 2, 2, 45), (0, 2, 1, 1, 1, 20), (7, 1, 1, 2, 1, 20), (7, 1, 1, 1, 5, 115), (0, 2, 1, 1, 1, 20)]
def jv_i9 : List (Nat × Nat × Nat × Nat × Nat × Nat) := [(0, 2, 1, 1, 1, 20), (7, 1, 1, 1, 12, 252), (7, 1, 2, 2, 12, 252), (7, 0, 3, 3, 0, 0), (7, 0, 1, 1, 0, 0), (7, 1, 3, 3, 2, 43), (7, 1, 1, 2, 6, 146), (8, 2, 2, 2, 9, 190), (8, 1, 1, 1, 1, 20), (8, 1, 2, 2, 7, 141), (8, 1, 4, 4, 6, 120), (8, 2, 3, 5, 8, 166), (8, 1, 1, 1, 0, 0), (8, 1, 1, 1, 0, 0), (9, 2, 1, 1, 2, 41), (9, 2, 2, 2, 12, 253)]
def jv_i10 : List (Nat × Nat × Nat × Nat × Nat × Nat) := [(9, 1, 2, 2, 9, 187), (9, 1, 2, 2, 9, 185), (9, 1, 2, 2, 9, 187), (9, 1, 1, 1, 10, 211), (9, 5, 2, 2, 10, 208), (9, 5, 1, 1, 1, 20), (11, 2, 2, 2, 1, 20), (11, 2, 2, 5, 11, 229), (11, 1, 2, 3, 7, 142), (11, 1, 2, 6, 2, 44), (11, 3, 2, 3, 8, 165), (11, 3, 2, 2, 8, 164), (11, 3, 2, 4, 8, 164), (11, 1, 1, 1, 0, 0), (11, 1, 2, 2, 1, 20), (11, 1, 3, 3, 7, 143)]
def jv_i11 : List (Nat × Nat × Nat × Nat × Nat × Nat) := [(11, 1, 1, 1, 0, 0), (11, 3, 1, 1, 0, 0), (12, 0, 3, 7, 0, 0), (12, 0, 1, 4, 0, 0), (13, 0, 2, 2, 0, 0), (13, 0, 2, 2, 0, 0), (14, 0, 2, 2, 6, 120), (14, 0, 1, 1, 0, 0), (15, 0, 2, 3, 6, 120), (15, 0, 3, 3, 7, 144), (15, 0, 3, 5, 6, 120), (15, 0, 2, 2, 0, 0), (16, 0, 3, 4, 1, 21), (10, 0, 2, 6, 8, 162), (10, 0, 2, 9, 13, 274), (10, 0, 1, 4, 13, 273)]
def jv_i12 : List (Nat × Nat × Nat × Nat × Nat × Nat) := [(10, 0, 1, 5, 6, 141), (10, 0, 1, 19, 7, 161), (10, 0, 3, 16, 7, 166), (10, 0, 2, 11, 7, 161), (10, 0, 1, 10, 7, 164), (10, 0, 1, 12, 8, 189), (10, 0, 2, 14, 7, 165), (10, 0, 3, 10, 13, 270), (0, 2, 1, 1, 1, 20), (0, 2, 1, 1, 1, 20), (0, 2, 1, 1, 1, 20), (0, 2, 1, 1, 1, 20), (0, 2, 1, 1, 1, 20), (0, 2, 1, 1, 1, 20), (0, 2, 1, 1, 1, 20), (0, 2, 1, 1, 1, 20)]
def jv_i13 : List (Nat × Nat × Nat × Nat × Nat × Nat) := [(0, 2, 1, 1, 1, 20), (0, 2, 1, 1, 1, 20), (0, 2, 1, 1, 1, 20), (0, 2, 1, 1, 1, 20), (0, 2, 1, 1, 1, 20), (0, 2, 1, 1, 1, 20), (0, 2, 1, 1, 1, 20), (0, 2, 1, 1, 1, 20), (0, 2, 1, 1, 1, 20), (0, 2, 1, 1, 1, 20), (0, 2, 1, 1, 1, 20), (0, 2, 1, 1, 1, 20), (0, 2, 1, 1, 1, 20), (0, 2, 1, 1, 1, 20), (0, 2, 1, 1, 1, 20), (0, 2, 1, 1, 1, 20)]
def jv_i14 : List (Nat × Nat × Nat × Nat × Nat × Nat) := [(0, 2, 1, 1, 1, 20), (0, 2, 1, 1, 1, 20), (0, 2, 1, 1, 1, 20), (0, 2, 1, 1, 1, 20), (0, 2, 1, 1, 1, 20), (0, 2, 1, 1, 1, 20), (0, 2, 1, 1, 1, 20), (0, 2, 1, 1, 1, 20), (0, 2, 1, 1, 1, 20), (0, 2, 1, 1, 1, 20), (0, 2, 1, 1, 1, 20), (0, 2, 1, 1, 1, 20), (0, 2, 1, 1, 1, 20), (0, 2, 1, 1, 1, 20), (0, 2, 1, 1, 1, 20), (0, 2, 1, 1, 1, 20)]
def jv_i15 : List (Nat × Nat × Nat × Nat × Nat × Nat) := [(0, 2, 1, 1, 1, 20), (0, 2, 1, 1, 1, 20), (0, 2, 1, 1, 1, 20), (0, 2, 1, 1, 1, 20), (0, 2, 1, 1, 1, 20), (0, 2, 1, 1, 1, 20), (0, 2, 1, 1, 1, 20), (0, 2, 1, 1, 1, 20), (0, 2, 1, 1, 1, 20), (0, 2, 1, 1, 1, 20), (0, 2, 1, 1, 1, 20), (0, 2, 1, 1, 1, 20), (0, 2, 1, 1, 1, 20), (0, 2, 1, 1, 1, 20), (0, 2, 1, 1, 1, 20), (0, 2, 1, 1, 1, 20)]
def jv_i16 : List (Nat × Nat × Nat × Nat × Nat × Nat) := [(0, 2, 1, 1, 1, 20), (0, 2, 1, 1, 1, 20), (0, 2, 1, 1, 1, 20), (0, 2, 1, 1, 1, 20), (0, 2, 1, 1, 1, 20), (0, 2, 1, 1, 1, 20), (0, 2, 1, 1, 1, 20), (0, 2, 1, 1, 1, 20), (0, 2, 1, 1, 1, 20), (0, 2, 1, 1, 1, 20), (0, 2, 1, 1, 1, 20), (0, 2, 1, 1, 1, 20), (0, 2, 1, 1, 1, 20), (13, 0, 2, 3, 0, 0), (13, 0, 1, 1, 0, 0), (10, 0, 1, 11, 15, 310)]
def jv_infs : List (List (Nat × Nat × Nat × Nat × Nat × Nat)) := [jv_i0, jv_i1, jv_i2, jv_i3, jv_i4, jv_i5, jv_i6, jv_i7, jv_i8, jv_i9, jv_i10, jv_i11, jv_i12, jv_i13, jv_i14, jv_i15, jv_i16]
def jv_inf (y : Nat) : Option (Nat × Nat × Nat × Nat × Nat × Nat) := match jv_nth jv_infs (y / 16) with
  | none => none
  | some a => jv_nth a (y % 16)
abbrev jv_N : Nat := 272
def jv_y0 : List (MethodName × ByteArray × Option FieldType) := [(yX0_init, cX0_init, none), (yX0_clear, cX0_clear, none), (yX0_copyFrom, cX0_copyFrom, none), (yX0_indexOf, cX0_indexOf, (some .int)), (yX0_put, cX0_put, none), (yX0_add, cX0_add, none), (yX0_init, cX0_init, none), (yX1_init, cX1_init, none), (yX1_forget, cX1_forget, none), (yX1_trainAt, cX1_trainAt, (some (.object "SeatSwap$Train"))), (yX1_remember, cX1_remember, none), (yX1_bringBack, cX1_bringBack, none), (yX2_init, cX2_init, none), (yX2_kindOf, cX2_kindOf, (some .int)), (yX2_begin, cX2_begin, none), (yX2_nextToken, cX2_nextToken, none)]
def jv_y1 : List (MethodName × ByteArray × Option FieldType) := [(yX2_isSign, cX2_isSign, (some .boolean)), (yX2_isWord, cX2_isWord, (some .boolean)), (yX2_isKeyword, cX2_isKeyword, (some .boolean)), (yX2_isName, cX2_isName, (some .boolean)), (yX2_packedName, cX2_packedName, (some .int)), (yX2_number, cX2_number, (some .int)), (yX2_pass, cX2_pass, none), (yX2_take, cX2_take, none), (yX2_takeIfThere, cX2_takeIfThere, (some .boolean)), (yX2_takeInt, cX2_takeInt, (some .int)), (yX2_takeLike, cX2_takeLike, (some .int)), (yX2_takeFreeSeat, cX2_takeFreeSeat, (some .int)), (yX2_takeName, cX2_takeName, (some .int)), (yX2_tapeIsName, cX2_tapeIsName, (some .boolean)), (yX2_nameOnTape, cX2_nameOnTape, (some .int)), (yX2_readSetup, cX2_readSetup, (some .boolean))]
def jv_y2 : List (MethodName × ByteArray × Option FieldType) := [(yX2_readTraveller, cX2_readTraveller, none), (yX3_init, cX3_init, none), (yX3_write, cX3_write, none), (yX3_putTraveller, cX3_putTraveller, none), (yX3_putPart, cX3_putPart, none), (yX3_putLike, cX3_putLike, none), (yX3_putNumber, cX3_putNumber, none), (yX3_putText, cX3_putText, none), (yX3_put, cX3_put, none), (yX4_init, cX4_init, none), (yX4_hasRoom, cX4_hasRoom, (some .boolean)), (yX4_putFour, cX4_putFour, none), (yX4_put, cX4_put, none), (yX4_byteAt, cX4_byteAt, (some .int)), (yX5_init, cX5_init, none), (yX5_clear, cX5_clear, none)]
def jv_y3 : List (MethodName × ByteArray × Option FieldType) := [(yX5_copyFrom, cX5_copyFrom, none), (yX5_traveller, cX5_traveller, (some (.object "SeatSwap$Traveller"))), (yX5_seats, cX5_seats, (some .int)), (yX5_tables, cX5_tables, (some .int)), (yX5_isSeat, cX5_isSeat, (some .boolean)), (yX5_isTraveller, cX5_isTraveller, (some .boolean)), (yX5_isInRange, cX5_isInRange, (some .boolean)), (yX5_whoHas, cX5_whoHas, (some .int)), (yX5_isFree, cX5_isFree, (some .boolean)), (yX5_allows, cX5_allows, (some .boolean)), (yX5_maySit, cX5_maySit, (some .boolean)), (yX5_barredBy, cX5_barredBy, (some .int)), (yX5_membersAt, cX5_membersAt, (some .int)), (yX5_countAtTable, cX5_countAtTable, none), (yX5_admit, cX5_admit, none), (yX5_letOff, cX5_letOff, none)]
def jv_y4 : List (MethodName × ByteArray × Option FieldType) := [(yX5_goOn, cX5_goOn, none), (yX5_joyIn, cX5_joyIn, (some .int)), (yX5_joyOf, cX5_joyOf, (some .int)), (yX5_relativesAt, cX5_relativesAt, (some .int)), (yX5_looksForward, cX5_looksForward, (some .boolean)), (yX5_sumOfJoys, cX5_sumOfJoys, (some .int)), (yX5_grumblers, cX5_grumblers, (some .int)), (yX5_placeOf, cX5_placeOf, (some .int)), (yX5_whoIsAtPlace, cX5_whoIsAtPlace, (some .int)), (yX5_isAt, cX5_isAt, (some .boolean)), (yX5_travellersAt, cX5_travellersAt, (some .int)), (yX5_grumblersAt, cX5_grumblersAt, (some .int)), (yX5_sumOfJoysAt, cX5_sumOfJoysAt, (some .int)), (yX5_greatestFamilyAt, cX5_greatestFamilyAt, (some .int)), (yX5_membersOf, cX5_membersOf, (some .int)), (yX5_tablesOf, cX5_tablesOf, (some .int))]
def jv_y5 : List (MethodName × ByteArray × Option FieldType) := [(yX5_sumOfJoysOf, cX5_sumOfJoysOf, (some .int)), (yX5_families, cX5_families, (some .int)), (yX5_sumOfSweets, cX5_sumOfSweets, (some .int)), (yX5_sitDown, cX5_sitDown, none), (yX5_exchangeSeats, cX5_exchangeSeats, none), (yX5_passSeats, cX5_passSeats, none), (yX5_riseBySwap, cX5_riseBySwap, (some .int)), (yX5_sumIfSwapped, cX5_sumIfSwapped, (some .int)), (yX5_swapReason, cX5_swapReason, (some .int)), (yX5_doSwap, cX5_doSwap, none), (yX5_moveReason, cX5_moveReason, (some .int)), (yX5_doMove, cX5_doMove, none), (yX5_ringReason, cX5_ringReason, (some .int)), (yX5_riseByRing, cX5_riseByRing, (some .int)), (yX5_doRing, cX5_doRing, none), (yX5_risingRings, cX5_risingRings, (some .int))]
def jv_y6 : List (MethodName × ByteArray × Option FieldType) := [(yX5_bestSeatFor, cX5_bestSeatFor, (some .int)), (yX5_partnerFor, cX5_partnerFor, (some .int)), (yX5_settleOnce, cX5_settleOnce, (some .boolean)), (yX0_init, cX0_init, none), (yX0_init, cX0_init, none), (yX6_init, cX6_init, none), (yX6_clear, cX6_clear, none), (yX6_copyFrom, cX6_copyFrom, none), (yX6_settable, cX6_settable, (some .int)), (yX6_change, cX6_change, none), (yX6_letterAt, cX6_letterAt, (some .int)), (yX7_init, cX7_init, none), (yX7_append, cX7_append, (some .int)), (yX7_truncate, cX7_truncate, (some .int)), (yX7_load, cX7_load, (some .int)), (yX7_errorPosition, cX7_errorPosition, (some .int))]
def jv_y7 : List (MethodName × ByteArray × Option FieldType) := [(yX7_come, cX7_come, (some .int)), (yX7_set, cX7_set, (some .int)), (yX7_first, cX7_first, (some .int)), (yX7_swap, cX7_swap, (some .int)), (yX7_move, cX7_move, (some .int)), (yX7_ring, cX7_ring, (some .int)), (yX7_settle, cX7_settle, (some .int)), (yX7_station, cX7_station, (some .int)), (yX7_keep, cX7_keep, (some .int)), (yX7_restore, cX7_restore, (some .int)), (yX7_undo, cX7_undo, (some .int)), (yX7_value, cX7_value, (some .int)), (yX7_of, cX7_of, (some .int)), (yX0_init, cX0_init, none), (yX7_at, cX7_at, (some .int)), (yX7_table, cX7_table, (some .int))]
def jv_y8 : List (MethodName × ByteArray × Option FieldType) := [(yX7_family, cX7_family, (some .int)), (yX7_ranked, cX7_ranked, (some .int)), (yX7_why, cX7_why, (some .int)), (yX7_whyMove, cX7_whyMove, (some .int)), (yX7_joyAt, cX7_joyAt, (some .int)), (yX7_ifSwapped, cX7_ifSwapped, (some .int)), (yX7_leastPrice, cX7_leastPrice, (some .int)), (yX7_bestSeat, cX7_bestSeat, (some .int)), (yX7_partner, cX7_partner, (some .int)), (yX7_rings, cX7_rings, (some .int)), (yX7_ifSettled, cX7_ifSettled, (some .int)), (yX7_ifFirst, cX7_ifFirst, (some .int)), (yX0_init, cX0_init, none), (yX7_full, cX7_full, (some .float)), (yX7_meanJoy, cX7_meanJoy, (some .double)), (yX0_init, cX0_init, none)]
def jv_y9 : List (MethodName × ByteArray × Option FieldType) := [(yX0_init, cX0_init, none), (yX7_setupLength, cX7_setupLength, (some .int)), (yX7_setupByte, cX7_setupByte, (some .int)), (yX7_isIn, cX7_isIn, (some .boolean)), (yX7_refusal, cX7_refusal, (some .int)), (yX7_arePair, cX7_arePair, (some .boolean)), (yX7_settleDraft, cX7_settleDraft, (some .int)), (yJ0_init_81219, cJ0_init_81219, none), (yJ0_length_8abf5, cJ0_length_8abf5, (some .int)), (yJ0_charAt_5068e, cJ0_charAt_5068e, (some .char)), (yJ0_getBytes_840e7, cJ0_getBytes_840e7, none), (yJ0_init_db425, cJ0_init_db425, none), (yJ0_coder_7d493, cJ0_coder_7d493, (some .byte)), (yJ0_isLatin1_aae02, cJ0_isLatin1_aae02, (some .boolean)), (yJ4_init_da8c8, cJ4_init_da8c8, none), (yJ4_init_a7421, cJ4_init_a7421, none)]
def jv_y10 : List (MethodName × ByteArray × Option FieldType) := [(yJ4_append_15ec4, cJ4_append_15ec4, (some (.object "java/lang/StringBuilder"))), (yJ4_append_cf468, cJ4_append_cf468, (some (.object "java/lang/StringBuilder"))), (yJ4_append_bf812, cJ4_append_bf812, (some (.object "java/lang/StringBuilder"))), (yJ4_toString_0e30d, cJ4_toString_0e30d, (some (.object "java/lang/String"))), (yJ4_append_cf1ce, cJ4_append_cf1ce, (some (.object "java/lang/AbstractStringBuilder"))), (yJ4_length_8abf5, cJ4_length_8abf5, (some .int)), (yJ5_init_d00df, cJ5_init_d00df, none), (yJ5_init_a7421, cJ5_init_a7421, none), (yJ5_ensureCapacityInternal_d00df, cJ5_ensureCapacityInternal_d00df, none), (yJ5_newCapacity_0f7a4, cJ5_newCapacity_0f7a4, (some .int)), (yJ5_append_cf1ce, cJ5_append_cf1ce, (some (.object "java/lang/AbstractStringBuilder"))), (yJ5_append_3fe6f, cJ5_append_3fe6f, (some (.object "java/lang/AbstractStringBuilder"))), (yJ5_append_c97b9, cJ5_append_c97b9, (some (.object "java/lang/AbstractStringBuilder"))), (yJ5_isLatin1_aae02, cJ5_isLatin1_aae02, (some .boolean)), (yJ5_inflateIfNeededFor_a7421, cJ5_inflateIfNeededFor_a7421, none), (yJ5_putStringAt_47b60, cJ5_putStringAt_47b60, none)]
def jv_y11 : List (MethodName × ByteArray × Option FieldType) := [(yJ5_getValue_6d5f1, cJ5_getValue_6d5f1, (some (.array .byte))), (yJ5_length_8abf5, cJ5_length_8abf5, (some .int)), (yJ6_getChars_ba4f3, cJ6_getChars_ba4f3, (some .int)), (yJ6_stringSize_0f7a4, cJ6_stringSize_0f7a4, (some .int)), (yJ9_max_7cf53, cJ9_max_7cf53, (some .int)), (yJ9_min_7cf53, cJ9_min_7cf53, (some .int)), (yJ1_charAt_3b067, cJ1_charAt_3b067, (some .char)), (yJ1_canEncode_fc78d, cJ1_canEncode_fc78d, (some .boolean)), (yJ7_copyOf_9075b, cJ7_copyOf_9075b, (some (.array .byte))), (yJ7_copyOfRange_39247, cJ7_copyOfRange_39247, (some (.array .byte))), (yJ7_copyOfRangeByte_39247, cJ7_copyOfRangeByte_39247, (some (.array .byte))), (yJ7_checkLength_df160, cJ7_checkLength_df160, none), (yJ8_newLength_cabcc, cJ8_newLength_cabcc, (some .int)), (yL_feeds, cL_feeds, (some .boolean)), (yL_train, cL_train, (some (.object "java/lang/String"))), (yL_setup, cL_setup, (some (.object "java/lang/String")))]
def jv_y12 : List (MethodName × ByteArray × Option FieldType) := [(yL_state, cL_state, (some .long)), (yL_seats, cL_seats, (some .boolean)), (yL_swaps, cL_swaps, (some .boolean)), (yL_moves, cL_moves, (some .boolean)), (yL_rings, cL_rings, (some .boolean)), (yL_settles, cL_settles, (some .boolean)), (yL_stations, cL_stations, (some .boolean)), (yL_does, cL_does, (some .boolean)), (yX0_init, cX0_init, none), (yX0_init, cX0_init, none), (yX0_init, cX0_init, none), (yX0_init, cX0_init, none), (yX0_init, cX0_init, none), (yX0_init, cX0_init, none), (yX0_init, cX0_init, none), (yX0_init, cX0_init, none)]
def jv_y13 : List (MethodName × ByteArray × Option FieldType) := [(yX0_init, cX0_init, none), (yX0_init, cX0_init, none), (yX0_init, cX0_init, none), (yX0_init, cX0_init, none), (yX0_init, cX0_init, none), (yX0_init, cX0_init, none), (yX0_init, cX0_init, none), (yX0_init, cX0_init, none), (yX0_init, cX0_init, none), (yX0_init, cX0_init, none), (yX0_init, cX0_init, none), (yX0_init, cX0_init, none), (yX0_init, cX0_init, none), (yX0_init, cX0_init, none), (yX0_init, cX0_init, none), (yX0_init, cX0_init, none)]
def jv_y14 : List (MethodName × ByteArray × Option FieldType) := [(yX0_init, cX0_init, none), (yX0_init, cX0_init, none), (yX0_init, cX0_init, none), (yX0_init, cX0_init, none), (yX0_init, cX0_init, none), (yX0_init, cX0_init, none), (yX0_init, cX0_init, none), (yX0_init, cX0_init, none), (yX0_init, cX0_init, none), (yX0_init, cX0_init, none), (yX0_init, cX0_init, none), (yX0_init, cX0_init, none), (yX0_init, cX0_init, none), (yX0_init, cX0_init, none), (yX0_init, cX0_init, none), (yX0_init, cX0_init, none)]
def jv_y15 : List (MethodName × ByteArray × Option FieldType) := [(yX0_init, cX0_init, none), (yX0_init, cX0_init, none), (yX0_init, cX0_init, none), (yX0_init, cX0_init, none), (yX0_init, cX0_init, none), (yX0_init, cX0_init, none), (yX0_init, cX0_init, none), (yX0_init, cX0_init, none), (yX0_init, cX0_init, none), (yX0_init, cX0_init, none), (yX0_init, cX0_init, none), (yX0_init, cX0_init, none), (yX0_init, cX0_init, none), (yX0_init, cX0_init, none), (yX0_init, cX0_init, none), (yX0_init, cX0_init, none)]
def jv_y16 : List (MethodName × ByteArray × Option FieldType) := [(yX0_init, cX0_init, none), (yX0_init, cX0_init, none), (yX0_init, cX0_init, none), (yX0_init, cX0_init, none), (yX0_init, cX0_init, none), (yX0_init, cX0_init, none), (yX0_init, cX0_init, none), (yX0_init, cX0_init, none), (yX0_init, cX0_init, none), (yX0_init, cX0_init, none), (yX0_init, cX0_init, none), (yX0_init, cX0_init, none), (yX0_init, cX0_init, none), (yJ9_floorMod_7cf53, cJ9_floorMod_7cf53, (some .int)), (yJ9_abs_0f7a4, cJ9_abs_0f7a4, (some .int)), (⟨RL, "law", "([I)Z"⟩, cL_law, some .boolean)]
def jv_ys : List (List (MethodName × ByteArray × Option FieldType)) := [jv_y0, jv_y1, jv_y2, jv_y3, jv_y4, jv_y5, jv_y6, jv_y7, jv_y8, jv_y9, jv_y10, jv_y11, jv_y12, jv_y13, jv_y14, jv_y15, jv_y16]
def jv_ym (y : Nat) : MethodName × ByteArray × Option FieldType := match jv_nth jv_ys (y / 16) with
  | none => (⟨RL, "law", "([I)Z"⟩, cL_law, none)
  | some a => (jv_nth a (y % 16)).getD (⟨RL, "law", "([I)Z"⟩, cL_law, none)
def jv_own (k : Nat) : String := ([RX0, RX1, RX2, RX3, RX4, RX5, RX6, RX7, RJ0, RJ4, RL, RJ5, RJ6, RJ9, RJ1, RJ7, RJ8, RJ3] : List String).getD k RL
def jv_fld0 : List (Nat × Nat × Nat) := [(11, (0, 0)), (15, (0, 1)), (19, (0, 2))]
def jv_fld1 : List (Nat × Nat × Nat) := [(11, (1, 0)), (16, (1, 2)), (20, (1, 1))]
def jv_fld2 : List (Nat × Nat × Nat) := [(12, (2, 0)), (21, (2, 1)), (25, (2, 5)), (29, (2, 3)), (36, (2, 2)), (39, (4, 1)), (49, (2, 4)), (129, (5, 4)), (132, (5, 5)), (143, (6, 1)), (148, (6, 0)), (154, (6, 2)), (156, (6, 3)), (161, (6, 4)), (163, (6, 5)), (165, (6, 6)), (167, (6, 7)), (170, (6, 8)), (172, (6, 9))]
def jv_fld3 : List (Nat × Nat × Nat) := [(9, (3, 0)), (15, (3, 1)), (18, (3, 2)), (27, (5, 4)), (38, (5, 5)), (44, (5, 7)), (57, (6, 1)), (66, (6, 2)), (73, (6, 3)), (82, (6, 4)), (91, (6, 5)), (94, (6, 6)), (97, (6, 7)), (104, (6, 8)), (109, (6, 9))]
def jv_fld4 : List (Nat × Nat × Nat) := [(9, (4, 0)), (13, (4, 1))]
def jv_fld5 : List (Nat × Nat × Nat) := [(11, (5, 0)), (18, (5, 1)), (22, (5, 2)), (29, (5, 3)), (33, (5, 4)), (37, (5, 5)), (43, (5, 6)), (46, (5, 7)), (49, (5, 8)), (52, (5, 9)), (55, (5, 10)), (58, (5, 11)), (61, (5, 12)), (83, (6, 1)), (90, (6, 2)), (97, (6, 3)), (108, (6, 9)), (119, (6, 7)), (122, (6, 6)), (130, (6, 4)), (137, (6, 5)), (159, (6, 8))]
def jv_fld6 : List (Nat × Nat × Nat) := [(9, (6, 0)), (15, (6, 1)), (18, (6, 2)), (21, (6, 3)), (24, (6, 4)), (27, (6, 5)), (30, (6, 6)), (33, (6, 7)), (36, (6, 8)), (39, (6, 9))]
def jv_fld7 : List (Nat × Nat × Nat) := [(10, (7, 1)), (16, (2, 0)), (20, (7, 0)), (24, (7, 2)), (31, (7, 3)), (35, (7, 4)), (41, (7, 5)), (45, (7, 6)), (49, (7, 7)), (56, (7, 8)), (60, (7, 9)), (74, (4, 1)), (85, (2, 2)), (95, (5, 7)), (122, (6, 0)), (125, (6, 1)), (128, (6, 2)), (131, (6, 3)), (134, (6, 8)), (137, (6, 9)), (144, (5, 3)), (172, (5, 4)), (175, (5, 5)), (225, (5, 8)), (228, (5, 6)), (234, (1, 2)), (247, (5, 9)), (250, (5, 10)), (253, (5, 11)), (256, (5, 12)), (265, (0, 2)), (268, (6, 4)), (271, (6, 5)), (274, (6, 6)), (277, (6, 7)), (342, (3, 0)), (343, (3, 2))]
def jv_fld8 : List (Nat × Nat × Nat) := [(9, (8, 0)), (15, (8, 1)), (1048, (9, 2))]
def jv_fld9 : List (Nat × Nat × Nat) := []
def jv_fld10 : List (Nat × Nat × Nat) := []
def jv_fld11 : List (Nat × Nat × Nat) := [(15, (9, 0)), (22, (9, 1)), (79, (9, 3))]
def jv_fld12 : List (Nat × Nat × Nat) := []
def jv_fld13 : List (Nat × Nat × Nat) := []
def jv_fld14 : List (Nat × Nat × Nat) := []
def jv_fld15 : List (Nat × Nat × Nat) := []
def jv_fld16 : List (Nat × Nat × Nat) := []
def jv_fld17 : List (Nat × Nat × Nat) := []
def jv_flds : List (List (Nat × Nat × Nat)) := [jv_fld0, jv_fld1, jv_fld2, jv_fld3, jv_fld4, jv_fld5, jv_fld6, jv_fld7, jv_fld8, jv_fld9, jv_fld10, jv_fld11, jv_fld12, jv_fld13, jv_fld14, jv_fld15, jv_fld16, jv_fld17]
def jv_fld (ow i : Nat) : Option (Nat × Nat) := match jv_nth jv_flds ow with
  | none => none
  | some a => jv_as a i
def jv_cal0 : List (Nat × Nat × Nat × Nat) := [(3, (900, 1, 0)), (22, (269, 2, 0)), (28, (3, 3, 0)), (31, (4, 3, 0))]
def jv_cal1 : List (Nat × Nat × Nat × Nat) := [(1, (900, 1, 0)), (15, (46, 1, 0)), (23, (269, 2, 0)), (29, (9, 2, 0)), (33, (48, 2, 0))]
def jv_cal2 : List (Nat × Nat × Nat × Nat) := [(3, (900, 1, 0)), (11, (41, 1, 0)), (20, (101, 1, 1)), (33, (15, 1, 0)), (42, (45, 2, 0)), (46, (13, 1, 0)), (52, (152, 1, 0)), (57, (153, 2, 0)), (63, (17, 2, 0)), (85, (18, 1, 0)), (89, (22, 2, 0)), (93, (21, 1, 0)), (96, (16, 2, 0)), (100, (25, 3, 0)), (104, (56, 2, 0)), (110, (50, 1, 0)), (113, (20, 1, 0)), (116, (19, 1, 0)), (119, (14, 1, 0)), (122, (47, 1, 0)), (125, (23, 2, 0)), (134, (32, 2, 0)), (138, (102, 1, 0)), (139, (27, 2, 0)), (145, (28, 1, 0)), (151, (24, 2, 0)), (158, (26, 1, 0)), (174, (57, 3, 0)), (178, (62, 2, 0))]
def jv_cal3 : List (Nat × Nat × Nat × Nat) := [(3, (900, 1, 0)), (23, (39, 2, 0)), (32, (38, 2, 0)), (41, (40, 2, 0)), (47, (49, 2, 0)), (51, (35, 2, 0)), (62, (106, 2, 0)), (76, (36, 4, 0)), (85, (37, 3, 0)), (112, (270, 1, 0)), (118, (152, 1, 0)), (123, (153, 2, 0))]
def jv_cal4 : List (Nat × Nat × Nat × Nat) := [(1, (900, 1, 0)), (17, (44, 2, 0))]
def jv_cal5 : List (Nat × Nat × Nat × Nat) := [(3, (900, 1, 0)), (17, (101, 1, 1)), (28, (0, 1, 0)), (40, (1, 1, 0)), (64, (49, 2, 0)), (68, (103, 2, 0)), (72, (2, 2, 0)), (75, (50, 1, 0)), (79, (147, 3, 1)), (86, (55, 2, 0)), (93, (57, 3, 0)), (100, (61, 3, 0)), (104, (5, 4, 0)), (111, (63, 2, 0)), (115, (67, 3, 0)), (125, (270, 1, 0)), (133, (68, 1, 0)), (140, (65, 3, 0)), (144, (60, 3, 0)), (147, (66, 2, 0)), (150, (71, 2, 0)), (153, (73, 3, 0)), (156, (78, 2, 0)), (162, (83, 3, 0)), (166, (84, 3, 0)), (169, (69, 1, 0)), (172, (58, 3, 0)), (175, (56, 2, 0)), (178, (85, 4, 0)), (181, (92, 4, 0)), (185, (93, 4, 0)), (188, (90, 3, 0)), (191, (88, 4, 0)), (194, (86, 3, 0))]
def jv_cal6 : List (Nat × Nat × Nat × Nat) := [(3, (900, 1, 0))]
def jv_cal7 : List (Nat × Nat × Nat × Nat) := [(1, (900, 1, 0)), (9, (12, 1, 0)), (23, (33, 1, 1)), (30, (46, 1, 0)), (40, (101, 1, 1)), (55, (7, 1, 0)), (64, (42, 1, 0)), (70, (43, 2, 0)), (77, (147, 3, 0)), (81, (31, 2, 0)), (88, (48, 2, 0)), (92, (8, 1, 0)), (98, (52, 2, 0)), (102, (29, 1, 0)), (105, (56, 2, 0)), (108, (57, 3, 0)), (112, (10, 2, 0)), (115, (102, 1, 0)), (118, (30, 1, 0)), (140, (62, 2, 0)), (150, (5, 4, 0)), (154, (53, 2, 0)), (157, (54, 3, 0)), (160, (49, 2, 0)), (164, (104, 2, 0)), (168, (105, 3, 0)), (178, (59, 2, 0)), (181, (149, 3, 0)), (184, (88, 4, 0)), (188, (148, 1, 0)), (191, (86, 3, 0)), (195, (89, 4, 0)), (198, (90, 3, 0)), (201, (65, 3, 0)), (204, (66, 2, 0)), (207, (91, 3, 0)), (210, (92, 4, 0)), (213, (93, 4, 0)), (216, (94, 4, 0)), (219, (150, 1, 0)), (222, (69, 1, 0)), (231, (64, 1, 0)), (235, (11, 2, 0)), (238, (50, 1, 0)), (241, (70, 1, 0)), (244, (82, 1, 0)), (259, (51, 1, 0)), (262, (81, 1, 0)), (280, (67, 3, 0)), (284, (71, 2, 0)), (290, (55, 2, 0)), (293, (74, 2, 0)), (296, (75, 2, 0)), (299, (76, 2, 0)), (302, (77, 2, 0)), (305, (78, 2, 0)), (308, (79, 2, 0)), (311, (80, 2, 0)), (314, (72, 2, 0)), (317, (87, 3, 0)), (320, (96, 2, 0)), (323, (97, 2, 0)), (326, (95, 1, 0)), (338, (34, 3, 0)), (346, (98, 1, 0))]
def jv_cal8 : List (Nat × Nat × Nat × Nat) := [(1, (900, 1, 0)), (54, (185, 3, 0)), (212, (904, 5, 0)), (335, (156, 1, 0)), (489, (155, 3, 0)), (492, (157, 1, 0)), (495, (182, 2, 0)), (549, (165, 1, 0)), (552, (176, 1, 0)), (1047, (173, 1, 0))]
def jv_cal9 : List (Nat × Nat × Nat × Nat) := [(1, (166, 2, 0)), (7, (167, 2, 0)), (23, (160, 2, 0)), (29, (170, 2, 0)), (50, (171, 2, 0)), (53, (172, 2, 0)), (137, (151, 2, 0)), (343, (177, 1, 0))]
def jv_cal10 : List (Nat × Nat × Nat × Nat) := [(7, (152, 1, 0)), (13, (153, 2, 0)), (17, (108, 6, 0)), (23, (109, 2, 0)), (31, (159, 2, 0)), (34, (162, 2, 0)), (39, (160, 2, 0)), (42, (161, 2, 0)), (74, (163, 1, 0)), (78, (158, 1, 0)), (79, (145, 1, 0)), (82, (146, 2, 0)), (89, (123, 2, 0)), (94, (124, 3, 0)), (98, (126, 2, 0)), (103, (270, 1, 0)), (108, (132, 3, 0)), (111, (129, 2, 0)), (114, (131, 3, 0)), (117, (128, 3, 0)), (120, (127, 3, 0)), (123, (141, 1, 0)), (127, (142, 1, 0)), (131, (130, 4, 0)), (135, (133, 4, 0)), (138, (134, 3, 0)), (141, (115, 4, 0)), (144, (122, 1, 0)), (147, (136, 2, 0)), (150, (116, 3, 0)), (153, (135, 2, 0)), (156, (117, 4, 0)), (159, (137, 1, 0)), (162, (192, 1, 0)), (168, (138, 2, 0)), (171, (118, 1, 0)), (174, (119, 2, 0)), (177, (114, 2, 0)), (180, (139, 2, 0)), (185, (189, 2, 0)), (189, (112, 6, 0)), (192, (113, 4, 0)), (195, (180, 2, 0)), (198, (120, 2, 0)), (201, (121, 2, 0)), (205, (107, 1, 0)), (206, (193, 1, 0)), (210, (190, 2, 0)), (214, (110, 1, 0)), (217, (111, 1, 0)), (220, (199, 3, 0)), (224, (194, 3, 0)), (227, (195, 2, 0)), (231, (196, 1, 0)), (233, (197, 1, 0)), (236, (198, 2, 0)), (239, (191, 1, 0))]
def jv_cal11 : List (Nat × Nat × Nat × Nat) := [(3, (900, 1, 0)), (32, (152, 1, 0)), (40, (156, 1, 0)), (43, (164, 2, 0)), (83, (173, 1, 0)), (100, (168, 2, 0)), (104, (169, 2, 0)), (108, (184, 2, 0)), (114, (188, 3, 0)), (191, (183, 1, 0)), (208, (175, 3, 0)), (245, (179, 1, 0)), (248, (178, 3, 0)), (397, (174, 2, 0)), (399, (154, 4, 0))]
def jv_cal12 : List (Nat × Nat × Nat × Nat) := []
def jv_cal13 : List (Nat × Nat × Nat × Nat) := []
def jv_cal14 : List (Nat × Nat × Nat × Nat) := [(9, (903, 2, 0))]
def jv_cal15 : List (Nat × Nat × Nat × Nat) := [(150, (904, 5, 0)), (304, (181, 2, 0)), (310, (905, 1, 0)), (339, (186, 3, 0)), (343, (187, 2, 0))]
def jv_cal16 : List (Nat × Nat × Nat × Nat) := [(194, (180, 2, 0))]
def jv_cal17 : List (Nat × Nat × Nat × Nat) := []
def jv_cals : List (List (Nat × Nat × Nat × Nat)) := [jv_cal0, jv_cal1, jv_cal2, jv_cal3, jv_cal4, jv_cal5, jv_cal6, jv_cal7, jv_cal8, jv_cal9, jv_cal10, jv_cal11, jv_cal12, jv_cal13, jv_cal14, jv_cal15, jv_cal16, jv_cal17]
def jv_cal (ow i : Nat) : Option (Nat × Nat × Nat) := match jv_nth jv_cals ow with
  | none => none
  | some a => jv_as a i
def jv_new0 : List (Nat × Nat) := []
def jv_new1 : List (Nat × Nat) := [(9, 5)]
def jv_new2 : List (Nat × Nat) := [(9, 4), (18, 6)]
def jv_new3 : List (Nat × Nat) := []
def jv_new4 : List (Nat × Nat) := []
def jv_new5 : List (Nat × Nat) := [(9, 6), (26, 0)]
def jv_new6 : List (Nat × Nat) := []
def jv_new7 : List (Nat × Nat) := [(7, 2), (21, 3), (28, 5), (38, 6), (53, 1)]
def jv_new8 : List (Nat × Nat) := []
def jv_new9 : List (Nat × Nat) := [(18, 8)]
def jv_new10 : List (Nat × Nat) := [(8, 8), (18, 7), (27, 9)]
def jv_new11 : List (Nat × Nat) := []
def jv_new12 : List (Nat × Nat) := []
def jv_new13 : List (Nat × Nat) := []
def jv_new14 : List (Nat × Nat) := []
def jv_new15 : List (Nat × Nat) := []
def jv_new16 : List (Nat × Nat) := []
def jv_new17 : List (Nat × Nat) := []
def jv_news : List (List (Nat × Nat)) := [jv_new0, jv_new1, jv_new2, jv_new3, jv_new4, jv_new5, jv_new6, jv_new7, jv_new8, jv_new9, jv_new10, jv_new11, jv_new12, jv_new13, jv_new14, jv_new15, jv_new16, jv_new17]
def jv_new (ow i : Nat) : Option (Nat) := match jv_nth jv_news ow with
  | none => none
  | some a => jv_as a i
def jv_ldc0 : List (Nat × Value) := []
def jv_ldc1 : List (Nat × Value) := []
def jv_ldc2 : List (Nat × Value) := [(61, .ref 1000001), (67, .ref 1000002), (69, .ref 1000003), (71, .ref 1000004), (73, .ref 1000005), (75, .ref 1000006), (77, .ref 1000007), (79, .ref 1000008), (81, .ref 1000009), (83, .ref 1000010)]
def jv_ldc3 : List (Nat × Value) := [(21, .ref 1000011), (36, .ref 1000012), (55, .ref 1000013), (69, .ref 1000014), (71, .ref 1000015), (80, .ref 1000016), (89, .ref 1000017), (100, .ref 1000018), (102, .ref 1000019), (107, .ref 1000020), (117, .int 100000)]
def jv_ldc4 : List (Nat × Value) := []
def jv_ldc5 : List (Nat × Value) := []
def jv_ldc6 : List (Nat × Value) := []
def jv_ldc7 : List (Nat × Value) := []
def jv_ldc8 : List (Nat × Value) := []
def jv_ldc9 : List (Nat × Value) := []
def jv_ldc10 : List (Nat × Value) := [(29, .ref 1000021), (37, .ref 1000022), (45, .ref 1000023), (47, .ref 1000024), (49, .ref 1000025), (51, .ref 1000026), (53, .ref 1000027), (55, .int 1103515245), (56, .ref 1000028), (58, .ref 1000029), (60, .ref 1000030), (62, .ref 1000031), (64, .ref 1000032), (66, .ref 1000033), (68, .ref 1000034), (70, .ref 1000035), (72, .ref 1000036), (183, .ref 1000037), (204, .int 2147483647)]
def jv_ldc11 : List (Nat × Value) := [(38, .int 2147483631), (39, .int 2147483647)]
def jv_ldc12 : List (Nat × Value) := []
def jv_ldc13 : List (Nat × Value) := []
def jv_ldc14 : List (Nat × Value) := []
def jv_ldc15 : List (Nat × Value) := []
def jv_ldc16 : List (Nat × Value) := [(200, .int 2147483639)]
def jv_ldc17 : List (Nat × Value) := []
def jv_ldcs : List (List (Nat × Value)) := [jv_ldc0, jv_ldc1, jv_ldc2, jv_ldc3, jv_ldc4, jv_ldc5, jv_ldc6, jv_ldc7, jv_ldc8, jv_ldc9, jv_ldc10, jv_ldc11, jv_ldc12, jv_ldc13, jv_ldc14, jv_ldc15, jv_ldc16, jv_ldc17]
def jv_ldc (ow i : Nat) : Option (Value) := match jv_nth jv_ldcs ow with
  | none => none
  | some a => jv_as a i
/-- a field: what it holds, and whether it is final -/
def jv_fty (c k : Nat) : FieldType := match c with
  | 0 => tyX0 k
  | 1 => tyX1 k
  | 2 => tyX2 k
  | 3 => tyX3 k
  | 4 => tyX4 k
  | 5 => tyX5 k
  | 6 => tyX6 k
  | 7 => tyX7 k
  | 8 => tyJ0 k
  | _ => tyJ4 k
def jv_fT (c : Nat) : u_T := match c with
  | 0 => TX0
  | 1 => TX1
  | 2 => TX2
  | 3 => TX3
  | 4 => TX4
  | 5 => TX5
  | 6 => TX6
  | 7 => TX7
  | 8 => TJ0
  | _ => TJ4
def jv_fn (c : Nat) : Nat := ([3, 3, 6, 3, 2, 13, 10, 10, 4, 4] : List Nat).getD c 4
/-- the classes whose objects are made -/
abbrev jv_Cl : List vw_C := [(RX0, TX0, 3), (RX1, TX1, 3), (RX2, TX2, 6), (RX3, TX3, 3), (RX4, TX4, 2), (RX5, TX5, 13), (RX6, TX6, 10), (RX7, TX7, 10), (RJ0, TJ0, 4), (RJ4, TJ4, 4)]
/-- a class of objects out of the class whose member is called: a StringBuilder for AbstractStringBuilder -/
def jv_rc (ow : Nat) : Nat := if ow = 11 then 9 else ow
def jv_str : List (String × Nat × String) := [(RX2, 61, "train"), (RX2, 67, "first"), (RX2, 69, "seat"), (RX2, 71, "ticket"), (RX2, 73, "family"), (RX2, 75, "window"), (RX2, 77, "ahead"), (RX2, 79, "row"), (RX2, 81, "sweets"), (RX2, 83, "stop"), (RX3, 21, "train "), (RX3, 36, " first "), (RX3, 55, "seat "), (RX3, 69, " ticket"), (RX3, 71, " family "), (RX3, 80, " window "), (RX3, 89, " ahead "), (RX3, 100, " row "), (RX3, 102, " sweets "), (RX3, 107, " stop "), (RL, 29, "train "), (RL, 37, " first "), (RL, 45, "ann"), (RL, 47, "bo"), (RL, 49, "cy"), (RL, 51, "dan"), (RL, 53, "eve"), (RL, 56, "seat "), (RL, 58, " ticket"), (RL, 60, ""), (RL, 62, " family "), (RL, 64, " window "), (RL, 66, " ahead "), (RL, 68, " row "), (RL, 70, " sweets "), (RL, 72, " stop "), (RL, 183, "zoe")]
end
section
/-- the length of an instruction (switches apart) -/
def jv_len (i : Instr) : Nat := match i with
  | .bipush _ | .iload _ | .istore _ | .aload _ | .astore _ | .dload _ | .dstore _ | .ldc _ | .newarray _ | .lload _ | .lstore _ => 2
  | .sipush _ | .iinc _ _ | .getfield _ | .putfield _ | .invokestatic _ | .invokevirtual _ | .invokespecial _ | .ifCond _ _ | .if_icmp _ _ | .goto _ | .new _ | .anewarray _ | .ldc2_w _ | .ldc_w _ | .getstatic _ | .ifnull _ | .ifnonnull _ | .checkcast _ => 3
  | .multianewarray _ _ => 4
  | _ => 1
def jv_sw (i : Instr) : Bool := match i with
  | .tableswitch _ _ _ _ => true
  | .lookupswitch _ _ => true
  | _ => false
def jv_ck1 (b : ByteArray) (pc : Nat) : List jv_I → Bool
  | [] => true
  | none :: l => jv_ck1 b (pc + 1) l
  | some (i, len) :: l => decide (decode b pc = .ok (i, len)) && (jv_sw i || decide (len = jv_len i)) && jv_ck1 b (pc + 1) l
def jv_ck2 (b : ByteArray) (pc : Nat) : List (List jv_I) → Bool
  | [] => true
  | c :: l => decide (c.length ≤ 16) && jv_ck1 b pc c && jv_ck2 b (pc + 16) l
def jv_ck3 (y : Nat) : List (List (List jv_I)) → Bool
  | [] => true
  | c :: l => jv_ck2 (jv_ym y).2.1 0 c && jv_ck3 (y + 1) l
theorem jv_nil {α : Type} (n : Nat) : jv_nth ([] : List α) n = none := by cases n <;> rfl
theorem jv_ck1_of {b : ByteArray} {i : Instr} {len : Nat} : ∀ (l : List jv_I) (pc r : Nat), jv_ck1 b pc l = true → jv_nth l r = some (some (i, len)) → decode b (pc + r) = .ok (i, len) ∧ (jv_sw i = true ∨ len = jv_len i)
  | [], pc, r, _, h2 => by rw [jv_nil] at h2; cases h2
  | none :: l, pc, 0, h1, h2 => by cases h2
  | none :: l, pc, r + 1, h1, h2 => by
    have h3 := jv_ck1_of l (pc + 1) r h1 h2
    rw [show pc + (r + 1) = pc + 1 + r by omega]
    exact h3
  | some (j, len') :: l, pc, 0, h1, h2 => by
    simp only [jv_ck1, Bool.and_eq_true, decide_eq_true_eq, Bool.or_eq_true] at h1
    have h3 : some (some (j, len')) = some (some (i, len)) := h2
    cases h3
    exact ⟨h1.1.1, h1.1.2⟩
  | some (j, len') :: l, pc, r + 1, h1, h2 => by
    simp only [jv_ck1, Bool.and_eq_true] at h1
    have h3 := jv_ck1_of l (pc + 1) r h1.2 h2
    rw [show pc + (r + 1) = pc + 1 + r by omega]
    exact h3
theorem jv_ck2_of {b : ByteArray} {i : Instr} {len : Nat} {c : List jv_I} : ∀ (l : List (List jv_I)) (pc q r : Nat), jv_ck2 b pc l = true → jv_nth l q = some c → jv_nth c r = some (some (i, len)) → decode b (pc + 16 * q + r) = .ok (i, len) ∧ (jv_sw i = true ∨ len = jv_len i)
  | [], pc, q, r, _, h2, _ => by rw [jv_nil] at h2; cases h2
  | d :: l, pc, 0, r, h1, h2, h3 => by
    simp only [jv_ck2, Bool.and_eq_true] at h1
    have h4 : some d = some c := h2
    cases h4
    exact jv_ck1_of _ pc r h1.1.2 h3
  | d :: l, pc, q + 1, r, h1, h2, h3 => by
    simp only [jv_ck2, Bool.and_eq_true] at h1
    have h4 := jv_ck2_of l (pc + 16) q r h1.2 h2 h3
    rw [show pc + 16 * (q + 1) + r = pc + 16 + 16 * q + r by omega]
    exact h4
theorem jv_ck3_of {c : List (List jv_I)} : ∀ (l : List (List (List jv_I))) (y q : Nat), jv_ck3 y l = true → jv_nth l q = some c → jv_ck2 (jv_ym (y + q)).2.1 0 c = true
  | [], y, q, _, h2 => by rw [jv_nil] at h2; cases h2
  | d :: l, y, 0, h1, h2 => by
    simp only [jv_ck3, Bool.and_eq_true] at h1
    have h4 : some d = some c := h2
    cases h4
    exact h1.1
  | d :: l, y, q + 1, h1, h2 => by
    simp only [jv_ck3, Bool.and_eq_true] at h1
    rw [show y + (q + 1) = y + 1 + q by omega]
    exact jv_ck3_of l (y + 1) q h1.2 h2
def jv_ck4 (y : Nat) : List (List (List (List jv_I))) → Bool
  | [] => true
  | c :: l => jv_ck3 y c && jv_ck4 (y + 16) l
theorem jv_ck4_of {a : List (List (List jv_I))} : ∀ (l : List (List (List (List jv_I)))) (y q : Nat), jv_ck4 y l = true → jv_nth l q = some a → jv_ck3 (y + 16 * q) a = true
  | [], y, q, _, h2 => by rw [jv_nil] at h2; cases h2
  | d :: l, y, 0, h1, h2 => by
    simp only [jv_ck4, Bool.and_eq_true] at h1
    have h4 : some d = some a := h2
    cases h4
    exact h1.1
  | d :: l, y, q + 1, h1, h2 => by
    simp only [jv_ck4, Bool.and_eq_true] at h1
    rw [show y + 16 * (q + 1) = y + 16 + 16 * q by omega]
    exact jv_ck4_of l (y + 16) q h1.2 h2
theorem jv_and {a b : Bool} (h1 : a = true) (h2 : b = true) : (a && b) = true := by rw [h1, h2]; rfl
theorem jv_ck2_app {b : ByteArray} : ∀ (l1 l2 : List (List jv_I)) (pc : Nat), jv_ck2 b pc (l1 ++ l2) = (jv_ck2 b pc l1 && jv_ck2 b (pc + 16 * l1.length) l2)
  | [], l2, pc => by simp [jv_ck2]
  | c :: l1, l2, pc => by
    show (decide (c.length ≤ 16) && jv_ck1 b pc c && jv_ck2 b (pc + 16) (l1 ++ l2)) = (decide (c.length ≤ 16) && jv_ck1 b pc c && jv_ck2 b (pc + 16) l1 && jv_ck2 b (pc + 16 * (l1.length + 1)) l2)
    rw [jv_ck2_app l1 l2 (pc + 16), show pc + 16 + 16 * l1.length = pc + 16 * (l1.length + 1) by omega]
    simp only [Bool.and_assoc]
end
section
/-! A METHOD'S CODE CHECKED BY ITS BYTES AS A LIST (in an array each place costs its number): printed by wip/gen/fast.py -/
def fd_F (p : Nat) : {F : Nat → Decoder Instr // Decoder.instr p = Reader.u1 >>= F} := ⟨_, rfl⟩
theorem fd_u1 {b : ByteArray} {p : Nat} {x : UInt8} {r : List UInt8} (h : b.data.toList.drop p = x :: r) : Reader.runAt (Reader.u1 : Decoder Nat) b p = .ok (x.toNat, p + 1) ∧ b.data.toList.drop (p + 1) = r := by
  have hp : p < b.data.toList.length := by
    rcases Nat.lt_or_ge p b.data.toList.length with q | q
    · exact q
    · rw [List.drop_eq_nil_of_le q] at h; cases h
  have h2 := List.drop_eq_getElem_cons hp
  rw [h] at h2
  have e1 : x = b.data.toList[p] := (List.cons.inj h2).1
  have e2 : r = b.data.toList.drop (p + 1) := (List.cons.inj h2).2
  refine ⟨?_, e2.symm⟩
  have hs : p < b.size := hp
  show (if h : p < b.size then (do set (p + 1); pure (b[p]'h).toNat) else throw (HasTruncated.truncated p) : Decoder Nat) b p = _
  rw [dif_pos hs]
  show (Except.ok ((b[p]'hs).toNat, p + 1) : Except DecodeError (Nat × Nat)) = _
  rw [e1]
  rfl
theorem fd_u2 {b : ByteArray} {p : Nat} {x y : UInt8} {r : List UInt8} (h : b.data.toList.drop p = x :: y :: r) : Reader.runAt (Reader.u2 : Decoder Nat) b p = .ok (x.toNat * 256 + y.toNat, p + 2) := by
  obtain ⟨h1, h2⟩ := fd_u1 h
  have h3 := (fd_u1 h2).1
  show Except.bind (Reader.runAt (Reader.u1 : Decoder Nat) b p) (fun v => Except.bind (Reader.runAt (Reader.u1 : Decoder Nat) b v.2) (fun w => .ok (v.1 * 256 + w.1, w.2))) = _
  rw [h1]
  show Except.bind (Reader.runAt (Reader.u1 : Decoder Nat) b (p + 1)) (fun w => .ok (x.toNat * 256 + w.1, w.2)) = _
  rw [h3]
  rfl
theorem fd_s1 {b : ByteArray} {p : Nat} {x : UInt8} {r : List UInt8} (h : b.data.toList.drop p = x :: r) : Reader.runAt (Reader.s1 : Decoder Int) b p = .ok (Reader.signed 8 x.toNat, p + 1) := by
  show Except.bind (Reader.runAt (Reader.u1 : Decoder Nat) b p) (fun v => .ok (Reader.signed 8 v.1, v.2)) = _
  rw [(fd_u1 h).1]
  rfl
theorem fd_s2 {b : ByteArray} {p : Nat} {x y : UInt8} {r : List UInt8} (h : b.data.toList.drop p = x :: y :: r) : Reader.runAt (Reader.s2 : Decoder Int) b p = .ok (Reader.signed 16 (x.toNat * 256 + y.toNat), p + 2) := by
  show Except.bind (Reader.runAt (Reader.u2 : Decoder Nat) b p) (fun v => .ok (Reader.signed 16 v.1, v.2)) = _
  rw [fd_u2 h]
  rfl
theorem fd_go {b : ByteArray} {p k q : Nat} {i : Instr} (h1 : Reader.runAt (Reader.u1 : Decoder Nat) b p = .ok (k, p + 1)) (h2 : Reader.runAt ((fd_F p).1 k) b (p + 1) = .ok (i, p + 1 + q)) : decode b p = .ok (i, q + 1) := by
  unfold decode
  rw [(fd_F p).2]
  show Except.bind (Except.bind (Reader.runAt (Reader.u1 : Decoder Nat) b p) (fun v => Reader.runAt ((fd_F p).1 v.1) b v.2)) (fun v => .ok (v.1, v.2 - p)) = _
  rw [h1]
  show Except.bind (Reader.runAt ((fd_F p).1 k) b (p + 1)) (fun v => .ok (v.1, v.2 - p)) = _
  rw [h2]
  show Except.ok (i, p + 1 + q - p) = _
  rw [show p + 1 + q - p = q + 1 by omega]
theorem fd_map {α : Type} {m : Decoder α} {g : α → Instr} {b : ByteArray} {q q' : Nat} {a : α} (h : Reader.runAt m b q = .ok (a, q')) : Reader.runAt (m >>= fun v => pure (g v)) b q = .ok (g a, q') := by
  show Except.bind (Reader.runAt m b q) (fun v => .ok (g v.1, v.2)) = _
  rw [h]
  rfl
theorem fd_map2 {m : Decoder Nat} {m' : Decoder Int} {g : Nat → Int → Instr} {b : ByteArray} {q q' q'' : Nat} {a : Nat} {c : Int} (h : Reader.runAt m b q = .ok (a, q')) (h' : Reader.runAt m' b q' = .ok (c, q'')) : Reader.runAt (m >>= fun v => m' >>= fun w => pure (g v w)) b q = .ok (g a c, q'') := by
  show Except.bind (Reader.runAt m b q) (fun v => Except.bind (Reader.runAt m' b v.2) (fun w => .ok (g v.1 w.1, w.2))) = _
  rw [h]
  show Except.bind (Reader.runAt m' b q') (fun w => .ok (g a w.1, w.2)) = _
  rw [h']
  rfl
def fd_ic : Int → Nat
  | .ofNat 0 => 3
  | .ofNat 1 => 4
  | .ofNat 2 => 5
  | .ofNat 3 => 6
  | .ofNat 4 => 7
  | .ofNat 5 => 8
  | .negSucc 0 => 2
  | _ => 256
def fd_cn : ClassFile.Cond → Nat
  | .eq => 0
  | .ne => 1
  | .lt => 2
  | .ge => 3
  | .gt => 4
  | .le => 5
/-- the first byte (256: not looked at here) -/
def fd_op (i : Instr) : Nat := match i with
  | .ireturn => 172
  | .iaload => 46
  | .iadd => 96
  | .pop => 87
  | .return_ => 177
  | .isub => 100
  | .iastore => 79
  | .dup => 89
  | .imul => 104
  | .idiv => 108
  | .irem => 112
  | .dup2 => 92
  | .arraylength => 190
  | .ineg => 116
  | .iand => 126
  | .i2f => 134
  | .i2d => 135
  | .bastore => 84
  | .aaload => 50
  | .ishr => 122
  | .aastore => 83
  | .freturn => 174
  | .fdiv => 110
  | .f2d => 141
  | .dreturn => 175
  | .ddiv => 111
  | .baload => 51
  | .areturn => 176
  | .ixor => 130
  | .ishl => 120
  | .ior => 128
  | .iload _ => 21
  | .dload _ => 24
  | .aload _ => 25
  | .istore _ => 54
  | .dstore _ => 57
  | .astore _ => 58
  | .ldc _ => 18
  | .getfield _ => 180
  | .putfield _ => 181
  | .invokevirtual _ => 182
  | .invokespecial _ => 183
  | .invokestatic _ => 184
  | .new _ => 187
  | .anewarray _ => 189
  | .bipush _ => 16
  | .sipush _ => 17
  | .goto _ => 167
  | .aload_n n => 42 + n.val
  | .iload_n n => 26 + n.val
  | .istore_n n => 59 + n.val
  | .astore_n n => 75 + n.val
  | .iinc _ _ => 132
  | .iconst n => fd_ic n
  | .ifCond c _ => 153 + fd_cn c
  | .if_icmp c _ => 159 + fd_cn c
  | _ => 256
def fd_a1 (n : Nat) (r : List UInt8) : Bool := match r with
  | y :: _ => Nat.beq y.toNat n
  | [] => false
def fd_a2 (n : Nat) (r : List UInt8) : Bool := match r with
  | y :: z :: _ => Nat.beq (y.toNat * 256 + z.toNat) n
  | _ => false
def fd_b1 (n : Int) (r : List UInt8) : Bool := match r with
  | y :: _ => decide (Reader.signed 8 y.toNat = n)
  | [] => false
def fd_b2 (n : Int) (r : List UInt8) : Bool := match r with
  | y :: z :: _ => decide (Reader.signed 16 (y.toNat * 256 + z.toNat) = n)
  | _ => false
theorem fd_a1_ok {b : ByteArray} {p n : Nat} {r : List UInt8} (h : b.data.toList.drop p = r) (e : fd_a1 n r = true) : Reader.runAt (Reader.u1 : Decoder Nat) b p = .ok (n, p + 1) ∧ b.data.toList.drop (p + 1) = r.tail := by
  match r, h, e with
  | y :: r', h, e =>
    have e2 : y.toNat = n := Nat.eq_of_beq_eq_true e
    have h2 := fd_u1 h
    rw [e2] at h2
    exact h2
  | [], _, e => cases e
theorem fd_a2_ok {b : ByteArray} {p n : Nat} {r : List UInt8} (h : b.data.toList.drop p = r) (e : fd_a2 n r = true) : Reader.runAt (Reader.u2 : Decoder Nat) b p = .ok (n, p + 2) := by
  match r, h, e with
  | y :: z :: r', h, e =>
    have e2 : y.toNat * 256 + z.toNat = n := Nat.eq_of_beq_eq_true e
    have h2 := fd_u2 h
    rw [e2] at h2
    exact h2
  | [_], _, e => cases e
  | [], _, e => cases e
theorem fd_b1_ok {b : ByteArray} {p : Nat} {n : Int} {r : List UInt8} (h : b.data.toList.drop p = r) (e : fd_b1 n r = true) : Reader.runAt (Reader.s1 : Decoder Int) b p = .ok (n, p + 1) := by
  match r, h, e with
  | y :: r', h, e =>
    have e2 : Reader.signed 8 y.toNat = n := of_decide_eq_true e
    have h2 := fd_s1 h
    rw [e2] at h2
    exact h2
  | [], _, e => cases e
theorem fd_b2_ok {b : ByteArray} {p : Nat} {n : Int} {r : List UInt8} (h : b.data.toList.drop p = r) (e : fd_b2 n r = true) : Reader.runAt (Reader.s2 : Decoder Int) b p = .ok (n, p + 2) := by
  match r, h, e with
  | y :: z :: r', h, e =>
    have e2 : Reader.signed 16 (y.toNat * 256 + z.toNat) = n := of_decide_eq_true e
    have h2 := fd_s2 h
    rw [e2] at h2
    exact h2
  | [_], _, e => cases e
  | [], _, e => cases e
def fd_arg (i : Instr) (r : List UInt8) : Bool := match i with
  | .iload n => fd_a1 n r
  | .dload n => fd_a1 n r
  | .aload n => fd_a1 n r
  | .istore n => fd_a1 n r
  | .dstore n => fd_a1 n r
  | .astore n => fd_a1 n r
  | .ldc n => fd_a1 n r
  | .getfield n => fd_a2 n r
  | .putfield n => fd_a2 n r
  | .invokevirtual n => fd_a2 n r
  | .invokespecial n => fd_a2 n r
  | .invokestatic n => fd_a2 n r
  | .new n => fd_a2 n r
  | .anewarray n => fd_a2 n r
  | .bipush n => fd_b1 n r
  | .sipush n => fd_b2 n r
  | .goto n => fd_b2 n r
  | .ifCond _ n => fd_b2 n r
  | .if_icmp _ n => fd_b2 n r
  | .iinc a n => fd_a1 a r && fd_b1 n r.tail
  | _ => true
def fd_ck (i : Instr) (l : List UInt8) : Bool := match l with
  | x :: r => Nat.beq x.toNat (fd_op i) && fd_arg i r
  | [] => false
theorem fd_ok {b : ByteArray} {p : Nat} {i : Instr} {x : UInt8} {r : List UInt8} (h : b.data.toList.drop p = x :: r) (h1 : x.toNat = fd_op i) (h2 : fd_arg i r = true) : decode b p = .ok (i, jv_len i) := by
  have hx : x.toNat < 256 := x.toNat_lt
  rw [h1] at hx
  obtain ⟨hu, hr⟩ := fd_u1 h
  rw [h1] at hu
  cases i
  case ireturn => exact fd_go (k := 172) (q := 0) hu rfl
  case iaload => exact fd_go (k := 46) (q := 0) hu rfl
  case iadd => exact fd_go (k := 96) (q := 0) hu rfl
  case pop => exact fd_go (k := 87) (q := 0) hu rfl
  case return_ => exact fd_go (k := 177) (q := 0) hu rfl
  case isub => exact fd_go (k := 100) (q := 0) hu rfl
  case iastore => exact fd_go (k := 79) (q := 0) hu rfl
  case dup => exact fd_go (k := 89) (q := 0) hu rfl
  case imul => exact fd_go (k := 104) (q := 0) hu rfl
  case idiv => exact fd_go (k := 108) (q := 0) hu rfl
  case irem => exact fd_go (k := 112) (q := 0) hu rfl
  case dup2 => exact fd_go (k := 92) (q := 0) hu rfl
  case arraylength => exact fd_go (k := 190) (q := 0) hu rfl
  case ineg => exact fd_go (k := 116) (q := 0) hu rfl
  case iand => exact fd_go (k := 126) (q := 0) hu rfl
  case i2f => exact fd_go (k := 134) (q := 0) hu rfl
  case i2d => exact fd_go (k := 135) (q := 0) hu rfl
  case bastore => exact fd_go (k := 84) (q := 0) hu rfl
  case aaload => exact fd_go (k := 50) (q := 0) hu rfl
  case ishr => exact fd_go (k := 122) (q := 0) hu rfl
  case aastore => exact fd_go (k := 83) (q := 0) hu rfl
  case freturn => exact fd_go (k := 174) (q := 0) hu rfl
  case fdiv => exact fd_go (k := 110) (q := 0) hu rfl
  case f2d => exact fd_go (k := 141) (q := 0) hu rfl
  case dreturn => exact fd_go (k := 175) (q := 0) hu rfl
  case ddiv => exact fd_go (k := 111) (q := 0) hu rfl
  case baload => exact fd_go (k := 51) (q := 0) hu rfl
  case areturn => exact fd_go (k := 176) (q := 0) hu rfl
  case ixor => exact fd_go (k := 130) (q := 0) hu rfl
  case ishl => exact fd_go (k := 120) (q := 0) hu rfl
  case ior => exact fd_go (k := 128) (q := 0) hu rfl
  case iload n => exact fd_go (k := 21) (q := 1) hu (fd_map (g := Instr.iload) (fd_a1_ok hr h2).1)
  case dload n => exact fd_go (k := 24) (q := 1) hu (fd_map (g := Instr.dload) (fd_a1_ok hr h2).1)
  case aload n => exact fd_go (k := 25) (q := 1) hu (fd_map (g := Instr.aload) (fd_a1_ok hr h2).1)
  case istore n => exact fd_go (k := 54) (q := 1) hu (fd_map (g := Instr.istore) (fd_a1_ok hr h2).1)
  case dstore n => exact fd_go (k := 57) (q := 1) hu (fd_map (g := Instr.dstore) (fd_a1_ok hr h2).1)
  case astore n => exact fd_go (k := 58) (q := 1) hu (fd_map (g := Instr.astore) (fd_a1_ok hr h2).1)
  case ldc n => exact fd_go (k := 18) (q := 1) hu (fd_map (g := Instr.ldc) (fd_a1_ok hr h2).1)
  case getfield n => exact fd_go (k := 180) (q := 2) hu (fd_map (g := Instr.getfield) (fd_a2_ok hr h2))
  case putfield n => exact fd_go (k := 181) (q := 2) hu (fd_map (g := Instr.putfield) (fd_a2_ok hr h2))
  case invokevirtual n => exact fd_go (k := 182) (q := 2) hu (fd_map (g := Instr.invokevirtual) (fd_a2_ok hr h2))
  case invokespecial n => exact fd_go (k := 183) (q := 2) hu (fd_map (g := Instr.invokespecial) (fd_a2_ok hr h2))
  case invokestatic n => exact fd_go (k := 184) (q := 2) hu (fd_map (g := Instr.invokestatic) (fd_a2_ok hr h2))
  case new n => exact fd_go (k := 187) (q := 2) hu (fd_map (g := Instr.new) (fd_a2_ok hr h2))
  case anewarray n => exact fd_go (k := 189) (q := 2) hu (fd_map (g := Instr.anewarray) (fd_a2_ok hr h2))
  case bipush n => exact fd_go (k := 16) (q := 1) hu (fd_map (g := Instr.bipush) (fd_b1_ok hr h2))
  case sipush n => exact fd_go (k := 17) (q := 2) hu (fd_map (g := Instr.sipush) (fd_b2_ok hr h2))
  case goto n => exact fd_go (k := 167) (q := 2) hu (fd_map (g := Instr.goto) (fd_b2_ok hr h2))
  case aload_n n =>
    obtain ⟨n, hn⟩ := n
    match n, hn, hu, hx with
    | 0, _, hu, _ => exact fd_go (k := 42) (q := 0) hu rfl
    | 1, _, hu, _ => exact fd_go (k := 43) (q := 0) hu rfl
    | 2, _, hu, _ => exact fd_go (k := 44) (q := 0) hu rfl
    | 3, _, hu, _ => exact fd_go (k := 45) (q := 0) hu rfl
    | n + 4, hn, _, _ => exact absurd hn (by omega)
  case iload_n n =>
    obtain ⟨n, hn⟩ := n
    match n, hn, hu, hx with
    | 0, _, hu, _ => exact fd_go (k := 26) (q := 0) hu rfl
    | 1, _, hu, _ => exact fd_go (k := 27) (q := 0) hu rfl
    | 2, _, hu, _ => exact fd_go (k := 28) (q := 0) hu rfl
    | 3, _, hu, _ => exact fd_go (k := 29) (q := 0) hu rfl
    | n + 4, hn, _, _ => exact absurd hn (by omega)
  case istore_n n =>
    obtain ⟨n, hn⟩ := n
    match n, hn, hu, hx with
    | 0, _, hu, _ => exact fd_go (k := 59) (q := 0) hu rfl
    | 1, _, hu, _ => exact fd_go (k := 60) (q := 0) hu rfl
    | 2, _, hu, _ => exact fd_go (k := 61) (q := 0) hu rfl
    | 3, _, hu, _ => exact fd_go (k := 62) (q := 0) hu rfl
    | n + 4, hn, _, _ => exact absurd hn (by omega)
  case astore_n n =>
    obtain ⟨n, hn⟩ := n
    match n, hn, hu, hx with
    | 0, _, hu, _ => exact fd_go (k := 75) (q := 0) hu rfl
    | 1, _, hu, _ => exact fd_go (k := 76) (q := 0) hu rfl
    | 2, _, hu, _ => exact fd_go (k := 77) (q := 0) hu rfl
    | 3, _, hu, _ => exact fd_go (k := 78) (q := 0) hu rfl
    | n + 4, hn, _, _ => exact absurd hn (by omega)
  case iinc a n =>
    have h3 : (fd_a1 a r && fd_b1 n r.tail) = true := h2
    rw [Bool.and_eq_true] at h3
    obtain ⟨q1, q2⟩ := fd_a1_ok hr h3.1
    exact fd_go (k := 132) (q := 2) hu (fd_map2 (g := Instr.iinc) q1 (fd_b1_ok q2 h3.2))
  case iconst n =>
    match n, hu, hx with
    | .ofNat 0, hu, _ => exact fd_go (k := 3) (q := 0) hu rfl
    | .ofNat 1, hu, _ => exact fd_go (k := 4) (q := 0) hu rfl
    | .ofNat 2, hu, _ => exact fd_go (k := 5) (q := 0) hu rfl
    | .ofNat 3, hu, _ => exact fd_go (k := 6) (q := 0) hu rfl
    | .ofNat 4, hu, _ => exact fd_go (k := 7) (q := 0) hu rfl
    | .ofNat 5, hu, _ => exact fd_go (k := 8) (q := 0) hu rfl
    | .ofNat (m + 6), _, hx => exact absurd hx (Nat.lt_irrefl 256)
    | .negSucc 0, hu, _ => exact fd_go (k := 2) (q := 0) hu rfl
    | .negSucc (m + 1), _, hx => exact absurd hx (Nat.lt_irrefl 256)
  case ifCond c n =>
    cases c
    case eq => exact fd_go (k := 153) (q := 2) hu (fd_map (g := Instr.ifCond .eq) (fd_b2_ok hr h2))
    case ne => exact fd_go (k := 154) (q := 2) hu (fd_map (g := Instr.ifCond .ne) (fd_b2_ok hr h2))
    case lt => exact fd_go (k := 155) (q := 2) hu (fd_map (g := Instr.ifCond .lt) (fd_b2_ok hr h2))
    case ge => exact fd_go (k := 156) (q := 2) hu (fd_map (g := Instr.ifCond .ge) (fd_b2_ok hr h2))
    case gt => exact fd_go (k := 157) (q := 2) hu (fd_map (g := Instr.ifCond .gt) (fd_b2_ok hr h2))
    case le => exact fd_go (k := 158) (q := 2) hu (fd_map (g := Instr.ifCond .le) (fd_b2_ok hr h2))
  case if_icmp c n =>
    cases c
    case eq => exact fd_go (k := 159) (q := 2) hu (fd_map (g := Instr.if_icmp .eq) (fd_b2_ok hr h2))
    case ne => exact fd_go (k := 160) (q := 2) hu (fd_map (g := Instr.if_icmp .ne) (fd_b2_ok hr h2))
    case lt => exact fd_go (k := 161) (q := 2) hu (fd_map (g := Instr.if_icmp .lt) (fd_b2_ok hr h2))
    case ge => exact fd_go (k := 162) (q := 2) hu (fd_map (g := Instr.if_icmp .ge) (fd_b2_ok hr h2))
    case gt => exact fd_go (k := 163) (q := 2) hu (fd_map (g := Instr.if_icmp .gt) (fd_b2_ok hr h2))
    case le => exact fd_go (k := 164) (q := 2) hu (fd_map (g := Instr.if_icmp .le) (fd_b2_ok hr h2))
  all_goals exact absurd hx (Nat.lt_irrefl 256)
theorem fd_ck_ok {b : ByteArray} {p : Nat} {i : Instr} {l : List UInt8} (h : b.data.toList.drop p = l) (e : fd_ck i l = true) : decode b p = .ok (i, jv_len i) := by
  match l, h, e with
  | x :: r, h, e =>
    have e2 : (Nat.beq x.toNat (fd_op i) && fd_arg i r) = true := e
    rw [Bool.and_eq_true] at e2
    exact fd_ok h (Nat.eq_of_beq_eq_true e2.1) e2.2
  | [], _, e => cases e
def jv_f1 (b : ByteArray) : List jv_I → List UInt8 → Nat → Bool
  | [], _, _ => true
  | none :: c, l, pc => jv_f1 b c l.tail (pc + 1)
  | some (i, len) :: c, l, pc => (fd_ck i l && Nat.beq len (jv_len i) || decide (decode b pc = .ok (i, len)) && (jv_sw i || decide (len = jv_len i))) && jv_f1 b c l.tail (pc + 1)
def jv_f2 (b : ByteArray) : List (List jv_I) → List UInt8 → Nat → Bool
  | [], _, _ => true
  | c :: cs, l, pc => Nat.ble c.length 16 && jv_f1 b c l pc && jv_f2 b cs (l.drop 16) (pc + 16)
theorem jv_f1_ok {b : ByteArray} : ∀ (c : List jv_I) (l : List UInt8) (pc : Nat), b.data.toList.drop pc = l → jv_f1 b c l pc = true → jv_ck1 b pc c = true
  | [], _, _, _, _ => rfl
  | none :: c, l, pc, h, e => jv_f1_ok c l.tail (pc + 1) (by rw [← h, List.tail_drop]) e
  | some (i, len) :: c, l, pc, h, e => by
    have e2 : ((fd_ck i l && Nat.beq len (jv_len i) || decide (decode b pc = .ok (i, len)) && (jv_sw i || decide (len = jv_len i))) && jv_f1 b c l.tail (pc + 1)) = true := e
    rw [Bool.and_eq_true, Bool.or_eq_true, Bool.and_eq_true] at e2
    have h3 := jv_f1_ok c l.tail (pc + 1) (by rw [← h, List.tail_drop]) e2.2
    show (decide (decode b pc = .ok (i, len)) && (jv_sw i || decide (len = jv_len i)) && jv_ck1 b (pc + 1) c) = true
    rw [Bool.and_eq_true]
    refine ⟨?_, h3⟩
    rcases e2.1 with q | q
    · have hl : len = jv_len i := Nat.eq_of_beq_eq_true q.2
      have hd := fd_ck_ok h q.1
      rw [← hl] at hd
      rw [Bool.and_eq_true, Bool.or_eq_true]
      exact ⟨decide_eq_true hd, Or.inr (decide_eq_true hl)⟩
    · exact q
theorem jv_f2_ok {b : ByteArray} : ∀ (cs : List (List jv_I)) (l : List UInt8) (pc : Nat), b.data.toList.drop pc = l → jv_f2 b cs l pc = true → jv_ck2 b pc cs = true
  | [], _, _, _, _ => rfl
  | c :: cs, l, pc, h, e => by
    have e2 : (Nat.ble c.length 16 && jv_f1 b c l pc && jv_f2 b cs (l.drop 16) (pc + 16)) = true := e
    rw [Bool.and_eq_true, Bool.and_eq_true] at e2
    show (decide (c.length ≤ 16) && jv_ck1 b pc c && jv_ck2 b (pc + 16) cs) = true
    rw [Bool.and_eq_true, Bool.and_eq_true]
    exact ⟨⟨decide_eq_true (Nat.le_of_ble_eq_true e2.1.1), jv_f1_ok c l pc h e2.1.2⟩, jv_f2_ok cs (l.drop 16) (pc + 16) (by rw [← h, List.drop_drop]) e2.2⟩
theorem jv_fast {b : ByteArray} {cs : List (List jv_I)} (h : jv_f2 b cs b.data.toList 0 = true) : jv_ck2 b 0 cs = true := jv_f2_ok cs _ 0 rfl h
end
section
theorem jv_k0 : jv_ck2 (jv_ym 0).2.1 0 jv_c0 = true := jv_fast (by decide +kernel)
theorem jv_k1 : jv_ck2 (jv_ym 1).2.1 0 jv_c1 = true := jv_fast (by decide +kernel)
theorem jv_k2 : jv_ck2 (jv_ym 2).2.1 0 jv_c2 = true := jv_fast (by decide +kernel)
theorem jv_k3 : jv_ck2 (jv_ym 3).2.1 0 jv_c3 = true := jv_fast (by decide +kernel)
theorem jv_k4 : jv_ck2 (jv_ym 4).2.1 0 jv_c4 = true := jv_fast (by decide +kernel)
theorem jv_k5 : jv_ck2 (jv_ym 5).2.1 0 jv_c5 = true := jv_fast (by decide +kernel)
theorem jv_k6 : jv_ck2 (jv_ym 6).2.1 0 jv_c0 = true := jv_fast (by decide +kernel)
theorem jv_k7 : jv_ck2 (jv_ym 7).2.1 0 jv_c7 = true := jv_fast (by decide +kernel)
theorem jv_k8 : jv_ck2 (jv_ym 8).2.1 0 jv_c8 = true := jv_fast (by decide +kernel)
theorem jv_k9 : jv_ck2 (jv_ym 9).2.1 0 jv_c9 = true := jv_fast (by decide +kernel)
theorem jv_k10 : jv_ck2 (jv_ym 10).2.1 0 jv_c10 = true := jv_fast (by decide +kernel)
theorem jv_k11 : jv_ck2 (jv_ym 11).2.1 0 jv_c11 = true := jv_fast (by decide +kernel)
theorem jv_k12 : jv_ck2 (jv_ym 12).2.1 0 jv_c12 = true := jv_fast (by decide +kernel)
theorem jv_k13 : jv_ck2 (jv_ym 13).2.1 0 jv_c13 = true := jv_fast (by decide +kernel)
theorem jv_k14 : jv_ck2 (jv_ym 14).2.1 0 jv_c14 = true := jv_fast (by decide +kernel)
theorem jv_k15 : jv_ck2 (jv_ym 15).2.1 0 jv_c15 = true := jv_fast (by decide +kernel)
theorem jv_k16 : jv_ck2 (jv_ym 16).2.1 0 jv_c16 = true := jv_fast (by decide +kernel)
theorem jv_k17 : jv_ck2 (jv_ym 17).2.1 0 jv_c17 = true := jv_fast (by decide +kernel)
theorem jv_k18 : jv_ck2 (jv_ym 18).2.1 0 jv_c18 = true := jv_fast (by decide +kernel)
theorem jv_k19 : jv_ck2 (jv_ym 19).2.1 0 jv_c19 = true := jv_fast (by decide +kernel)
theorem jv_k20 : jv_ck2 (jv_ym 20).2.1 0 jv_c20 = true := jv_fast (by decide +kernel)
theorem jv_k21 : jv_ck2 (jv_ym 21).2.1 0 jv_c21 = true := jv_fast (by decide +kernel)
theorem jv_k22 : jv_ck2 (jv_ym 22).2.1 0 jv_c22 = true := jv_fast (by decide +kernel)
theorem jv_k23 : jv_ck2 (jv_ym 23).2.1 0 jv_c23 = true := jv_fast (by decide +kernel)
theorem jv_k24 : jv_ck2 (jv_ym 24).2.1 0 jv_c24 = true := jv_fast (by decide +kernel)
theorem jv_k25 : jv_ck2 (jv_ym 25).2.1 0 jv_c25 = true := jv_fast (by decide +kernel)
theorem jv_k26 : jv_ck2 (jv_ym 26).2.1 0 jv_c26 = true := jv_fast (by decide +kernel)
theorem jv_k27 : jv_ck2 (jv_ym 27).2.1 0 jv_c27 = true := jv_fast (by decide +kernel)
theorem jv_k28 : jv_ck2 (jv_ym 28).2.1 0 jv_c28 = true := jv_fast (by decide +kernel)
theorem jv_k29 : jv_ck2 (jv_ym 29).2.1 0 jv_c29 = true := jv_fast (by decide +kernel)
theorem jv_k30 : jv_ck2 (jv_ym 30).2.1 0 jv_c30 = true := jv_fast (by decide +kernel)
theorem jv_k31 : jv_ck2 (jv_ym 31).2.1 0 jv_c31 = true := jv_fast (by decide +kernel)
theorem jv_k32 : jv_ck2 (jv_ym 32).2.1 0 jv_c32 = true := jv_fast (by decide +kernel)
theorem jv_k33 : jv_ck2 (jv_ym 33).2.1 0 jv_c33 = true := jv_fast (by decide +kernel)
theorem jv_k34 : jv_ck2 (jv_ym 34).2.1 0 jv_c34 = true := jv_fast (by decide +kernel)
theorem jv_k35 : jv_ck2 (jv_ym 35).2.1 0 jv_c35 = true := jv_fast (by decide +kernel)
theorem jv_k36 : jv_ck2 (jv_ym 36).2.1 0 jv_c36 = true := jv_fast (by decide +kernel)
theorem jv_k37 : jv_ck2 (jv_ym 37).2.1 0 jv_c37 = true := jv_fast (by decide +kernel)
theorem jv_k38 : jv_ck2 (jv_ym 38).2.1 0 jv_c38 = true := jv_fast (by decide +kernel)
theorem jv_k39 : jv_ck2 (jv_ym 39).2.1 0 jv_c39 = true := jv_fast (by decide +kernel)
theorem jv_k40 : jv_ck2 (jv_ym 40).2.1 0 jv_c40 = true := jv_fast (by decide +kernel)
theorem jv_k41 : jv_ck2 (jv_ym 41).2.1 0 jv_c41 = true := jv_fast (by decide +kernel)
theorem jv_k42 : jv_ck2 (jv_ym 42).2.1 0 jv_c42 = true := jv_fast (by decide +kernel)
theorem jv_k43 : jv_ck2 (jv_ym 43).2.1 0 jv_c43 = true := jv_fast (by decide +kernel)
theorem jv_k44 : jv_ck2 (jv_ym 44).2.1 0 jv_c44 = true := jv_fast (by decide +kernel)
theorem jv_k45 : jv_ck2 (jv_ym 45).2.1 0 jv_c45 = true := jv_fast (by decide +kernel)
theorem jv_k46 : jv_ck2 (jv_ym 46).2.1 0 jv_c46 = true := jv_fast (by decide +kernel)
theorem jv_k47 : jv_ck2 (jv_ym 47).2.1 0 jv_c47 = true := jv_fast (by decide +kernel)
theorem jv_k48 : jv_ck2 (jv_ym 48).2.1 0 jv_c48 = true := jv_fast (by decide +kernel)
theorem jv_k49 : jv_ck2 (jv_ym 49).2.1 0 jv_c49 = true := jv_fast (by decide +kernel)
theorem jv_k50 : jv_ck2 (jv_ym 50).2.1 0 jv_c50 = true := jv_fast (by decide +kernel)
theorem jv_k51 : jv_ck2 (jv_ym 51).2.1 0 jv_c51 = true := jv_fast (by decide +kernel)
theorem jv_k52 : jv_ck2 (jv_ym 52).2.1 0 jv_c52 = true := jv_fast (by decide +kernel)
theorem jv_k53 : jv_ck2 (jv_ym 53).2.1 0 jv_c53 = true := jv_fast (by decide +kernel)
theorem jv_k54 : jv_ck2 (jv_ym 54).2.1 0 jv_c54 = true := jv_fast (by decide +kernel)
theorem jv_k55 : jv_ck2 (jv_ym 55).2.1 0 jv_c55 = true := jv_fast (by decide +kernel)
theorem jv_k56 : jv_ck2 (jv_ym 56).2.1 0 jv_c56 = true := jv_fast (by decide +kernel)
theorem jv_k57 : jv_ck2 (jv_ym 57).2.1 0 jv_c57 = true := jv_fast (by decide +kernel)
theorem jv_k58 : jv_ck2 (jv_ym 58).2.1 0 jv_c58 = true := jv_fast (by decide +kernel)
theorem jv_k59 : jv_ck2 (jv_ym 59).2.1 0 jv_c59 = true := jv_fast (by decide +kernel)
theorem jv_k60 : jv_ck2 (jv_ym 60).2.1 0 jv_c60 = true := jv_fast (by decide +kernel)
theorem jv_k61 : jv_ck2 (jv_ym 61).2.1 0 jv_c61 = true := jv_fast (by decide +kernel)
theorem jv_k62 : jv_ck2 (jv_ym 62).2.1 0 jv_c62 = true := jv_fast (by decide +kernel)
theorem jv_k63 : jv_ck2 (jv_ym 63).2.1 0 jv_c63 = true := jv_fast (by decide +kernel)
theorem jv_k64 : jv_ck2 (jv_ym 64).2.1 0 jv_c64 = true := jv_fast (by decide +kernel)
theorem jv_k65 : jv_ck2 (jv_ym 65).2.1 0 jv_c65 = true := jv_fast (by decide +kernel)
theorem jv_k66 : jv_ck2 (jv_ym 66).2.1 0 jv_c66 = true := jv_fast (by decide +kernel)
theorem jv_k67 : jv_ck2 (jv_ym 67).2.1 0 jv_c67 = true := jv_fast (by decide +kernel)
theorem jv_k68 : jv_ck2 (jv_ym 68).2.1 0 jv_c68 = true := jv_fast (by decide +kernel)
theorem jv_k69 : jv_ck2 (jv_ym 69).2.1 0 jv_c69 = true := jv_fast (by decide +kernel)
theorem jv_k70 : jv_ck2 (jv_ym 70).2.1 0 jv_c70 = true := jv_fast (by decide +kernel)
theorem jv_k71 : jv_ck2 (jv_ym 71).2.1 0 jv_c71 = true := jv_fast (by decide +kernel)
theorem jv_k72 : jv_ck2 (jv_ym 72).2.1 0 jv_c72 = true := jv_fast (by decide +kernel)
theorem jv_k73 : jv_ck2 (jv_ym 73).2.1 0 jv_c73 = true := jv_fast (by decide +kernel)
theorem jv_k74 : jv_ck2 (jv_ym 74).2.1 0 jv_c74 = true := jv_fast (by decide +kernel)
theorem jv_k75 : jv_ck2 (jv_ym 75).2.1 0 jv_c75 = true := jv_fast (by decide +kernel)
theorem jv_k76 : jv_ck2 (jv_ym 76).2.1 0 jv_c76 = true := jv_fast (by decide +kernel)
theorem jv_k77 : jv_ck2 (jv_ym 77).2.1 0 jv_c77 = true := jv_fast (by decide +kernel)
theorem jv_k78 : jv_ck2 (jv_ym 78).2.1 0 jv_c78 = true := jv_fast (by decide +kernel)
theorem jv_k79 : jv_ck2 (jv_ym 79).2.1 0 jv_c79 = true := jv_fast (by decide +kernel)
theorem jv_k80 : jv_ck2 (jv_ym 80).2.1 0 jv_c80 = true := jv_fast (by decide +kernel)
theorem jv_k81 : jv_ck2 (jv_ym 81).2.1 0 jv_c81 = true := jv_fast (by decide +kernel)
theorem jv_k82 : jv_ck2 (jv_ym 82).2.1 0 jv_c82 = true := jv_fast (by decide +kernel)
theorem jv_k83 : jv_ck2 (jv_ym 83).2.1 0 jv_c83 = true := jv_fast (by decide +kernel)
theorem jv_k84 : jv_ck2 (jv_ym 84).2.1 0 jv_c84 = true := jv_fast (by decide +kernel)
theorem jv_k85 : jv_ck2 (jv_ym 85).2.1 0 jv_c85 = true := jv_fast (by decide +kernel)
theorem jv_k86 : jv_ck2 (jv_ym 86).2.1 0 jv_c86 = true := jv_fast (by decide +kernel)
theorem jv_k87 : jv_ck2 (jv_ym 87).2.1 0 jv_c87 = true := jv_fast (by decide +kernel)
theorem jv_k88 : jv_ck2 (jv_ym 88).2.1 0 jv_c88 = true := jv_fast (by decide +kernel)
theorem jv_k89 : jv_ck2 (jv_ym 89).2.1 0 jv_c89 = true := jv_fast (by decide +kernel)
theorem jv_k90 : jv_ck2 (jv_ym 90).2.1 0 jv_c90 = true := jv_fast (by decide +kernel)
theorem jv_k91 : jv_ck2 (jv_ym 91).2.1 0 jv_c91 = true := jv_fast (by decide +kernel)
theorem jv_k92 : jv_ck2 (jv_ym 92).2.1 0 jv_c92 = true := jv_fast (by decide +kernel)
theorem jv_k93 : jv_ck2 (jv_ym 93).2.1 0 jv_c93 = true := jv_fast (by decide +kernel)
theorem jv_k94 : jv_ck2 (jv_ym 94).2.1 0 jv_c94 = true := jv_fast (by decide +kernel)
theorem jv_k95 : jv_ck2 (jv_ym 95).2.1 0 jv_c95 = true := jv_fast (by decide +kernel)
theorem jv_k96 : jv_ck2 (jv_ym 96).2.1 0 jv_c96 = true := jv_fast (by decide +kernel)
theorem jv_k97 : jv_ck2 (jv_ym 97).2.1 0 jv_c97 = true := jv_fast (by decide +kernel)
theorem jv_k98 : jv_ck2 (jv_ym 98).2.1 0 jv_c98 = true := jv_fast (by decide +kernel)
theorem jv_k99 : jv_ck2 (jv_ym 99).2.1 0 jv_c0 = true := jv_fast (by decide +kernel)
theorem jv_k100 : jv_ck2 (jv_ym 100).2.1 0 jv_c0 = true := jv_fast (by decide +kernel)
theorem jv_k101 : jv_ck2 (jv_ym 101).2.1 0 jv_c101 = true := jv_fast (by decide +kernel)
theorem jv_k102 : jv_ck2 (jv_ym 102).2.1 0 jv_c102 = true := jv_fast (by decide +kernel)
theorem jv_k103 : jv_ck2 (jv_ym 103).2.1 0 jv_c103 = true := jv_fast (by decide +kernel)
theorem jv_k104 : jv_ck2 (jv_ym 104).2.1 0 jv_c104 = true := jv_fast (by decide +kernel)
theorem jv_k105 : jv_ck2 (jv_ym 105).2.1 0 jv_c105 = true := jv_fast (by decide +kernel)
theorem jv_k106 : jv_ck2 (jv_ym 106).2.1 0 jv_c106 = true := jv_fast (by decide +kernel)
theorem jv_k107 : jv_ck2 (jv_ym 107).2.1 0 jv_c107 = true := jv_fast (by decide +kernel)
theorem jv_k108 : jv_ck2 (jv_ym 108).2.1 0 jv_c108 = true := jv_fast (by decide +kernel)
theorem jv_k109 : jv_ck2 (jv_ym 109).2.1 0 jv_c109 = true := jv_fast (by decide +kernel)
theorem jv_k110 : jv_ck2 (jv_ym 110).2.1 0 jv_c110 = true := jv_fast (by decide +kernel)
theorem jv_k111 : jv_ck2 (jv_ym 111).2.1 0 jv_c111 = true := jv_fast (by decide +kernel)
theorem jv_k112 : jv_ck2 (jv_ym 112).2.1 0 jv_c112 = true := jv_fast (by decide +kernel)
theorem jv_k113 : jv_ck2 (jv_ym 113).2.1 0 jv_c113 = true := jv_fast (by decide +kernel)
theorem jv_k114 : jv_ck2 (jv_ym 114).2.1 0 jv_c114 = true := jv_fast (by decide +kernel)
theorem jv_k115 : jv_ck2 (jv_ym 115).2.1 0 jv_c115 = true := jv_fast (by decide +kernel)
theorem jv_k116 : jv_ck2 (jv_ym 116).2.1 0 jv_c116 = true := jv_fast (by decide +kernel)
theorem jv_k117 : jv_ck2 (jv_ym 117).2.1 0 jv_c117 = true := jv_fast (by decide +kernel)
theorem jv_k118 : jv_ck2 (jv_ym 118).2.1 0 jv_c118 = true := jv_fast (by decide +kernel)
theorem jv_k119 : jv_ck2 (jv_ym 119).2.1 0 jv_c119 = true := jv_fast (by decide +kernel)
theorem jv_k120 : jv_ck2 (jv_ym 120).2.1 0 jv_c120 = true := jv_fast (by decide +kernel)
theorem jv_k121 : jv_ck2 (jv_ym 121).2.1 0 jv_c121 = true := jv_fast (by decide +kernel)
theorem jv_k122 : jv_ck2 (jv_ym 122).2.1 0 jv_c122 = true := jv_fast (by decide +kernel)
theorem jv_k123 : jv_ck2 (jv_ym 123).2.1 0 jv_c123 = true := jv_fast (by decide +kernel)
theorem jv_k124 : jv_ck2 (jv_ym 124).2.1 0 jv_c124 = true := jv_fast (by decide +kernel)
theorem jv_k125 : jv_ck2 (jv_ym 125).2.1 0 jv_c0 = true := jv_fast (by decide +kernel)
theorem jv_k126 : jv_ck2 (jv_ym 126).2.1 0 jv_c126 = true := jv_fast (by decide +kernel)
theorem jv_k127 : jv_ck2 (jv_ym 127).2.1 0 jv_c127 = true := jv_fast (by decide +kernel)
theorem jv_k128 : jv_ck2 (jv_ym 128).2.1 0 jv_c128 = true := jv_fast (by decide +kernel)
theorem jv_k129 : jv_ck2 (jv_ym 129).2.1 0 jv_c129 = true := jv_fast (by decide +kernel)
theorem jv_k130 : jv_ck2 (jv_ym 130).2.1 0 jv_c130 = true := jv_fast (by decide +kernel)
theorem jv_k131 : jv_ck2 (jv_ym 131).2.1 0 jv_c131 = true := jv_fast (by decide +kernel)
theorem jv_k132 : jv_ck2 (jv_ym 132).2.1 0 jv_c132 = true := jv_fast (by decide +kernel)
theorem jv_k133 : jv_ck2 (jv_ym 133).2.1 0 jv_c133 = true := jv_fast (by decide +kernel)
theorem jv_k134 : jv_ck2 (jv_ym 134).2.1 0 jv_c134 = true := jv_fast (by decide +kernel)
theorem jv_k135 : jv_ck2 (jv_ym 135).2.1 0 jv_c135 = true := jv_fast (by decide +kernel)
theorem jv_k136 : jv_ck2 (jv_ym 136).2.1 0 jv_c136 = true := jv_fast (by decide +kernel)
theorem jv_k137 : jv_ck2 (jv_ym 137).2.1 0 jv_c137 = true := jv_fast (by decide +kernel)
theorem jv_k138 : jv_ck2 (jv_ym 138).2.1 0 jv_c138 = true := jv_fast (by decide +kernel)
theorem jv_k139 : jv_ck2 (jv_ym 139).2.1 0 jv_c139 = true := jv_fast (by decide +kernel)
theorem jv_k140 : jv_ck2 (jv_ym 140).2.1 0 jv_c0 = true := jv_fast (by decide +kernel)
theorem jv_k141 : jv_ck2 (jv_ym 141).2.1 0 jv_c141 = true := jv_fast (by decide +kernel)
theorem jv_k142 : jv_ck2 (jv_ym 142).2.1 0 jv_c142 = true := jv_fast (by decide +kernel)
theorem jv_k143 : jv_ck2 (jv_ym 143).2.1 0 jv_c0 = true := jv_fast (by decide +kernel)
theorem jv_k144 : jv_ck2 (jv_ym 144).2.1 0 jv_c0 = true := jv_fast (by decide +kernel)
theorem jv_k145 : jv_ck2 (jv_ym 145).2.1 0 jv_c145 = true := jv_fast (by decide +kernel)
theorem jv_k146 : jv_ck2 (jv_ym 146).2.1 0 jv_c146 = true := jv_fast (by decide +kernel)
theorem jv_k147 : jv_ck2 (jv_ym 147).2.1 0 jv_c147 = true := jv_fast (by decide +kernel)
theorem jv_k148 : jv_ck2 (jv_ym 148).2.1 0 jv_c148 = true := jv_fast (by decide +kernel)
theorem jv_k149 : jv_ck2 (jv_ym 149).2.1 0 jv_c149 = true := jv_fast (by decide +kernel)
theorem jv_k150 : jv_ck2 (jv_ym 150).2.1 0 jv_c150 = true := jv_fast (by decide +kernel)
theorem jv_k151 : jv_ck2 (jv_ym 151).2.1 0 jv_c151 = true := jv_fast (by decide +kernel)
theorem jv_k152 : jv_ck2 (jv_ym 152).2.1 0 jv_c152 = true := jv_fast (by decide +kernel)
theorem jv_k153 : jv_ck2 (jv_ym 153).2.1 0 jv_c153 = true := jv_fast (by decide +kernel)
theorem jv_k154 : jv_ck2 (jv_ym 154).2.1 0 jv_c154 = true := jv_fast (by decide +kernel)
theorem jv_k155 : jv_ck2 (jv_ym 155).2.1 0 jv_c155 = true := jv_fast (by decide +kernel)
theorem jv_k156 : jv_ck2 (jv_ym 156).2.1 0 jv_c156 = true := jv_fast (by decide +kernel)
theorem jv_k157 : jv_ck2 (jv_ym 157).2.1 0 jv_c157 = true := jv_fast (by decide +kernel)
theorem jv_k158 : jv_ck2 (jv_ym 158).2.1 0 jv_c158 = true := jv_fast (by decide +kernel)
theorem jv_k159 : jv_ck2 (jv_ym 159).2.1 0 jv_c159 = true := jv_fast (by decide +kernel)
theorem jv_k160 : jv_ck2 (jv_ym 160).2.1 0 jv_c160 = true := jv_fast (by decide +kernel)
theorem jv_k161 : jv_ck2 (jv_ym 161).2.1 0 jv_c161 = true := jv_fast (by decide +kernel)
theorem jv_k162 : jv_ck2 (jv_ym 162).2.1 0 jv_c162 = true := jv_fast (by decide +kernel)
theorem jv_k163 : jv_ck2 (jv_ym 163).2.1 0 jv_c163 = true := jv_fast (by decide +kernel)
theorem jv_k164 : jv_ck2 (jv_ym 164).2.1 0 jv_c164 = true := jv_fast (by decide +kernel)
theorem jv_k165 : jv_ck2 (jv_ym 165).2.1 0 jv_c165 = true := jv_fast (by decide +kernel)
theorem jv_k166 : jv_ck2 (jv_ym 166).2.1 0 jv_c166 = true := jv_fast (by decide +kernel)
theorem jv_k167 : jv_ck2 (jv_ym 167).2.1 0 jv_c167 = true := jv_fast (by decide +kernel)
theorem jv_k168 : jv_ck2 (jv_ym 168).2.1 0 jv_c168 = true := jv_fast (by decide +kernel)
theorem jv_k169 : jv_ck2 (jv_ym 169).2.1 0 jv_c169 = true := jv_fast (by decide +kernel)
theorem jv_k170 : jv_ck2 (jv_ym 170).2.1 0 jv_c170 = true := jv_fast (by decide +kernel)
theorem jv_k171 : jv_ck2 (jv_ym 171).2.1 0 jv_c171 = true := jv_fast (by decide +kernel)
theorem jv_k172 : jv_ck2 (jv_ym 172).2.1 0 jv_c172 = true := jv_fast (by decide +kernel)
theorem jv_k173 : jv_ck2 (jv_ym 173).2.1 0 jv_c173 = true := jv_fast (by decide +kernel)
theorem jv_k174 : jv_ck2 (jv_ym 174).2.1 0 jv_c174 = true := jv_fast (by decide +kernel)
theorem jv_k175 : jv_ck2 (jv_ym 175).2.1 0 jv_c175 = true := jv_fast (by decide +kernel)
theorem jv_k176 : jv_ck2 (jv_ym 176).2.1 0 jv_c176 = true := jv_fast (by decide +kernel)
theorem jv_k177 : jv_ck2 (jv_ym 177).2.1 0 jv_c177 = true := jv_fast (by decide +kernel)
theorem jv_k178 : jv_ck2 (jv_ym 178).2.1 0 jv_c178 = true := jv_fast (by decide +kernel)
theorem jv_k179 : jv_ck2 (jv_ym 179).2.1 0 jv_c179 = true := jv_fast (by decide +kernel)
theorem jv_k180 : jv_ck2 (jv_ym 180).2.1 0 jv_c180 = true := jv_fast (by decide +kernel)
theorem jv_k181 : jv_ck2 (jv_ym 181).2.1 0 jv_c181 = true := jv_fast (by decide +kernel)
theorem jv_k182 : jv_ck2 (jv_ym 182).2.1 0 jv_c182 = true := jv_fast (by decide +kernel)
theorem jv_k183 : jv_ck2 (jv_ym 183).2.1 0 jv_c183 = true := jv_fast (by decide +kernel)
theorem jv_k184 : jv_ck2 (jv_ym 184).2.1 0 jv_c184 = true := jv_fast (by decide +kernel)
theorem jv_k185 : jv_ck2 (jv_ym 185).2.1 0 jv_c185 = true := jv_fast (by decide +kernel)
theorem jv_k186 : jv_ck2 (jv_ym 186).2.1 0 jv_c186 = true := jv_fast (by decide +kernel)
theorem jv_k187 : jv_ck2 (jv_ym 187).2.1 0 jv_c187 = true := jv_fast (by decide +kernel)
theorem jv_k188 : jv_ck2 (jv_ym 188).2.1 0 jv_c188 = true := jv_fast (by decide +kernel)
theorem jv_k189 : jv_ck2 (jv_ym 189).2.1 0 jv_c189 = true := jv_fast (by decide +kernel)
theorem jv_k190 : jv_ck2 (jv_ym 190).2.1 0 jv_c190 = true := jv_fast (by decide +kernel)
theorem jv_k191 : jv_ck2 (jv_ym 191).2.1 0 jv_c191 = true := jv_fast (by decide +kernel)
theorem jv_k192 : jv_ck2 (jv_ym 192).2.1 0 jv_c192 = true := jv_fast (by decide +kernel)
theorem jv_k193 : jv_ck2 (jv_ym 193).2.1 0 jv_c193 = true := jv_fast (by decide +kernel)
theorem jv_k194 : jv_ck2 (jv_ym 194).2.1 0 jv_c194 = true := jv_fast (by decide +kernel)
theorem jv_k195 : jv_ck2 (jv_ym 195).2.1 0 jv_c195 = true := jv_fast (by decide +kernel)
theorem jv_k196 : jv_ck2 (jv_ym 196).2.1 0 jv_c196 = true := jv_fast (by decide +kernel)
theorem jv_k197 : jv_ck2 (jv_ym 197).2.1 0 jv_c197 = true := jv_fast (by decide +kernel)
theorem jv_k198 : jv_ck2 (jv_ym 198).2.1 0 jv_c198 = true := jv_fast (by decide +kernel)
theorem jv_k199 : jv_ck2 (jv_ym 199).2.1 0 jv_c199 = true := jv_fast (by decide +kernel)
theorem jv_k200 : jv_ck2 (jv_ym 200).2.1 0 jv_c0 = true := jv_fast (by decide +kernel)
theorem jv_k201 : jv_ck2 (jv_ym 201).2.1 0 jv_c0 = true := jv_fast (by decide +kernel)
theorem jv_k202 : jv_ck2 (jv_ym 202).2.1 0 jv_c0 = true := jv_fast (by decide +kernel)
theorem jv_k203 : jv_ck2 (jv_ym 203).2.1 0 jv_c0 = true := jv_fast (by decide +kernel)
theorem jv_k204 : jv_ck2 (jv_ym 204).2.1 0 jv_c0 = true := jv_fast (by decide +kernel)
theorem jv_k205 : jv_ck2 (jv_ym 205).2.1 0 jv_c0 = true := jv_fast (by decide +kernel)
theorem jv_k206 : jv_ck2 (jv_ym 206).2.1 0 jv_c0 = true := jv_fast (by decide +kernel)
theorem jv_k207 : jv_ck2 (jv_ym 207).2.1 0 jv_c0 = true := jv_fast (by decide +kernel)
theorem jv_k208 : jv_ck2 (jv_ym 208).2.1 0 jv_c0 = true := jv_fast (by decide +kernel)
theorem jv_k209 : jv_ck2 (jv_ym 209).2.1 0 jv_c0 = true := jv_fast (by decide +kernel)
theorem jv_k210 : jv_ck2 (jv_ym 210).2.1 0 jv_c0 = true := jv_fast (by decide +kernel)
theorem jv_k211 : jv_ck2 (jv_ym 211).2.1 0 jv_c0 = true := jv_fast (by decide +kernel)
theorem jv_k212 : jv_ck2 (jv_ym 212).2.1 0 jv_c0 = true := jv_fast (by decide +kernel)
theorem jv_k213 : jv_ck2 (jv_ym 213).2.1 0 jv_c0 = true := jv_fast (by decide +kernel)
theorem jv_k214 : jv_ck2 (jv_ym 214).2.1 0 jv_c0 = true := jv_fast (by decide +kernel)
theorem jv_k215 : jv_ck2 (jv_ym 215).2.1 0 jv_c0 = true := jv_fast (by decide +kernel)
theorem jv_k216 : jv_ck2 (jv_ym 216).2.1 0 jv_c0 = true := jv_fast (by decide +kernel)
theorem jv_k217 : jv_ck2 (jv_ym 217).2.1 0 jv_c0 = true := jv_fast (by decide +kernel)
theorem jv_k218 : jv_ck2 (jv_ym 218).2.1 0 jv_c0 = true := jv_fast (by decide +kernel)
theorem jv_k219 : jv_ck2 (jv_ym 219).2.1 0 jv_c0 = true := jv_fast (by decide +kernel)
theorem jv_k220 : jv_ck2 (jv_ym 220).2.1 0 jv_c0 = true := jv_fast (by decide +kernel)
theorem jv_k221 : jv_ck2 (jv_ym 221).2.1 0 jv_c0 = true := jv_fast (by decide +kernel)
theorem jv_k222 : jv_ck2 (jv_ym 222).2.1 0 jv_c0 = true := jv_fast (by decide +kernel)
theorem jv_k223 : jv_ck2 (jv_ym 223).2.1 0 jv_c0 = true := jv_fast (by decide +kernel)
theorem jv_k224 : jv_ck2 (jv_ym 224).2.1 0 jv_c0 = true := jv_fast (by decide +kernel)
theorem jv_k225 : jv_ck2 (jv_ym 225).2.1 0 jv_c0 = true := jv_fast (by decide +kernel)
theorem jv_k226 : jv_ck2 (jv_ym 226).2.1 0 jv_c0 = true := jv_fast (by decide +kernel)
theorem jv_k227 : jv_ck2 (jv_ym 227).2.1 0 jv_c0 = true := jv_fast (by decide +kernel)
theorem jv_k228 : jv_ck2 (jv_ym 228).2.1 0 jv_c0 = true := jv_fast (by decide +kernel)
theorem jv_k229 : jv_ck2 (jv_ym 229).2.1 0 jv_c0 = true := jv_fast (by decide +kernel)
theorem jv_k230 : jv_ck2 (jv_ym 230).2.1 0 jv_c0 = true := jv_fast (by decide +kernel)
theorem jv_k231 : jv_ck2 (jv_ym 231).2.1 0 jv_c0 = true := jv_fast (by decide +kernel)
theorem jv_k232 : jv_ck2 (jv_ym 232).2.1 0 jv_c0 = true := jv_fast (by decide +kernel)
theorem jv_k233 : jv_ck2 (jv_ym 233).2.1 0 jv_c0 = true := jv_fast (by decide +kernel)
theorem jv_k234 : jv_ck2 (jv_ym 234).2.1 0 jv_c0 = true := jv_fast (by decide +kernel)
theorem jv_k235 : jv_ck2 (jv_ym 235).2.1 0 jv_c0 = true := jv_fast (by decide +kernel)
theorem jv_k236 : jv_ck2 (jv_ym 236).2.1 0 jv_c0 = true := jv_fast (by decide +kernel)
theorem jv_k237 : jv_ck2 (jv_ym 237).2.1 0 jv_c0 = true := jv_fast (by decide +kernel)
theorem jv_k238 : jv_ck2 (jv_ym 238).2.1 0 jv_c0 = true := jv_fast (by decide +kernel)
theorem jv_k239 : jv_ck2 (jv_ym 239).2.1 0 jv_c0 = true := jv_fast (by decide +kernel)
theorem jv_k240 : jv_ck2 (jv_ym 240).2.1 0 jv_c0 = true := jv_fast (by decide +kernel)
theorem jv_k241 : jv_ck2 (jv_ym 241).2.1 0 jv_c0 = true := jv_fast (by decide +kernel)
theorem jv_k242 : jv_ck2 (jv_ym 242).2.1 0 jv_c0 = true := jv_fast (by decide +kernel)
theorem jv_k243 : jv_ck2 (jv_ym 243).2.1 0 jv_c0 = true := jv_fast (by decide +kernel)
theorem jv_k244 : jv_ck2 (jv_ym 244).2.1 0 jv_c0 = true := jv_fast (by decide +kernel)
theorem jv_k245 : jv_ck2 (jv_ym 245).2.1 0 jv_c0 = true := jv_fast (by decide +kernel)
theorem jv_k246 : jv_ck2 (jv_ym 246).2.1 0 jv_c0 = true := jv_fast (by decide +kernel)
theorem jv_k247 : jv_ck2 (jv_ym 247).2.1 0 jv_c0 = true := jv_fast (by decide +kernel)
theorem jv_k248 : jv_ck2 (jv_ym 248).2.1 0 jv_c0 = true := jv_fast (by decide +kernel)
theorem jv_k249 : jv_ck2 (jv_ym 249).2.1 0 jv_c0 = true := jv_fast (by decide +kernel)
theorem jv_k250 : jv_ck2 (jv_ym 250).2.1 0 jv_c0 = true := jv_fast (by decide +kernel)
theorem jv_k251 : jv_ck2 (jv_ym 251).2.1 0 jv_c0 = true := jv_fast (by decide +kernel)
theorem jv_k252 : jv_ck2 (jv_ym 252).2.1 0 jv_c0 = true := jv_fast (by decide +kernel)
theorem jv_k253 : jv_ck2 (jv_ym 253).2.1 0 jv_c0 = true := jv_fast (by decide +kernel)
theorem jv_k254 : jv_ck2 (jv_ym 254).2.1 0 jv_c0 = true := jv_fast (by decide +kernel)
theorem jv_k255 : jv_ck2 (jv_ym 255).2.1 0 jv_c0 = true := jv_fast (by decide +kernel)
theorem jv_k256 : jv_ck2 (jv_ym 256).2.1 0 jv_c0 = true := jv_fast (by decide +kernel)
theorem jv_k257 : jv_ck2 (jv_ym 257).2.1 0 jv_c0 = true := jv_fast (by decide +kernel)
theorem jv_k258 : jv_ck2 (jv_ym 258).2.1 0 jv_c0 = true := jv_fast (by decide +kernel)
theorem jv_k259 : jv_ck2 (jv_ym 259).2.1 0 jv_c0 = true := jv_fast (by decide +kernel)
theorem jv_k260 : jv_ck2 (jv_ym 260).2.1 0 jv_c0 = true := jv_fast (by decide +kernel)
theorem jv_k261 : jv_ck2 (jv_ym 261).2.1 0 jv_c0 = true := jv_fast (by decide +kernel)
theorem jv_k262 : jv_ck2 (jv_ym 262).2.1 0 jv_c0 = true := jv_fast (by decide +kernel)
theorem jv_k263 : jv_ck2 (jv_ym 263).2.1 0 jv_c0 = true := jv_fast (by decide +kernel)
theorem jv_k264 : jv_ck2 (jv_ym 264).2.1 0 jv_c0 = true := jv_fast (by decide +kernel)
theorem jv_k265 : jv_ck2 (jv_ym 265).2.1 0 jv_c0 = true := jv_fast (by decide +kernel)
theorem jv_k266 : jv_ck2 (jv_ym 266).2.1 0 jv_c0 = true := jv_fast (by decide +kernel)
theorem jv_k267 : jv_ck2 (jv_ym 267).2.1 0 jv_c0 = true := jv_fast (by decide +kernel)
theorem jv_k268 : jv_ck2 (jv_ym 268).2.1 0 jv_c0 = true := jv_fast (by decide +kernel)
theorem jv_k269 : jv_ck2 (jv_ym 269).2.1 0 jv_c269 = true := jv_fast (by decide +kernel)
theorem jv_k270 : jv_ck2 (jv_ym 270).2.1 0 jv_c270 = true := jv_fast (by decide +kernel)
theorem jv_k271 : jv_ck2 (jv_ym 271).2.1 0 jv_c271 = true := jv_fast (by decide +kernel)
end
section
theorem jv_g0 : jv_ck3 0 [jv_c0, jv_c1, jv_c2, jv_c3, jv_c4, jv_c5, jv_c0, jv_c7, jv_c8, jv_c9, jv_c10, jv_c11, jv_c12, jv_c13, jv_c14, jv_c15] = true := jv_and jv_k0 (jv_and jv_k1 (jv_and jv_k2 (jv_and jv_k3 (jv_and jv_k4 (jv_and jv_k5 (jv_and jv_k6 (jv_and jv_k7 (jv_and jv_k8 (jv_and jv_k9 (jv_and jv_k10 (jv_and jv_k11 (jv_and jv_k12 (jv_and jv_k13 (jv_and jv_k14 (jv_and jv_k15 (rfl))))))))))))))))
theorem jv_g1 : jv_ck3 16 [jv_c16, jv_c17, jv_c18, jv_c19, jv_c20, jv_c21, jv_c22, jv_c23, jv_c24, jv_c25, jv_c26, jv_c27, jv_c28, jv_c29, jv_c30, jv_c31] = true := jv_and jv_k16 (jv_and jv_k17 (jv_and jv_k18 (jv_and jv_k19 (jv_and jv_k20 (jv_and jv_k21 (jv_and jv_k22 (jv_and jv_k23 (jv_and jv_k24 (jv_and jv_k25 (jv_and jv_k26 (jv_and jv_k27 (jv_and jv_k28 (jv_and jv_k29 (jv_and jv_k30 (jv_and jv_k31 (rfl))))))))))))))))
theorem jv_g2 : jv_ck3 32 [jv_c32, jv_c33, jv_c34, jv_c35, jv_c36, jv_c37, jv_c38, jv_c39, jv_c40, jv_c41, jv_c42, jv_c43, jv_c44, jv_c45, jv_c46, jv_c47] = true := jv_and jv_k32 (jv_and jv_k33 (jv_and jv_k34 (jv_and jv_k35 (jv_and jv_k36 (jv_and jv_k37 (jv_and jv_k38 (jv_and jv_k39 (jv_and jv_k40 (jv_and jv_k41 (jv_and jv_k42 (jv_and jv_k43 (jv_and jv_k44 (jv_and jv_k45 (jv_and jv_k46 (jv_and jv_k47 (rfl))))))))))))))))
theorem jv_g3 : jv_ck3 48 [jv_c48, jv_c49, jv_c50, jv_c51, jv_c52, jv_c53, jv_c54, jv_c55, jv_c56, jv_c57, jv_c58, jv_c59, jv_c60, jv_c61, jv_c62, jv_c63] = true := jv_and jv_k48 (jv_and jv_k49 (jv_and jv_k50 (jv_and jv_k51 (jv_and jv_k52 (jv_and jv_k53 (jv_and jv_k54 (jv_and jv_k55 (jv_and jv_k56 (jv_and jv_k57 (jv_and jv_k58 (jv_and jv_k59 (jv_and jv_k60 (jv_and jv_k61 (jv_and jv_k62 (jv_and jv_k63 (rfl))))))))))))))))
theorem jv_g4 : jv_ck3 64 [jv_c64, jv_c65, jv_c66, jv_c67, jv_c68, jv_c69, jv_c70, jv_c71, jv_c72, jv_c73, jv_c74, jv_c75, jv_c76, jv_c77, jv_c78, jv_c79] = true := jv_and jv_k64 (jv_and jv_k65 (jv_and jv_k66 (jv_and jv_k67 (jv_and jv_k68 (jv_and jv_k69 (jv_and jv_k70 (jv_and jv_k71 (jv_and jv_k72 (jv_and jv_k73 (jv_and jv_k74 (jv_and jv_k75 (jv_and jv_k76 (jv_and jv_k77 (jv_and jv_k78 (jv_and jv_k79 (rfl))))))))))))))))
theorem jv_g5 : jv_ck3 80 [jv_c80, jv_c81, jv_c82, jv_c83, jv_c84, jv_c85, jv_c86, jv_c87, jv_c88, jv_c89, jv_c90, jv_c91, jv_c92, jv_c93, jv_c94, jv_c95] = true := jv_and jv_k80 (jv_and jv_k81 (jv_and jv_k82 (jv_and jv_k83 (jv_and jv_k84 (jv_and jv_k85 (jv_and jv_k86 (jv_and jv_k87 (jv_and jv_k88 (jv_and jv_k89 (jv_and jv_k90 (jv_and jv_k91 (jv_and jv_k92 (jv_and jv_k93 (jv_and jv_k94 (jv_and jv_k95 (rfl))))))))))))))))
theorem jv_g6 : jv_ck3 96 [jv_c96, jv_c97, jv_c98, jv_c0, jv_c0, jv_c101, jv_c102, jv_c103, jv_c104, jv_c105, jv_c106, jv_c107, jv_c108, jv_c109, jv_c110, jv_c111] = true := jv_and jv_k96 (jv_and jv_k97 (jv_and jv_k98 (jv_and jv_k99 (jv_and jv_k100 (jv_and jv_k101 (jv_and jv_k102 (jv_and jv_k103 (jv_and jv_k104 (jv_and jv_k105 (jv_and jv_k106 (jv_and jv_k107 (jv_and jv_k108 (jv_and jv_k109 (jv_and jv_k110 (jv_and jv_k111 (rfl))))))))))))))))
theorem jv_g7 : jv_ck3 112 [jv_c112, jv_c113, jv_c114, jv_c115, jv_c116, jv_c117, jv_c118, jv_c119, jv_c120, jv_c121, jv_c122, jv_c123, jv_c124, jv_c0, jv_c126, jv_c127] = true := jv_and jv_k112 (jv_and jv_k113 (jv_and jv_k114 (jv_and jv_k115 (jv_and jv_k116 (jv_and jv_k117 (jv_and jv_k118 (jv_and jv_k119 (jv_and jv_k120 (jv_and jv_k121 (jv_and jv_k122 (jv_and jv_k123 (jv_and jv_k124 (jv_and jv_k125 (jv_and jv_k126 (jv_and jv_k127 (rfl))))))))))))))))
theorem jv_g8 : jv_ck3 128 [jv_c128, jv_c129, jv_c130, jv_c131, jv_c132, jv_c133, jv_c134, jv_c135, jv_c136, jv_c137, jv_c138, jv_c139, jv_c0, jv_c141, jv_c142, jv_c0] = true := jv_and jv_k128 (jv_and jv_k129 (jv_and jv_k130 (jv_and jv_k131 (jv_and jv_k132 (jv_and jv_k133 (jv_and jv_k134 (jv_and jv_k135 (jv_and jv_k136 (jv_and jv_k137 (jv_and jv_k138 (jv_and jv_k139 (jv_and jv_k140 (jv_and jv_k141 (jv_and jv_k142 (jv_and jv_k143 (rfl))))))))))))))))
theorem jv_g9 : jv_ck3 144 [jv_c0, jv_c145, jv_c146, jv_c147, jv_c148, jv_c149, jv_c150, jv_c151, jv_c152, jv_c153, jv_c154, jv_c155, jv_c156, jv_c157, jv_c158, jv_c159] = true := jv_and jv_k144 (jv_and jv_k145 (jv_and jv_k146 (jv_and jv_k147 (jv_and jv_k148 (jv_and jv_k149 (jv_and jv_k150 (jv_and jv_k151 (jv_and jv_k152 (jv_and jv_k153 (jv_and jv_k154 (jv_and jv_k155 (jv_and jv_k156 (jv_and jv_k157 (jv_and jv_k158 (jv_and jv_k159 (rfl))))))))))))))))
theorem jv_g10 : jv_ck3 160 [jv_c160, jv_c161, jv_c162, jv_c163, jv_c164, jv_c165, jv_c166, jv_c167, jv_c168, jv_c169, jv_c170, jv_c171, jv_c172, jv_c173, jv_c174, jv_c175] = true := jv_and jv_k160 (jv_and jv_k161 (jv_and jv_k162 (jv_and jv_k163 (jv_and jv_k164 (jv_and jv_k165 (jv_and jv_k166 (jv_and jv_k167 (jv_and jv_k168 (jv_and jv_k169 (jv_and jv_k170 (jv_and jv_k171 (jv_and jv_k172 (jv_and jv_k173 (jv_and jv_k174 (jv_and jv_k175 (rfl))))))))))))))))
theorem jv_g11 : jv_ck3 176 [jv_c176, jv_c177, jv_c178, jv_c179, jv_c180, jv_c181, jv_c182, jv_c183, jv_c184, jv_c185, jv_c186, jv_c187, jv_c188, jv_c189, jv_c190, jv_c191] = true := jv_and jv_k176 (jv_and jv_k177 (jv_and jv_k178 (jv_and jv_k179 (jv_and jv_k180 (jv_and jv_k181 (jv_and jv_k182 (jv_and jv_k183 (jv_and jv_k184 (jv_and jv_k185 (jv_and jv_k186 (jv_and jv_k187 (jv_and jv_k188 (jv_and jv_k189 (jv_and jv_k190 (jv_and jv_k191 (rfl))))))))))))))))
theorem jv_g12 : jv_ck3 192 [jv_c192, jv_c193, jv_c194, jv_c195, jv_c196, jv_c197, jv_c198, jv_c199, jv_c0, jv_c0, jv_c0, jv_c0, jv_c0, jv_c0, jv_c0, jv_c0] = true := jv_and jv_k192 (jv_and jv_k193 (jv_and jv_k194 (jv_and jv_k195 (jv_and jv_k196 (jv_and jv_k197 (jv_and jv_k198 (jv_and jv_k199 (jv_and jv_k200 (jv_and jv_k201 (jv_and jv_k202 (jv_and jv_k203 (jv_and jv_k204 (jv_and jv_k205 (jv_and jv_k206 (jv_and jv_k207 (rfl))))))))))))))))
theorem jv_g13 : jv_ck3 208 [jv_c0, jv_c0, jv_c0, jv_c0, jv_c0, jv_c0, jv_c0, jv_c0, jv_c0, jv_c0, jv_c0, jv_c0, jv_c0, jv_c0, jv_c0, jv_c0] = true := jv_and jv_k208 (jv_and jv_k209 (jv_and jv_k210 (jv_and jv_k211 (jv_and jv_k212 (jv_and jv_k213 (jv_and jv_k214 (jv_and jv_k215 (jv_and jv_k216 (jv_and jv_k217 (jv_and jv_k218 (jv_and jv_k219 (jv_and jv_k220 (jv_and jv_k221 (jv_and jv_k222 (jv_and jv_k223 (rfl))))))))))))))))
theorem jv_g14 : jv_ck3 224 [jv_c0, jv_c0, jv_c0, jv_c0, jv_c0, jv_c0, jv_c0, jv_c0, jv_c0, jv_c0, jv_c0, jv_c0, jv_c0, jv_c0, jv_c0, jv_c0] = true := jv_and jv_k224 (jv_and jv_k225 (jv_and jv_k226 (jv_and jv_k227 (jv_and jv_k228 (jv_and jv_k229 (jv_and jv_k230 (jv_and jv_k231 (jv_and jv_k232 (jv_and jv_k233 (jv_and jv_k234 (jv_and jv_k235 (jv_and jv_k236 (jv_and jv_k237 (jv_and jv_k238 (jv_and jv_k239 (rfl))))))))))))))))
theorem jv_g15 : jv_ck3 240 [jv_c0, jv_c0, jv_c0, jv_c0, jv_c0, jv_c0, jv_c0, jv_c0, jv_c0, jv_c0, jv_c0, jv_c0, jv_c0, jv_c0, jv_c0, jv_c0] = true := jv_and jv_k240 (jv_and jv_k241 (jv_and jv_k242 (jv_and jv_k243 (jv_and jv_k244 (jv_and jv_k245 (jv_and jv_k246 (jv_and jv_k247 (jv_and jv_k248 (jv_and jv_k249 (jv_and jv_k250 (jv_and jv_k251 (jv_and jv_k252 (jv_and jv_k253 (jv_and jv_k254 (jv_and jv_k255 (rfl))))))))))))))))
theorem jv_g16 : jv_ck3 256 [jv_c0, jv_c0, jv_c0, jv_c0, jv_c0, jv_c0, jv_c0, jv_c0, jv_c0, jv_c0, jv_c0, jv_c0, jv_c0, jv_c269, jv_c270, jv_c271] = true := jv_and jv_k256 (jv_and jv_k257 (jv_and jv_k258 (jv_and jv_k259 (jv_and jv_k260 (jv_and jv_k261 (jv_and jv_k262 (jv_and jv_k263 (jv_and jv_k264 (jv_and jv_k265 (jv_and jv_k266 (jv_and jv_k267 (jv_and jv_k268 (jv_and jv_k269 (jv_and jv_k270 (jv_and jv_k271 (rfl))))))))))))))))
theorem jv_ck : jv_ck4 0 jv_prog = true := jv_and jv_g0 (jv_and jv_g1 (jv_and jv_g2 (jv_and jv_g3 (jv_and jv_g4 (jv_and jv_g5 (jv_and jv_g6 (jv_and jv_g7 (jv_and jv_g8 (jv_and jv_g9 (jv_and jv_g10 (jv_and jv_g11 (jv_and jv_g12 (jv_and jv_g13 (jv_and jv_g14 (jv_and jv_g15 (jv_and jv_g16 (rfl)))))))))))))))))
/-- the tables tell the code -/
theorem jv_code_ok {y pc : Nat} {i : Instr} {len : Nat} (h : jv_code y pc = some (i, len)) : decode (jv_ym y).2.1 pc = .ok (i, len) ∧ (jv_sw i = true ∨ len = jv_len i) := by
  unfold jv_code at h
  split at h
  · cases h
  · rename_i a ha
    split at h
    · cases h
    · rename_i b hb
      split at h
      · cases h
      · rename_i c hc
        split at h
        · cases h
        · rename_i d hd
          have h1 := jv_ck4_of _ 0 _ jv_ck ha
          have h2 := jv_ck3_of _ _ _ h1 hb
          have h3 := jv_ck2_of _ 0 _ _ h2 hc (hd.trans (congrArg some h))
          rw [show 0 + 16 * (y / 16) + y % 16 = y by omega, show 0 + 16 * (pc / 16) + pc % 16 = pc by omega] at h3
          exact h3
end
section
/-! THE TABLES' WORDS, by their places in lw_tbl: printed by wip/p42/words42.py -/
def jv_more : List Cond := [.selects RJ4 yJ5_ensureCapacityInternal_d00df yJ5_ensureCapacityInternal_d00df, .selects RJ4 yJ5_newCapacity_0f7a4 yJ5_newCapacity_0f7a4, .selects RJ4 yJ5_inflateIfNeededFor_a7421 yJ5_inflateIfNeededFor_a7421, .selects RJ4 yJ5_putStringAt_47b60 yJ5_putStringAt_47b60]
/-- the words that every method here is given -/
def jv_T : List Cond := (jv_more ++ lw_tbl).filter goodWord
/-- words alike: a method's bytes are compared as a list (in an array each place costs its number) -/
theorem jv_bytes {a b : ByteArray} (h : a.data.toList = b.data.toList) : a = b := by
  cases a
  cases b
  exact congrArg ByteArray.mk (Array.toList_inj.mp h)
def jv_eqw (u w : Cond) : Bool := match u with
  | .code n b m r => (match w with
    | .code n' b' m' r' => decide (n = n') && (decide (b.data.toList = b'.data.toList) && (decide (m = m') && decide (r = r')))
    | _ => false)
  | _ => decide (u = w)
theorem jv_eqw_ok {u w : Cond} (h : jv_eqw u w = true) : u = w := by
  unfold jv_eqw at h
  split at h
  · split at h
    · simp only [Bool.and_eq_true, decide_eq_true_eq] at h
      obtain ⟨h1, h2, h3, h4⟩ := h
      have h2 := jv_bytes h2
      subst h1 h2 h3 h4
      rfl
    · cases h
  · exact of_decide_eq_true h
/-- the tables one by one: a word by its table and its place there -/
def jv_tab (k : Nat) : List Cond := match k with
  | 0 => k2_sels lw_privs
  | 1 => tables_1_1
  | 2 => tables_1_2
  | 3 => tables_1_3
  | 4 => tables_1_4
  | 5 => tables_1_5
  | 6 => tables_1_6
  | _ => []
theorem jv_tab_in {k : Nat} {w : Cond} (h : w ∈ jv_tab k) : w ∈ lw_tbl := by
  unfold lw_tbl tables_1
  simp only [List.mem_append]
  match k, h with
  | 0, h => exact Or.inl h
  | 1, h => exact Or.inr (Or.inl h)
  | 2, h => exact Or.inr (Or.inr (Or.inl h))
  | 3, h => exact Or.inr (Or.inr (Or.inr (Or.inl h)))
  | 4, h => exact Or.inr (Or.inr (Or.inr (Or.inr (Or.inl h))))
  | 5, h => exact Or.inr (Or.inr (Or.inr (Or.inr (Or.inr (Or.inl h)))))
  | 6, h => exact Or.inr (Or.inr (Or.inr (Or.inr (Or.inr (Or.inr (h))))))
  | k + 7, h => cases h
def jv_inw (i : Nat) (w : Cond) : Bool := match (jv_tab (i / 1024))[i % 1024]? with
  | some u => jv_eqw u w
  | none => false
theorem jv_inw_ok {i : Nat} {w : Cond} (h : jv_inw i w = true) : w ∈ lw_tbl := by
  unfold jv_inw at h
  split at h
  · rename_i u e
    have e2 := jv_eqw_ok h
    subst e2
    exact jv_tab_in (List.mem_of_getElem? e)
  · cases h
def jv_in (i : Nat) (w : Cond) : Bool := jv_inw i w && goodWord w
theorem jv_in_ok {i : Nat} {w : Cond} (h : jv_in i w = true) : w ∈ jv_T := by
  simp only [jv_in, Bool.and_eq_true] at h
  exact List.mem_filter.mpr ⟨List.mem_append_right _ (jv_inw_ok h.1), h.2⟩
theorem jv_as_mem {α : Type} {n : Nat} {v : α} : ∀ (l : List (Nat × α)), jv_as l n = some v → (n, v) ∈ l
  | [], h => by cases h
  | a :: l, h => by
    unfold jv_as at h
    split at h
    · rename_i e
      cases h
      rw [← e]
      exact List.mem_cons_self
    · exact List.mem_cons_of_mem _ (jv_as_mem l h)
def jv_byt : List (List Int32) := [[116, 114, 97, 105, 110], [102, 105, 114, 115, 116], [115, 101, 97, 116], [116, 105, 99, 107, 101, 116], [102, 97, 109, 105, 108, 121], [119, 105, 110, 100, 111, 119], [97, 104, 101, 97, 100], [114, 111, 119], [115, 119, 101, 101, 116, 115], [115, 116, 111, 112], [116, 114, 97, 105, 110, 32], [32, 102, 105, 114, 115, 116, 32], [115, 101, 97, 116, 32], [32, 116, 105, 99, 107, 101, 116], [32, 102, 97, 109, 105, 108, 121, 32], [32, 119, 105, 110, 100, 111, 119, 32], [32, 97, 104, 101, 97, 100, 32], [32, 114, 111, 119, 32], [32, 115, 119, 101, 101, 116, 115, 32], [32, 115, 116, 111, 112, 32], [116, 114, 97, 105, 110, 32], [32, 102, 105, 114, 115, 116, 32], [97, 110, 110], [98, 111], [99, 121], [100, 97, 110], [101, 118, 101], [115, 101, 97, 116, 32], [32, 116, 105, 99, 107, 101, 116], [], [32, 102, 97, 109, 105, 108, 121, 32], [32, 119, 105, 110, 100, 111, 119, 32], [32, 97, 104, 101, 97, 100, 32], [32, 114, 111, 119, 32], [32, 115, 119, 101, 101, 116, 115, 32], [32, 115, 116, 111, 112, 32], [122, 111, 101]]
def jv_lens : List Nat := [5, 5, 4, 6, 6, 6, 5, 3, 6, 4, 6, 7, 5, 7, 8, 8, 7, 5, 8, 6, 6, 7, 3, 2, 2, 3, 3, 5, 7, 0, 8, 8, 7, 5, 8, 6, 3]
/-- which text lies at a place: 1000001 + its number -/
def jv_tix (a : Nat) : Option Nat := (List.range 37).find? (fun i => Nat.beq a (1000001 + i))
theorem jv_tix_eq {a i : Nat} (h : jv_tix a = some i) : i < 37 ∧ a = 1000001 + i := by
  unfold jv_tix at h
  exact ⟨List.mem_range.mp (List.mem_of_find?_eq_some h), Nat.eq_of_beq_eq_true (List.find?_some (p := fun i => Nat.beq a (1000001 + i)) h)⟩
def jv_mo (i : Nat) (w : Cond) : Bool := match jv_more[i]? with
  | some u => decide (u = w) && goodWord w
  | none => false
theorem jv_mo_ok {i : Nat} {w : Cond} (h : jv_mo i w = true) : w ∈ jv_T := by
  unfold jv_mo at h
  split at h
  · rename_i u e
    simp only [Bool.and_eq_true, decide_eq_true_eq] at h
    obtain ⟨h1, h2⟩ := h
    subst h1
    exact List.mem_filter.mpr ⟨List.mem_append_left _ (List.mem_of_getElem? e), h2⟩
  · cases h
def jv_hm0 : List (List Nat) := [[1201, 1200, 0, 1031], [2122, 2120, 2121, 1031], [3079, 3077, 3078, 1031], [3164, 3163, 22, 1031], [3169, 3168, 23, 1031], [3160, 3158, 3159, 1031], [1201, 1200, 0, 1031], [2060, 2059, 0, 1032], [3083, 3081, 3082, 1032], [3152, 3151, 21, 1032], [3148, 3146, 3147, 1032], [3177, 3175, 3176, 1032], [1056, 1055, 0, 1026], [2137, 2136, 0, 1026], [2126, 2125, 0, 1026], [2130, 2129, 1, 1026]]
def jv_hm1 : List (List Nat) := [[2211, 2210, 7, 1026], [2146, 2145, 3, 1026], [2256, 2255, 13, 1026], [2252, 2251, 12, 1026], [2248, 2247, 11, 1026], [2206, 2205, 6, 1026], [2198, 2197, 4, 1026], [2142, 2141, 2, 1026], [2267, 2266, 14, 1026], [2202, 2201, 5, 1026], [2271, 2270, 15, 1026], [2224, 2223, 9, 1026], [2244, 2243, 10, 1026], [6155, 6153, 6154, 1026], [6162, 6160, 6161, 1026], [2114, 2112, 2113, 1026]]
def jv_hm2 : List (List Nat) := [[2215, 2214, 8, 1026], [1174, 1173, 0, 1029], [3248, 3246, 3247, 1029], [3270, 3269, 28, 1029], [3281, 3280, 29, 1029], [3286, 3285, 30, 1029], [3263, 3262, 27, 1029], [3253, 3252, 25, 1029], [3259, 3258, 26, 1029], [1062, 1061, 0, 1027], [3304, 3302, 3303, 1027], [3308, 3306, 3307, 1027], [4096, 3311, 31, 1027], [2134, 2132, 2133, 1027], [1192, 1191, 0, 1030], [2118, 2116, 2117, 1030]]
def jv_hm3 : List (List Nat) := [[3075, 3073, 3074, 1030], [2236, 2234, 2235, 1030], [2240, 2238, 2239, 1030], [3194, 3192, 3193, 1030], [5170, 5168, 5169, 1030], [3210, 3208, 3209, 1030], [6171, 6169, 6170, 1030], [2232, 2230, 2231, 1030], [2228, 2226, 2227, 1030], [2275, 2273, 2274, 1030], [3134, 3132, 3133, 1030], [5355, 5353, 5354, 1030], [3120, 3119, 18, 1030], [2287, 2286, 16, 1030], [2279, 2277, 2278, 1030], [5347, 5346, 34, 1030]]
def jv_hm4 : List (List Nat) := [[5343, 5341, 5342, 1030], [3112, 3110, 3111, 1030], [3108, 3106, 3107, 1030], [3116, 3114, 3115, 1030], [3126, 3125, 0, 1030], [3104, 3102, 3103, 1030], [3186, 3184, 3185, 1030], [3220, 3218, 3219, 1030], [5188, 5186, 5187, 1030], [5223, 5222, 32, 1030], [5219, 5217, 5218, 1030], [5227, 5225, 5226, 1030], [5231, 5229, 5230, 1030], [5235, 5233, 5234, 1030], [3202, 3200, 3201, 1030], [5207, 5205, 5206, 1030]]
def jv_hm5 : List (List Nat) := [[5211, 5209, 5210, 1030], [3198, 3196, 3197, 1030], [3190, 3188, 3189, 1030], [3143, 3142, 20, 1030], [3139, 3138, 19, 1030], [3236, 3235, 24, 1030], [5263, 5261, 5262, 1030], [5267, 5265, 5266, 1030], [3130, 3128, 3129, 1030], [5282, 5280, 5281, 1030], [5197, 5195, 5196, 1030], [5303, 5301, 5302, 1030], [3232, 3230, 3231, 1030], [3240, 3238, 3239, 1030], [5325, 5323, 5324, 1030], [3228, 3226, 3227, 1030]]
def jv_hm6 : List (List Nat) := [[5311, 5309, 5310, 1030], [5291, 5289, 5290, 1030], [3100, 3098, 3099, 1030], [1201, 1200, 0, 1031], [1201, 1200, 0, 1031], [1078, 1077, 0, 1028], [2219, 2217, 2218, 1028], [2283, 2281, 2282, 1028], [6175, 6173, 6174, 1028], [6179, 6177, 6178, 1028], [3275, 3273, 3274, 1028], [1048, 1047, 0, 1025], [3300, 3298, 3299, 1025], [4100, 4098, 4099, 1025], [2110, 2108, 2109, 1025], [3088, 3086, 3087, 1025]]
def jv_hm7 : List (List Nat) := [[6151, 6149, 6150, 1025], [6167, 6165, 6166, 1025], [5351, 5349, 5350, 1025], [5275, 5273, 5274, 1025], [5299, 5297, 5298, 1025], [5319, 5317, 5318, 1025], [3092, 3090, 3091, 1025], [5339, 5337, 5338, 1025], [6184, 6182, 6183, 1025], [6188, 6186, 6187, 1025], [3173, 3171, 3172, 1025], [3181, 3179, 3180, 1025], [3206, 3204, 3205, 1025], [1201, 1200, 0, 1031], [5166, 5164, 5165, 1025], [5215, 5213, 5214, 1025]]
def jv_hm8 : List (List Nat) := [[5202, 5200, 5201, 1025], [5184, 5182, 5183, 1025], [5250, 5248, 5249, 1025], [5193, 5191, 5192, 1025], [5179, 5177, 5178, 1025], [5259, 5257, 5258, 1025], [5271, 5269, 5270, 1025], [5307, 5305, 5306, 1025], [5287, 5285, 5286, 1025], [3224, 3222, 3223, 1025], [5332, 5330, 5331, 1025], [5359, 5357, 5358, 1025], [1201, 1200, 0, 1031], [5239, 5237, 5238, 1025], [5243, 5241, 5242, 1025], [1201, 1200, 0, 1031]]
def jv_hm9 : List (List Nat) := [[1201, 1200, 0, 1031], [3244, 3242, 3243, 1025], [5153, 5151, 5152, 1025], [3213, 3212, 0, 1025], [5278, 5277, 0, 1025], [5254, 5253, 33, 1025], [3096, 3095, 17, 1025], [4308, 4307, 0, 1036], [2150, 2148, 2149, 1036], [2160, 2158, 2159, 1036], [4228, 4226, 4227, 1036], [4311, 4310, 0, 1036], [2154, 2152, 2153, 1036], [2164, 2162, 2163, 1036], [5146, 5145, 0, 1035], [4110, 4109, 0, 1035]]
def jv_hm10 : List (List Nat) := [[4135, 4133, 4134, 1035], [4273, 4271, 4272, 1035], [4246, 4244, 4245, 1035], [4303, 4301, 4302, 1035], [4131, 4130, 0, 1035], [4323, 4322, 0, 1035], [5149, 5148, 0, 1034], [4113, 4112, 0, 1034], [4146, 4145, 8000, 1034], [4150, 4149, 8001, 1034], [4138, 4127, 0, 1034], [4276, 4275, 0, 1034], [4249, 4248, 0, 1034], [4181, 4178, 4180, 1034], [4205, 4204, 8002, 1034], [4201, 4200, 8003, 1034]]
def jv_hm11 : List (List Nat) := [[4317, 4314, 4316, 1034], [4325, 4319, 0, 1034], [4255, 4254, 0, 1043], [4252, 4251, 0, 1043], [4156, 4155, 0, 1033], [4173, 4172, 0, 1033], [2167, 2166, 0, 1042], [4279, 4278, 0, 1042], [4163, 4162, 0, 1039], [4329, 4328, 0, 1039], [4332, 4331, 0, 1039], [4335, 4334, 0, 1039], [4153, 4152, 0, 1038], [3294, 3293, 0, 1024], [4104, 4103, 0, 1024], [5143, 5142, 0, 1024]]
def jv_hm12 : List (List Nat) := [[5156, 5155, 0, 1024], [5162, 5161, 0, 1024], [5246, 5245, 0, 1024], [5295, 5294, 0, 1024], [5315, 5314, 0, 1024], [5328, 5327, 0, 1024], [5335, 5334, 0, 1024], [6146, 6145, 0, 1024], [1201, 1200, 0, 1031], [1201, 1200, 0, 1031], [1201, 1200, 0, 1031], [1201, 1200, 0, 1031], [1201, 1200, 0, 1031], [1201, 1200, 0, 1031], [1201, 1200, 0, 1031], [1201, 1200, 0, 1031]]
def jv_hm13 : List (List Nat) := [[1201, 1200, 0, 1031], [1201, 1200, 0, 1031], [1201, 1200, 0, 1031], [1201, 1200, 0, 1031], [1201, 1200, 0, 1031], [1201, 1200, 0, 1031], [1201, 1200, 0, 1031], [1201, 1200, 0, 1031], [1201, 1200, 0, 1031], [1201, 1200, 0, 1031], [1201, 1200, 0, 1031], [1201, 1200, 0, 1031], [1201, 1200, 0, 1031], [1201, 1200, 0, 1031], [1201, 1200, 0, 1031], [1201, 1200, 0, 1031]]
def jv_hm14 : List (List Nat) := [[1201, 1200, 0, 1031], [1201, 1200, 0, 1031], [1201, 1200, 0, 1031], [1201, 1200, 0, 1031], [1201, 1200, 0, 1031], [1201, 1200, 0, 1031], [1201, 1200, 0, 1031], [1201, 1200, 0, 1031], [1201, 1200, 0, 1031], [1201, 1200, 0, 1031], [1201, 1200, 0, 1031], [1201, 1200, 0, 1031], [1201, 1200, 0, 1031], [1201, 1200, 0, 1031], [1201, 1200, 0, 1031], [1201, 1200, 0, 1031]]
def jv_hm15 : List (List Nat) := [[1201, 1200, 0, 1031], [1201, 1200, 0, 1031], [1201, 1200, 0, 1031], [1201, 1200, 0, 1031], [1201, 1200, 0, 1031], [1201, 1200, 0, 1031], [1201, 1200, 0, 1031], [1201, 1200, 0, 1031], [1201, 1200, 0, 1031], [1201, 1200, 0, 1031], [1201, 1200, 0, 1031], [1201, 1200, 0, 1031], [1201, 1200, 0, 1031], [1201, 1200, 0, 1031], [1201, 1200, 0, 1031], [1201, 1200, 0, 1031]]
def jv_hm16 : List (List Nat) := [[1201, 1200, 0, 1031], [1201, 1200, 0, 1031], [1201, 1200, 0, 1031], [1201, 1200, 0, 1031], [1201, 1200, 0, 1031], [1201, 1200, 0, 1031], [1201, 1200, 0, 1031], [1201, 1200, 0, 1031], [1201, 1200, 0, 1031], [1201, 1200, 0, 1031], [1201, 1200, 0, 1031], [1201, 1200, 0, 1031], [1201, 1200, 0, 1031], [3155, 3154, 0, 1033], [3123, 3122, 0, 1033]]
def jv_hms : List (List (List Nat)) := [jv_hm0, jv_hm1, jv_hm2, jv_hm3, jv_hm4, jv_hm5, jv_hm6, jv_hm7, jv_hm8, jv_hm9, jv_hm10, jv_hm11, jv_hm12, jv_hm13, jv_hm14, jv_hm15, jv_hm16]
def jv_hm (y : Nat) : Option (List Nat) := match jv_nth jv_hms (y / 16) with
  | none => none
  | some a => jv_nth a (y % 16)
def jv_ckm (y : Nat) : Bool := match jv_inf y, jv_hm y with
  | some (ow, kd, na, mL, _, _), some [a, b, c, d] =>
    jv_in a (.code (jv_ym y).1 (jv_ym y).2.1 mL (jv_ym y).2.2) && jv_in d (.initialized (jv_ym y).1.cls) && plainFor (jv_ym y).1 &&
    decide ((jv_ym y).1.cls = jv_own ow ∧ ((jv_ym y).1.cls ≠ "java/lang/invoke/MethodHandle" ∧ (jv_ym y).1.cls ≠ "java/lang/invoke/VarHandle" ∧ (parseMethodDescriptor (jv_ym y).1.desc).map (fun d => d.parameters.length) = some (if kd = 0 then na else na - 1)) ∧ na ≤ mL ∧ (kd ≠ 0 → 1 ≤ na)) &&
    (match kd with
     | 0 => jv_in b (.static (jv_ym y).1)
     | 1 => jv_in b (.instanceMethod (jv_ym y).1) && (jv_in c (.selects (jv_own (jv_rc ow)) (jv_ym y).1 (jv_ym y).1) || jv_mo (c - 8000) (.selects (jv_own (jv_rc ow)) (jv_ym y).1 (jv_ym y).1))
     | 2 => jv_in b (.instanceMethod (jv_ym y).1) && decide ((jv_ym y).1.name = "<init>" ∧ (jv_ym y).2.2 = none)
     | _ => jv_in b (.instanceMethod (jv_ym y).1) && decide ((jv_ym y).1.name ≠ "<init>" ∧ (kd = 3 ∨ kd = 5)))
  | _, _ => false
theorem jv_mg0 : ∀ k, k < 16 → jv_ckm (0 + k) = true := by decide +kernel
theorem jv_mg1 : ∀ k, k < 16 → jv_ckm (16 + k) = true := by decide +kernel
theorem jv_mg2 : ∀ k, k < 16 → jv_ckm (32 + k) = true := by decide +kernel
theorem jv_mg3 : ∀ k, k < 16 → jv_ckm (48 + k) = true := by decide +kernel
theorem jv_mg4 : ∀ k, k < 16 → jv_ckm (64 + k) = true := by decide +kernel
theorem jv_mg5 : ∀ k, k < 16 → jv_ckm (80 + k) = true := by decide +kernel
theorem jv_mg6 : ∀ k, k < 16 → jv_ckm (96 + k) = true := by decide +kernel
theorem jv_mg7 : ∀ k, k < 16 → jv_ckm (112 + k) = true := by decide +kernel
theorem jv_mg8 : ∀ k, k < 16 → jv_ckm (128 + k) = true := by decide +kernel
theorem jv_mg9 : ∀ k, k < 16 → jv_ckm (144 + k) = true := by decide +kernel
theorem jv_mg10 : ∀ k, k < 16 → jv_ckm (160 + k) = true := by decide +kernel
theorem jv_mg11 : ∀ k, k < 16 → jv_ckm (176 + k) = true := by decide +kernel
theorem jv_mg12 : ∀ k, k < 16 → jv_ckm (192 + k) = true := by decide +kernel
theorem jv_mg13 : ∀ k, k < 16 → jv_ckm (208 + k) = true := by decide +kernel
theorem jv_mg14 : ∀ k, k < 16 → jv_ckm (224 + k) = true := by decide +kernel
theorem jv_mg15 : ∀ k, k < 16 → jv_ckm (240 + k) = true := by decide +kernel
theorem jv_mg16 : ∀ k, k < 15 → jv_ckm (256 + k) = true := by decide +kernel
theorem jv_ckm_ok (y : Nat) (h : y < 271) : jv_ckm y = true := by
  by_cases h0 : y < 16
  · have := jv_mg0 (y - 0) (by omega); rwa [show 0 + (y - 0) = y by omega] at this
  by_cases h1 : y < 32
  · have := jv_mg1 (y - 16) (by omega); rwa [show 16 + (y - 16) = y by omega] at this
  by_cases h2 : y < 48
  · have := jv_mg2 (y - 32) (by omega); rwa [show 32 + (y - 32) = y by omega] at this
  by_cases h3 : y < 64
  · have := jv_mg3 (y - 48) (by omega); rwa [show 48 + (y - 48) = y by omega] at this
  by_cases h4 : y < 80
  · have := jv_mg4 (y - 64) (by omega); rwa [show 64 + (y - 64) = y by omega] at this
  by_cases h5 : y < 96
  · have := jv_mg5 (y - 80) (by omega); rwa [show 80 + (y - 80) = y by omega] at this
  by_cases h6 : y < 112
  · have := jv_mg6 (y - 96) (by omega); rwa [show 96 + (y - 96) = y by omega] at this
  by_cases h7 : y < 128
  · have := jv_mg7 (y - 112) (by omega); rwa [show 112 + (y - 112) = y by omega] at this
  by_cases h8 : y < 144
  · have := jv_mg8 (y - 128) (by omega); rwa [show 128 + (y - 128) = y by omega] at this
  by_cases h9 : y < 160
  · have := jv_mg9 (y - 144) (by omega); rwa [show 144 + (y - 144) = y by omega] at this
  by_cases h10 : y < 176
  · have := jv_mg10 (y - 160) (by omega); rwa [show 160 + (y - 160) = y by omega] at this
  by_cases h11 : y < 192
  · have := jv_mg11 (y - 176) (by omega); rwa [show 176 + (y - 176) = y by omega] at this
  by_cases h12 : y < 208
  · have := jv_mg12 (y - 192) (by omega); rwa [show 192 + (y - 192) = y by omega] at this
  by_cases h13 : y < 224
  · have := jv_mg13 (y - 208) (by omega); rwa [show 208 + (y - 208) = y by omega] at this
  by_cases h14 : y < 240
  · have := jv_mg14 (y - 224) (by omega); rwa [show 224 + (y - 224) = y by omega] at this
  by_cases h15 : y < 256
  · have := jv_mg15 (y - 240) (by omega); rwa [show 240 + (y - 240) = y by omega] at this
  by_cases h16 : y < 271
  · have := jv_mg16 (y - 256) (by omega); rwa [show 256 + (y - 256) = y by omega] at this
  omega
def jv_hfs : List (List (Nat × Nat)) := [[(11, 1203), (15, 1204), (19, 1205)],
  [(11, 2064), (16, 2066), (20, 2065)],
  [(12, 1149), (21, 1151), (25, 1156), (29, 1154), (36, 1152), (39, 1067), (49, 1155), (129, 1222), (132, 1226), (143, 1087), (148, 1082), (154, 1092), (156, 1097), (161, 1102), (163, 1107), (165, 1112), (167, 1117), (170, 1121), (172, 1127)],
  [(9, 1176), (15, 1178), (18, 1179), (27, 1220), (38, 1224), (44, 1230), (57, 1084), (66, 1089), (73, 1094), (82, 1099), (91, 1104), (94, 1109), (97, 1114), (104, 1119), (109, 1124)],
  [(9, 1064), (13, 1065)],
  [(11, 1214), (18, 1215), (22, 1216), (29, 1217), (33, 1219), (37, 1223), (43, 1227), (46, 1229), (49, 1232), (52, 1234), (55, 1236), (58, 1238), (61, 1240), (83, 1086), (90, 1091), (97, 1096), (108, 1126), (119, 1116), (122, 1111), (130, 1101), (137, 1106), (159, 1122)],
  [(9, 1080), (15, 1083), (18, 1088), (21, 1093), (24, 1098), (27, 1103), (30, 1108), (33, 1113), (36, 1118), (39, 1123)],
  [(10, 2077), (16, 1150), (20, 2076), (24, 2078), (31, 2079), (35, 2080), (41, 2081), (45, 2082), (49, 2083), (56, 2084), (60, 2085), (74, 1066), (85, 1153), (95, 1231), (122, 1081), (125, 1085), (128, 1090), (131, 1095), (134, 1120), (137, 1125), (144, 1218), (172, 1221), (175, 1225), (225, 1233), (228, 1228), (234, 2067), (247, 1235), (250, 1237), (253, 1239), (256, 1241), (265, 1206), (268, 1100), (271, 1105), (274, 1110), (277, 1115), (342, 1177), (343, 1180)],
  [(9, 5130), (15, 5131), (1048, 4233)],
  [],
  [],
  [(15, 4231), (22, 4232), (79, 4234)],
  [],
  [],
  [],
  [],
  [],
  []]
def jv_hf (ow i : Nat) : Nat := ((jv_nth jv_hfs ow).bind (fun a => jv_as a i)).getD 0
def jv_hcs : List (List (Nat × Nat)) := [[(3, 1202), (22, 3165), (28, 3161), (31, 3166)],
  [(1, 2061), (15, 2063), (23, 3153), (29, 3149), (33, 3156)],
  [(3, 1057), (11, 1060), (20, 1076), (33, 2127), (42, 2131), (46, 2135), (52, 2147), (57, 2157), (63, 2143), (85, 2253), (89, 2195), (93, 2203), (96, 2208), (100, 2199), (104, 2225), (110, 2237), (113, 2245), (116, 2249), (119, 2123), (122, 2115), (125, 2139), (134, 2212), (138, 2216), (139, 2221), (145, 2241), (151, 2264), (158, 2268), (174, 2272), (178, 2276)],
  [(3, 1175), (23, 3250), (32, 3260), (41, 3256), (47, 3266), (51, 3267), (62, 3272), (76, 3278), (85, 3283), (112, 3287), (118, 3254), (123, 3255)],
  [(1, 1063), (17, 3309)],
  [(3, 1193), (17, 1196), (28, 1199), (40, 2119), (64, 2233), (68, 2280), (72, 3076), (75, 5171), (79, 3211), (86, 2229), (93, 3135), (100, 2284), (104, 5283), (111, 5344), (115, 3113), (125, 3121), (133, 3124), (140, 3109), (144, 3117), (147, 3105), (150, 5189), (153, 5220), (156, 3199), (162, 3140), (166, 3136), (169, 3101), (172, 3131), (175, 5198), (178, 3233), (181, 3229), (185, 3237), (188, 5312), (191, 3127), (194, 5292)],
  [(3, 1079)],
  [(1, 1049), (9, 1054), (23, 1172), (30, 1190), (40, 2054), (55, 2058), (64, 3301), (70, 3305), (77, 4101), (81, 2111), (88, 3072), (92, 3080), (98, 5167), (102, 6152), (105, 6156), (108, 6157), (112, 3145), (115, 6158), (118, 6159), (140, 6163), (150, 3157), (154, 3207), (157, 6168), (160, 3214), (164, 6172), (168, 6176), (178, 5352), (181, 5251), (184, 5255), (188, 5276), (191, 5260), (195, 5279), (198, 5194), (201, 5180), (204, 3215), (207, 5300), (210, 5320), (213, 5321), (216, 5322), (219, 3093), (222, 3144), (231, 5340), (235, 3174), (238, 3182), (241, 3183), (244, 3187), (259, 3191), (262, 3195), (280, 3216), (284, 3217), (290, 5172), (293, 5216), (296, 5224), (299, 5228), (302, 5232), (305, 5203), (308, 5204), (311, 5208), (314, 5185), (317, 5264), (320, 5308), (323, 5288), (326, 3225), (338, 3245), (346, 3097)],
  [(1, 4312), (54, 4327), (212, 4229), (335, 2151), (489, 4309), (492, 2161), (495, 2165), (549, 4318), (552, 4313), (1047, 4326)],
  [(1, 5147), (7, 4111), (23, 4132), (29, 4136), (50, 4274), (53, 4247), (137, 4306), (343, 4324)],
  [(7, 3295), (13, 3296), (17, 3297), (23, 4097), (31, 4108), (34, 4243), (39, 4269), (42, 4270), (74, 4300), (78, 5144), (79, 3241), (82, 5150), (89, 3178), (94, 3203), (98, 5163), (103, 5175), (108, 5176), (111, 5181), (114, 5190), (117, 5199), (120, 5212), (123, 5236), (127, 5240), (131, 5247), (135, 5256), (138, 5268), (141, 5272), (144, 3170), (147, 5284), (150, 5296), (153, 5304), (156, 5316), (159, 3221), (162, 5154), (168, 5329), (171, 3089), (174, 5336), (177, 5348), (180, 5356), (185, 3292), (189, 6148), (192, 6164), (195, 6180), (198, 6181), (201, 6185), (205, 1046), (206, 5160), (210, 4102), (214, 2107), (217, 3085), (220, 6144), (224, 5244), (227, 5293), (231, 5313), (233, 5326), (236, 5333), (239, 5141)],
  [(3, 4114), (32, 4115), (40, 4118), (43, 4126), (83, 4177), (100, 4143), (104, 4147), (108, 4161), (114, 4151), (191, 4277), (208, 4198), (245, 4250), (248, 4253), (397, 4202), (399, 4225)],
  [],
  [],
  [(9, 2168)],
  [(150, 4174), (304, 4171), (310, 4164), (339, 4330), (343, 4333)],
  [(194, 4154)],
  []]
def jv_hc (ow i : Nat) : Nat := ((jv_nth jv_hcs ow).bind (fun a => jv_as a i)).getD 0
def jv_hns : List (List (Nat × Nat)) := [[],
  [(9, 2062)],
  [(9, 1058), (18, 1074)],
  [],
  [],
  [(9, 1194), (26, 1197)],
  [],
  [(7, 1052), (21, 1170), (28, 1188), (38, 2053), (53, 2056)],
  [],
  [(18, 4304)],
  [(8, 4283), (18, 1044), (27, 4105)],
  [],
  [],
  [],
  [],
  [],
  [],
  []]
def jv_hn (ow i : Nat) : Nat := ((jv_nth jv_hns ow).bind (fun a => jv_as a i)).getD 0
def jv_hls : List (List (Nat × Nat)) := [[],
  [],
  [(61, 2138), (67, 2207), (69, 2220), (71, 2257), (73, 2258), (75, 2259), (77, 2260), (79, 2261), (81, 2262), (83, 2263)],
  [(21, 3249), (36, 3265), (55, 3271), (69, 3276), (71, 3277), (80, 3282), (89, 3288), (100, 3289), (102, 3290), (107, 3291), (117, 3264)],
  [],
  [],
  [],
  [],
  [],
  [],
  [(29, 4107), (37, 4268), (45, 4285), (47, 4286), (49, 4287), (51, 4288), (53, 4289), (55, 4290), (56, 4291), (58, 4292), (60, 4293), (62, 4294), (64, 4295), (66, 4296), (68, 4297), (70, 4298), (72, 4299), (183, 6147), (204, 6189)],
  [(38, 4116), (39, 4117)],
  [],
  [],
  [],
  [],
  [(200, 4157)],
  []]
def jv_hl (ow i : Nat) : Nat := ((jv_nth jv_hls ow).bind (fun a => jv_as a i)).getD 0
/-- the classes -/
theorem jv_cls_ok : ∀ c, c < 10 → jv_Cl[c]? = some (jv_own c, jv_fT c, jv_fn c) := by
  intro c h
  match c, h with
  | 0, _ => rfl
  | 1, _ => rfl
  | 2, _ => rfl
  | 3, _ => rfl
  | 4, _ => rfl
  | 5, _ => rfl
  | 6, _ => rfl
  | 7, _ => rfl
  | 8, _ => rfl
  | 9, _ => rfl
  | c + 10, h => omega
/-- links to private members of nest mates: no words of the tables, carried beside them -/
def jv_nests : List Cond := [.methodLinkNest (jv_own 2) 20 (jv_ym 101).1 "SeatSwap", .methodLinkNest (jv_own 5) 17 (jv_ym 101).1 "SeatSwap", .methodLinkNest (jv_own 5) 79 (jv_ym 147).1 "SeatSwap", .methodLinkNest (jv_own 7) 23 (jv_ym 33).1 "SeatSwap", .methodLinkNest (jv_own 7) 40 (jv_ym 101).1 "SeatSwap"]
theorem jv_nests_in : ∀ w ∈ jv_nests, w ∈ lw_tbl := by
  intro w hw
  have h : jv_nests = ([87, 207, 654, 183, 281] : List Nat).filterMap (fun i => lw_tbl[i]?) := by decide +kernel
  rw [h] at hw
  obtain ⟨i, -, hi⟩ := List.mem_filterMap.mp hw
  exact List.mem_of_getElem? hi
def jv_ckf1 (ow : Nat) (q : Nat × Nat × Nat) : Bool := decide (q.2.1 < 10 ∧ q.2.2 < jv_fn q.2.1) && jv_in (jv_hf ow q.1) (.fieldLink (jv_own ow) q.1 (jv_fT q.2.1 q.2.2).1 (jv_fT q.2.1 q.2.2).2.1 (jv_fT q.2.1 q.2.2).2.2.1)
/-- links that name another method than the one that runs: AbstractStringBuilder's, overridden by StringBuilder's -/
def jv_alt (ow i : Nat) : Option MethodName := if ow = 8 ∧ i = 549 then some yJ5_length_8abf5 else
  if ow = 11 ∧ i = 43 then some yJ5_append_cf1ce else
  none
def jv_sam : List (String × Nat) := []
def jv_ckc1 (ow : Nat) (q : Nat × Nat × Nat × Nat) : Bool :=
  if q.2.1 = 900 then jv_in (jv_hc ow q.1) (.methodLink (jv_own ow) q.1 Lib.objectInit)
  else if q.2.1 = 903 then jv_in (jv_hc ow q.1) (.methodLink (jv_own ow) q.1 yJ0_checkIndex_df160)
  else if q.2.1 = 904 then jv_in (jv_hc ow q.1) (.methodLink (jv_own ow) q.1 arraycopyName)
  else if q.2.1 = 905 then jv_in (jv_hc ow q.1) (.methodLink (jv_own ow) q.1 ⟨"[B", "clone", "()Ljava/lang/Object;"⟩)
  else match jv_inf q.2.1 with
  | some (_, kd, na, _) => decide (na = q.2.2.1 ∧ q.2.1 < 271) && (if q.2.2.2 = 0 then (match jv_alt ow q.1 with
    | none => decide (kd ≠ 5) && jv_in (jv_hc ow q.1) (.methodLink (jv_own ow) q.1 (jv_ym q.2.1).1)
    | some x => decide (kd = 5) && jv_in (jv_hc ow q.1) (.methodLink (jv_own ow) q.1 x)) else decide (kd ≠ 5) && decide (Cond.methodLinkNest (jv_own ow) q.1 (jv_ym q.2.1).1 "SeatSwap" ∈ jv_nests))
  | none => false
def jv_ckn1 (ow : Nat) (q : Nat × Nat) : Bool := decide (q.2 < 10) && jv_in (jv_hn ow q.1) (.classLink (jv_own ow) q.1 (jv_own q.2))
def jv_ckl1 (ow : Nat) (q : Nat × Value) : Bool := match q.2 with
  | .int v => jv_in (jv_hl ow q.1) (.constant (jv_own ow) q.1 v)
  | .ref a => match jv_tix a with
    | some i => match jv_str[i]? with
      | some (own, idx, _) => decide (own = jv_own ow ∧ idx = q.1)
      | none => false
    | none => false
  | _ => false
theorem jv_kf0 : (jv_fld0).all (jv_ckf1 0) = true := by decide +kernel
theorem jv_kf1 : (jv_fld1).all (jv_ckf1 1) = true := by decide +kernel
theorem jv_kf2 : (jv_fld2).all (jv_ckf1 2) = true := by decide +kernel
theorem jv_kf3 : (jv_fld3).all (jv_ckf1 3) = true := by decide +kernel
theorem jv_kf4 : (jv_fld4).all (jv_ckf1 4) = true := by decide +kernel
theorem jv_kf5 : (jv_fld5).all (jv_ckf1 5) = true := by decide +kernel
theorem jv_kf6 : (jv_fld6).all (jv_ckf1 6) = true := by decide +kernel
theorem jv_kf7 : (jv_fld7).all (jv_ckf1 7) = true := by decide +kernel
theorem jv_kf8 : (jv_fld8).all (jv_ckf1 8) = true := by decide +kernel
theorem jv_kf9 : (jv_fld9).all (jv_ckf1 9) = true := by decide +kernel
theorem jv_kf10 : (jv_fld10).all (jv_ckf1 10) = true := by decide +kernel
theorem jv_kf11 : (jv_fld11).all (jv_ckf1 11) = true := by decide +kernel
theorem jv_kf12 : (jv_fld12).all (jv_ckf1 12) = true := by decide +kernel
theorem jv_kf13 : (jv_fld13).all (jv_ckf1 13) = true := by decide +kernel
theorem jv_kf14 : (jv_fld14).all (jv_ckf1 14) = true := by decide +kernel
theorem jv_kf15 : (jv_fld15).all (jv_ckf1 15) = true := by decide +kernel
theorem jv_kf16 : (jv_fld16).all (jv_ckf1 16) = true := by decide +kernel
theorem jv_kf17 : (jv_fld17).all (jv_ckf1 17) = true := by decide +kernel
theorem jv_ckf_ok {ow i : Nat} {v : Nat × Nat} (h : jv_fld ow i = some v) : jv_ckf1 ow (i, v) = true := by
  unfold jv_fld at h
  split at h
  · cases h
  · rename_i a ha
    have hm := jv_as_mem a h
    match ow, ha with
    | 0, ha => cases ha; exact List.all_eq_true.mp jv_kf0 _ hm
    | 1, ha => cases ha; exact List.all_eq_true.mp jv_kf1 _ hm
    | 2, ha => cases ha; exact List.all_eq_true.mp jv_kf2 _ hm
    | 3, ha => cases ha; exact List.all_eq_true.mp jv_kf3 _ hm
    | 4, ha => cases ha; exact List.all_eq_true.mp jv_kf4 _ hm
    | 5, ha => cases ha; exact List.all_eq_true.mp jv_kf5 _ hm
    | 6, ha => cases ha; exact List.all_eq_true.mp jv_kf6 _ hm
    | 7, ha => cases ha; exact List.all_eq_true.mp jv_kf7 _ hm
    | 8, ha => cases ha; exact List.all_eq_true.mp jv_kf8 _ hm
    | 9, ha => cases ha; exact List.all_eq_true.mp jv_kf9 _ hm
    | 10, ha => cases ha; exact List.all_eq_true.mp jv_kf10 _ hm
    | 11, ha => cases ha; exact List.all_eq_true.mp jv_kf11 _ hm
    | 12, ha => cases ha; exact List.all_eq_true.mp jv_kf12 _ hm
    | 13, ha => cases ha; exact List.all_eq_true.mp jv_kf13 _ hm
    | 14, ha => cases ha; exact List.all_eq_true.mp jv_kf14 _ hm
    | 15, ha => cases ha; exact List.all_eq_true.mp jv_kf15 _ hm
    | 16, ha => cases ha; exact List.all_eq_true.mp jv_kf16 _ hm
    | 17, ha => cases ha; exact List.all_eq_true.mp jv_kf17 _ hm
    | ow + 18, ha => rw [show jv_nth jv_flds (ow + 18) = jv_nth ([] : List (List (Nat × Nat × Nat))) ow from rfl, jv_nil] at ha; cases ha
theorem jv_kc0 : (jv_cal0).all (jv_ckc1 0) = true := by decide +kernel
theorem jv_kc1 : (jv_cal1).all (jv_ckc1 1) = true := by decide +kernel
theorem jv_kc2 : (jv_cal2).all (jv_ckc1 2) = true := by decide +kernel
theorem jv_kc3 : (jv_cal3).all (jv_ckc1 3) = true := by decide +kernel
theorem jv_kc4 : (jv_cal4).all (jv_ckc1 4) = true := by decide +kernel
theorem jv_kc5 : (jv_cal5).all (jv_ckc1 5) = true := by decide +kernel
theorem jv_kc6 : (jv_cal6).all (jv_ckc1 6) = true := by decide +kernel
theorem jv_kc7 : (jv_cal7).all (jv_ckc1 7) = true := by decide +kernel
theorem jv_kc8 : (jv_cal8).all (jv_ckc1 8) = true := by decide +kernel
theorem jv_kc9 : (jv_cal9).all (jv_ckc1 9) = true := by decide +kernel
theorem jv_kc10 : (jv_cal10).all (jv_ckc1 10) = true := by decide +kernel
theorem jv_kc11 : (jv_cal11).all (jv_ckc1 11) = true := by decide +kernel
theorem jv_kc12 : (jv_cal12).all (jv_ckc1 12) = true := by decide +kernel
theorem jv_kc13 : (jv_cal13).all (jv_ckc1 13) = true := by decide +kernel
theorem jv_kc14 : (jv_cal14).all (jv_ckc1 14) = true := by decide +kernel
theorem jv_kc15 : (jv_cal15).all (jv_ckc1 15) = true := by decide +kernel
theorem jv_kc16 : (jv_cal16).all (jv_ckc1 16) = true := by decide +kernel
theorem jv_kc17 : (jv_cal17).all (jv_ckc1 17) = true := by decide +kernel
theorem jv_ckc_ok {ow i : Nat} {v : Nat × Nat × Nat} (h : jv_cal ow i = some v) : jv_ckc1 ow (i, v) = true := by
  unfold jv_cal at h
  split at h
  · cases h
  · rename_i a ha
    have hm := jv_as_mem a h
    match ow, ha with
    | 0, ha => cases ha; exact List.all_eq_true.mp jv_kc0 _ hm
    | 1, ha => cases ha; exact List.all_eq_true.mp jv_kc1 _ hm
    | 2, ha => cases ha; exact List.all_eq_true.mp jv_kc2 _ hm
    | 3, ha => cases ha; exact List.all_eq_true.mp jv_kc3 _ hm
    | 4, ha => cases ha; exact List.all_eq_true.mp jv_kc4 _ hm
    | 5, ha => cases ha; exact List.all_eq_true.mp jv_kc5 _ hm
    | 6, ha => cases ha; exact List.all_eq_true.mp jv_kc6 _ hm
    | 7, ha => cases ha; exact List.all_eq_true.mp jv_kc7 _ hm
    | 8, ha => cases ha; exact List.all_eq_true.mp jv_kc8 _ hm
    | 9, ha => cases ha; exact List.all_eq_true.mp jv_kc9 _ hm
    | 10, ha => cases ha; exact List.all_eq_true.mp jv_kc10 _ hm
    | 11, ha => cases ha; exact List.all_eq_true.mp jv_kc11 _ hm
    | 12, ha => cases ha; exact List.all_eq_true.mp jv_kc12 _ hm
    | 13, ha => cases ha; exact List.all_eq_true.mp jv_kc13 _ hm
    | 14, ha => cases ha; exact List.all_eq_true.mp jv_kc14 _ hm
    | 15, ha => cases ha; exact List.all_eq_true.mp jv_kc15 _ hm
    | 16, ha => cases ha; exact List.all_eq_true.mp jv_kc16 _ hm
    | 17, ha => cases ha; exact List.all_eq_true.mp jv_kc17 _ hm
    | ow + 18, ha => rw [show jv_nth jv_cals (ow + 18) = jv_nth ([] : List (List (Nat × Nat × Nat × Nat))) ow from rfl, jv_nil] at ha; cases ha
theorem jv_kn0 : (jv_new0).all (jv_ckn1 0) = true := by decide +kernel
theorem jv_kn1 : (jv_new1).all (jv_ckn1 1) = true := by decide +kernel
theorem jv_kn2 : (jv_new2).all (jv_ckn1 2) = true := by decide +kernel
theorem jv_kn3 : (jv_new3).all (jv_ckn1 3) = true := by decide +kernel
theorem jv_kn4 : (jv_new4).all (jv_ckn1 4) = true := by decide +kernel
theorem jv_kn5 : (jv_new5).all (jv_ckn1 5) = true := by decide +kernel
theorem jv_kn6 : (jv_new6).all (jv_ckn1 6) = true := by decide +kernel
theorem jv_kn7 : (jv_new7).all (jv_ckn1 7) = true := by decide +kernel
theorem jv_kn8 : (jv_new8).all (jv_ckn1 8) = true := by decide +kernel
theorem jv_kn9 : (jv_new9).all (jv_ckn1 9) = true := by decide +kernel
theorem jv_kn10 : (jv_new10).all (jv_ckn1 10) = true := by decide +kernel
theorem jv_kn11 : (jv_new11).all (jv_ckn1 11) = true := by decide +kernel
theorem jv_kn12 : (jv_new12).all (jv_ckn1 12) = true := by decide +kernel
theorem jv_kn13 : (jv_new13).all (jv_ckn1 13) = true := by decide +kernel
theorem jv_kn14 : (jv_new14).all (jv_ckn1 14) = true := by decide +kernel
theorem jv_kn15 : (jv_new15).all (jv_ckn1 15) = true := by decide +kernel
theorem jv_kn16 : (jv_new16).all (jv_ckn1 16) = true := by decide +kernel
theorem jv_kn17 : (jv_new17).all (jv_ckn1 17) = true := by decide +kernel
theorem jv_ckn_ok {ow i : Nat} {v : Nat} (h : jv_new ow i = some v) : jv_ckn1 ow (i, v) = true := by
  unfold jv_new at h
  split at h
  · cases h
  · rename_i a ha
    have hm := jv_as_mem a h
    match ow, ha with
    | 0, ha => cases ha; exact List.all_eq_true.mp jv_kn0 _ hm
    | 1, ha => cases ha; exact List.all_eq_true.mp jv_kn1 _ hm
    | 2, ha => cases ha; exact List.all_eq_true.mp jv_kn2 _ hm
    | 3, ha => cases ha; exact List.all_eq_true.mp jv_kn3 _ hm
    | 4, ha => cases ha; exact List.all_eq_true.mp jv_kn4 _ hm
    | 5, ha => cases ha; exact List.all_eq_true.mp jv_kn5 _ hm
    | 6, ha => cases ha; exact List.all_eq_true.mp jv_kn6 _ hm
    | 7, ha => cases ha; exact List.all_eq_true.mp jv_kn7 _ hm
    | 8, ha => cases ha; exact List.all_eq_true.mp jv_kn8 _ hm
    | 9, ha => cases ha; exact List.all_eq_true.mp jv_kn9 _ hm
    | 10, ha => cases ha; exact List.all_eq_true.mp jv_kn10 _ hm
    | 11, ha => cases ha; exact List.all_eq_true.mp jv_kn11 _ hm
    | 12, ha => cases ha; exact List.all_eq_true.mp jv_kn12 _ hm
    | 13, ha => cases ha; exact List.all_eq_true.mp jv_kn13 _ hm
    | 14, ha => cases ha; exact List.all_eq_true.mp jv_kn14 _ hm
    | 15, ha => cases ha; exact List.all_eq_true.mp jv_kn15 _ hm
    | 16, ha => cases ha; exact List.all_eq_true.mp jv_kn16 _ hm
    | 17, ha => cases ha; exact List.all_eq_true.mp jv_kn17 _ hm
    | ow + 18, ha => rw [show jv_nth jv_news (ow + 18) = jv_nth ([] : List (List (Nat × Nat))) ow from rfl, jv_nil] at ha; cases ha
theorem jv_kl0 : (jv_ldc0).all (jv_ckl1 0) = true := by decide +kernel
theorem jv_kl1 : (jv_ldc1).all (jv_ckl1 1) = true := by decide +kernel
theorem jv_kl2 : (jv_ldc2).all (jv_ckl1 2) = true := by decide +kernel
theorem jv_kl3 : (jv_ldc3).all (jv_ckl1 3) = true := by decide +kernel
theorem jv_kl4 : (jv_ldc4).all (jv_ckl1 4) = true := by decide +kernel
theorem jv_kl5 : (jv_ldc5).all (jv_ckl1 5) = true := by decide +kernel
theorem jv_kl6 : (jv_ldc6).all (jv_ckl1 6) = true := by decide +kernel
theorem jv_kl7 : (jv_ldc7).all (jv_ckl1 7) = true := by decide +kernel
theorem jv_kl8 : (jv_ldc8).all (jv_ckl1 8) = true := by decide +kernel
theorem jv_kl9 : (jv_ldc9).all (jv_ckl1 9) = true := by decide +kernel
theorem jv_kl10 : (jv_ldc10).all (jv_ckl1 10) = true := by decide +kernel
theorem jv_kl11 : (jv_ldc11).all (jv_ckl1 11) = true := by decide +kernel
theorem jv_kl12 : (jv_ldc12).all (jv_ckl1 12) = true := by decide +kernel
theorem jv_kl13 : (jv_ldc13).all (jv_ckl1 13) = true := by decide +kernel
theorem jv_kl14 : (jv_ldc14).all (jv_ckl1 14) = true := by decide +kernel
theorem jv_kl15 : (jv_ldc15).all (jv_ckl1 15) = true := by decide +kernel
theorem jv_kl16 : (jv_ldc16).all (jv_ckl1 16) = true := by decide +kernel
theorem jv_kl17 : (jv_ldc17).all (jv_ckl1 17) = true := by decide +kernel
theorem jv_ckl_ok {ow i : Nat} {v : Value} (h : jv_ldc ow i = some v) : jv_ckl1 ow (i, v) = true := by
  unfold jv_ldc at h
  split at h
  · cases h
  · rename_i a ha
    have hm := jv_as_mem a h
    match ow, ha with
    | 0, ha => cases ha; exact List.all_eq_true.mp jv_kl0 _ hm
    | 1, ha => cases ha; exact List.all_eq_true.mp jv_kl1 _ hm
    | 2, ha => cases ha; exact List.all_eq_true.mp jv_kl2 _ hm
    | 3, ha => cases ha; exact List.all_eq_true.mp jv_kl3 _ hm
    | 4, ha => cases ha; exact List.all_eq_true.mp jv_kl4 _ hm
    | 5, ha => cases ha; exact List.all_eq_true.mp jv_kl5 _ hm
    | 6, ha => cases ha; exact List.all_eq_true.mp jv_kl6 _ hm
    | 7, ha => cases ha; exact List.all_eq_true.mp jv_kl7 _ hm
    | 8, ha => cases ha; exact List.all_eq_true.mp jv_kl8 _ hm
    | 9, ha => cases ha; exact List.all_eq_true.mp jv_kl9 _ hm
    | 10, ha => cases ha; exact List.all_eq_true.mp jv_kl10 _ hm
    | 11, ha => cases ha; exact List.all_eq_true.mp jv_kl11 _ hm
    | 12, ha => cases ha; exact List.all_eq_true.mp jv_kl12 _ hm
    | 13, ha => cases ha; exact List.all_eq_true.mp jv_kl13 _ hm
    | 14, ha => cases ha; exact List.all_eq_true.mp jv_kl14 _ hm
    | 15, ha => cases ha; exact List.all_eq_true.mp jv_kl15 _ hm
    | 16, ha => cases ha; exact List.all_eq_true.mp jv_kl16 _ hm
    | 17, ha => cases ha; exact List.all_eq_true.mp jv_kl17 _ hm
    | ow + 18, ha => rw [show jv_nth jv_ldcs (ow + 18) = jv_nth ([] : List (List (Nat × Value))) ow from rfl, jv_nil] at ha; cases ha
def jv_hl100 : List Nat := [1207, 1209, 1211]
theorem jv_lay0 : (List.range (jv_fn 0)).all (fun k => jv_in (jv_hl100.getD k 0) (u_lay (jv_own 0) (jv_fT 0) k)) = true := by decide +kernel
def jv_hl101 : List Nat := [2068, 2070, 2072]
theorem jv_lay1 : (List.range (jv_fn 1)).all (fun k => jv_in (jv_hl101.getD k 0) (u_lay (jv_own 1) (jv_fT 1) k)) = true := by decide +kernel
def jv_hl102 : List Nat := [1157, 1159, 1161, 1163, 1165, 1167]
theorem jv_lay2 : (List.range (jv_fn 2)).all (fun k => jv_in (jv_hl102.getD k 0) (u_lay (jv_own 2) (jv_fT 2) k)) = true := by decide +kernel
def jv_hl103 : List Nat := [1181, 1183, 1185]
theorem jv_lay3 : (List.range (jv_fn 3)).all (fun k => jv_in (jv_hl103.getD k 0) (u_lay (jv_own 3) (jv_fT 3) k)) = true := by decide +kernel
def jv_hl104 : List Nat := [1068, 1070]
theorem jv_lay4 : (List.range (jv_fn 4)).all (fun k => jv_in (jv_hl104.getD k 0) (u_lay (jv_own 4) (jv_fT 4) k)) = true := by decide +kernel
def jv_hl105 : List Nat := [1242, 1244, 1246, 1248, 1250, 1252, 1254, 1256, 1258, 1260, 1262, 2048, 2050]
theorem jv_lay5 : (List.range (jv_fn 5)).all (fun k => jv_in (jv_hl105.getD k 0) (u_lay (jv_own 5) (jv_fT 5) k)) = true := by decide +kernel
def jv_hl106 : List Nat := [1128, 1130, 1132, 1134, 1136, 1138, 1140, 1142, 1144, 1146]
theorem jv_lay6 : (List.range (jv_fn 6)).all (fun k => jv_in (jv_hl106.getD k 0) (u_lay (jv_own 6) (jv_fT 6) k)) = true := by decide +kernel
def jv_hl107 : List Nat := [2086, 2088, 2090, 2092, 2094, 2096, 2098, 2100, 2102, 2104]
theorem jv_lay7 : (List.range (jv_fn 7)).all (fun k => jv_in (jv_hl107.getD k 0) (u_lay (jv_own 7) (jv_fT 7) k)) = true := by decide +kernel
def jv_hl108 : List Nat := [5132, 5134, 5136, 5138]
theorem jv_lay8 : (List.range (jv_fn 8)).all (fun k => jv_in (jv_hl108.getD k 0) (u_lay (jv_own 8) (jv_fT 8) k)) = true := by decide +kernel
def jv_hl109 : List Nat := [4235, 4237, 4239, 4241]
theorem jv_lay9 : (List.range (jv_fn 9)).all (fun k => jv_in (jv_hl109.getD k 0) (u_lay (jv_own 9) (jv_fT 9) k)) = true := by decide +kernel
theorem jv_ws_in (c : Nat) (h : c < 10) : ∀ w ∈ u_ws (jv_own c) (jv_fT c) (jv_fn c), w ∈ jv_T := by
  intro w hw
  obtain ⟨k, hk, rfl⟩ := List.mem_map.mp hw
  match c, h with
  | 0, _ => exact jv_in_ok (List.all_eq_true.mp jv_lay0 k hk)
  | 1, _ => exact jv_in_ok (List.all_eq_true.mp jv_lay1 k hk)
  | 2, _ => exact jv_in_ok (List.all_eq_true.mp jv_lay2 k hk)
  | 3, _ => exact jv_in_ok (List.all_eq_true.mp jv_lay3 k hk)
  | 4, _ => exact jv_in_ok (List.all_eq_true.mp jv_lay4 k hk)
  | 5, _ => exact jv_in_ok (List.all_eq_true.mp jv_lay5 k hk)
  | 6, _ => exact jv_in_ok (List.all_eq_true.mp jv_lay6 k hk)
  | 7, _ => exact jv_in_ok (List.all_eq_true.mp jv_lay7 k hk)
  | 8, _ => exact jv_in_ok (List.all_eq_true.mp jv_lay8 k hk)
  | 9, _ => exact jv_in_ok (List.all_eq_true.mp jv_lay9 k hk)
  | c + 10, h => omega
theorem jv_ty_ok (c : Nat) (h : c < 10) : ∀ k, k < jv_fn c → parseFieldDescriptor (jv_fT c k).2.2.1 = some (jv_fty c k) := by
  match c, h with
  | 0, _ => exact tyX0_ok
  | 1, _ => exact tyX1_ok
  | 2, _ => exact tyX2_ok
  | 3, _ => exact tyX3_ok
  | 4, _ => exact tyX4_ok
  | 5, _ => exact tyX5_ok
  | 6, _ => exact tyX6_ok
  | 7, _ => exact tyX7_ok
  | 8, _ => exact tyJ0_ok
  | 9, _ => exact tyJ4_ok
  | c + 10, h => omega
theorem jv_nm_ok (c : Nat) (h : c < 10) : ∀ a, a < jv_fn c → ∀ b, b < jv_fn c → a ≠ b → (jv_fT c a).2.1 ≠ (jv_fT c b).2.1 := by
  match c, h with
  | 0, _ => exact nmX0
  | 1, _ => exact nmX1
  | 2, _ => exact nmX2
  | 3, _ => exact nmX3
  | 4, _ => exact nmX4
  | 5, _ => exact nmX5
  | 6, _ => exact nmX6
  | 7, _ => exact nmX7
  | 8, _ => exact nmJ0
  | 9, _ => exact nmJ4
  | c + 10, h => omega
theorem jv_dcl_ok : ∀ c, c < 10 → ∀ k, k < jv_fn c → (jv_fT c k).2.2.2 = true → (jv_fT c k).1 = jv_own c := by decide +kernel
theorem jv_inst_ok : ∀ c, c < 10 → jv_in (([1198, 2057, 1053, 1171, 1059, 1189, 1075, 1045, 4305, 4106] : List Nat).getD c 0) (.instantiable (jv_own c) (jv_fn c)) = true ∧ jv_in (([1031, 1032, 1026, 1029, 1027, 1030, 1028, 1025, 1036, 1035] : List Nat).getD c 0) (.initialized (jv_own c)) = true := by decide +kernel
theorem jv_arrI : jv_in 1073 (.arrayClass .int) = true := by decide +kernel
theorem jv_arrZ : jv_in 2075 (.arrayClass .boolean) = true := by decide +kernel
theorem jv_arrB : jv_in 3084 (.arrayClass .byte) = true := by decide +kernel
theorem jv_arrT6 : Cond.arrayOver (.object "SeatSwap$Traveller") ∈ lw_tbl := List.mem_of_getElem? (i := 206) (by decide +kernel)
theorem jv_arrT5 : Cond.arrayOver (.object "SeatSwap$Train") ∈ lw_tbl := List.mem_of_getElem? (i := 282) (by decide +kernel)
theorem jv_arrT8 : Cond.arrayOver (.object "java/lang/String") ∈ lw_tbl := List.mem_of_getElem? (i := 943) (by decide +kernel)
theorem jv_arrTA : Cond.arrayOver (.array .int) ∈ lw_tbl := List.mem_of_getElem? (i := 1049) (by decide +kernel)
theorem jv_obI : jv_in 1050 (.instanceMethod Lib.objectInit) = true := by decide +kernel
theorem jv_obC : jv_in 1051 (.code Lib.objectInit ⟨#[0xb1]⟩ 1 none) = true := by decide +kernel
end
section
/-! THE J MACHINE: a pure reading of the bytecode that the claim's classes use. Cells are numbered by places (a reference is a place, not an address). -/
/-- a cell: an array of whole numbers (kind, length, contents), an array of references, an object (class, fields) -/
abbrev jv_E : Type := (Nat × Nat × (Nat → Int32)) ⊕ ((Nat × Nat × (Nat → Option Nat)) ⊕ (Nat × List Value))
/-- the cells, how many there are, how many slots they have -/
abbrev jv_H : Type := (Nat → jv_E) × Nat × Nat
def jv_up {α : Type} (f : Nat → α) (k : Nat) (v : α) : Nat → α := fun j => if j = k then v else f j
def jv_two (f : Int32 → Int32 → Int32) (st : List Value) : Option (List Value) := match st with
  | .int y :: .int x :: r => some (.int (f x y) :: r)
  | _ => none
/-- what works on the stack alone -/
def jv_pure (i : Instr) (st : List Value) : Option (List Value) := match i with
  | .iconst n => some (.int (Int32.ofInt n) :: st)
  | .bipush n => some (.int (Int8.ofInt n).toInt32 :: st)
  | .sipush n => some (.int (Int16.ofInt n).toInt32 :: st)
  | .iadd => jv_two (fun x y => x + y) st
  | .isub => jv_two (fun x y => x - y) st
  | .imul => jv_two (fun x y => x * y) st
  | .iand => jv_two (fun x y => x &&& y) st
  | .ior => jv_two (fun x y => x ||| y) st
  | .ixor => jv_two (fun x y => x ^^^ y) st
  | .ishl => jv_two (fun x y => x <<< (y &&& 31)) st
  | .ishr => jv_two (fun x y => x >>> (y &&& 31)) st
  | .idiv => match st with
    | .int y :: .int x :: r => if y = 0 then none else some (.int (x / y) :: r)
    | _ => none
  | .irem => match st with
    | .int y :: .int x :: r => if y = 0 then none else some (.int (x - x / y * y) :: r)
    | _ => none
  | .ineg => match st with
    | .int x :: r => some (.int (-x) :: r)
    | _ => none
  | .dup => match st with
    | .int x :: r => some (.int x :: .int x :: r)
    | .ref a :: r => some (.ref a :: .ref a :: r)
    | _ => none
  | .dup2 => match st with
    | .int x :: .ref a :: r => some (.int x :: .ref a :: .int x :: .ref a :: r)
    | _ => none
  | .pop => match st with
    | .int _ :: r => some r
    | .ref _ :: r => some r
    | .float _ :: r => some r
    | _ => none
  | .pop2 => match st with
    | .double _ :: r => some r
    | _ => none
  | .i2f => match st with
    | .int x :: r => some (.float (FP.i2f x) :: r)
    | _ => none
  | .i2d => match st with
    | .int x :: r => some (.double (FP.i2d x) :: r)
    | _ => none
  | .f2d => match st with
    | .float x :: r => if (FP.f2d x) &&& 0x7fffffffffffffff ≤ 0x7ff0000000000000 then some (.double (FP.f2d x) :: r) else none
    | _ => none
  | .fdiv => match st with
    | .float y :: .float x :: r => if (FP.fdiv x y) &&& 0x7fffffff ≤ 0x7f800000 then some (.float (FP.fdiv x y) :: r) else none
    | _ => none
  | .ddiv => match st with
    | .double y :: .double x :: r => if (FP.ddiv x y) &&& 0x7fffffffffffffff ≤ 0x7ff0000000000000 then some (.double (FP.ddiv x y) :: r) else none
    | _ => none
  | .dcmp op => match st with
    | .double y :: .double x :: r => some (.int (Op.cmpValue (FP.dcmp x y) op) :: r)
    | _ => none
  | .i2c => match st with
    | .int x :: r => some (.int (x.toUInt32 % 65536).toInt32 :: r)
    | _ => none
  | .i2b => match st with
    | .int x :: r => some (.int x.toInt8.toInt32 :: r)
    | _ => none
  | .i2l => match st with
    | .int x :: r => some (.long x.toInt64 :: r)
    | _ => none
  | .ladd => match st with
    | .long y :: .long x :: r => some (.long (x + y) :: r)
    | _ => none
  | .lmul => match st with
    | .long y :: .long x :: r => some (.long (x * y) :: r)
    | _ => none
  | .lcmp => match st with
    | .long y :: .long x :: r => some (.int (lg_cmp x y) :: r)
    | _ => none
  | .lconst k => some (.long (Int64.ofNat (k : Nat)) :: st)
  | .fcmp op => match st with
    | .float y :: .float x :: r => some (.int (Op.cmpValue (FP.fcmp x y) op) :: r)
    | _ => none
  | .dup_x1 => match st with
    | .int x :: .ref a :: r => some (.int x :: .ref a :: .int x :: r)
    | _ => none
  | .aconst_null => some (.null :: st)
  | .fconst k => if k = 0 then some (.float FP.fconst0 :: st) else none
  | .dconst k => if k = 0 then some (.double FP.dconst0 :: st) else none
  | _ => none
def jv_cc (c : ClassFile.Cond) (x y : Int32) : Bool := match c with
  | .eq => decide (x = y)
  | .ne => decide (¬ x = y)
  | .lt => decide (x < y)
  | .ge => decide (x ≥ y)
  | .gt => decide (x > y)
  | .le => decide (x ≤ y)
def jv_jmp (pc : Nat) (off : Int) (st : List Value) : Option (Nat × List Value) := if 0 ≤ (pc : Int) + off then some (((pc : Int) + off).toNat, st) else none
/-- jumps: where to, with what on the stack -/
def jv_br (i : Instr) (pc : Nat) (st : List Value) : Option (Nat × List Value) := match i with
  | .ifnonnull off => match st with
    | .ref _ :: r => jv_jmp pc off r
    | _ => none
  | .goto off => jv_jmp pc off st
  | .ifCond c off => match st with
    | .int x :: r => match jv_jmp pc off r with
      | some t => if jv_cc c x 0 = true then some t else some (pc + 3, r)
      | none => none
    | _ => none
  | .if_icmp c off => match st with
    | .int y :: .int x :: r => match jv_jmp pc off r with
      | some t => if jv_cc c x y = true then some t else some (pc + 3, r)
      | none => none
    | _ => none
  | .tableswitch d lo hi offs => match st with
    | .int x :: r => if x.toInt < lo ∨ hi < x.toInt then jv_jmp pc d r else match offs[(x.toInt - lo).toNat]? with
      | some off => jv_jmp pc off r
      | none => none
    | _ => none
  | .lookupswitch d ps => match st with
    | .int x :: r => if (ps.toList.zip (ps.toList.drop 1)).all (fun (a, next) => a.1 < next.1) = true then jv_jmp pc (Op.lookupswitch.offset ps.toList d x.toInt) r else none
    | _ => none
  | _ => none
def jv_cat2 (L : List (Option Value)) (i : Nat) : Bool := match L[i]? with
  | some (some (.double _)) => true
  | some (some (.long _)) => true
  | _ => false
/-- a store of one word -/
def jv_set1 (L : List (Option Value)) (i : Nat) (v : Value) : Option (List (Option Value)) := if i < L.length then (match i with
  | 0 => some (L.set 0 (some v))
  | j + 1 => if jv_cat2 L j = true then none else some (L.set (j + 1) (some v))) else none
def jv_set2 (L : List (Option Value)) (i : Nat) (v : Value) : Option (List (Option Value)) := if i + 1 < L.length then (match i with
  | 0 => some ((L.set 0 (some v)).set 1 none)
  | j + 1 => if jv_cat2 L j = true then none else some ((L.set (j + 1) (some v)).set (j + 2) none)) else none
def jv_ldI (L : List (Option Value)) (i : Nat) (st : List Value) : Option (List Value) := match L[i]? with
  | some (some (.int x)) => some (.int x :: st)
  | _ => none
def jv_ldA (L : List (Option Value)) (i : Nat) (st : List Value) : Option (List Value) := match L[i]? with
  | some (some (.ref x)) => some (.ref x :: st)
  | _ => none
def jv_ldD (L : List (Option Value)) (i : Nat) (st : List Value) : Option (List Value) := match L[i]? with
  | some (some (.double x)) => some (.double x :: st)
  | _ => none
def jv_ldL (L : List (Option Value)) (i : Nat) (st : List Value) : Option (List Value) := match L[i]? with
  | some (some (.long x)) => some (.long x :: st)
  | _ => none
/-- loads -/
def jv_ld (i : Instr) (L : List (Option Value)) (st : List Value) : Option (List Value) := match i with
  | .iload_n k => jv_ldI L k.val st
  | .iload k => jv_ldI L k st
  | .aload_n k => jv_ldA L k.val st
  | .aload k => jv_ldA L k st
  | .dload_n k => jv_ldD L k.val st
  | .dload k => jv_ldD L k st
  | .lload_n k => jv_ldL L k.val st
  | .lload k => jv_ldL L k st
  | _ => none
def jv_stI (L : List (Option Value)) (i : Nat) (st : List Value) : Option (List (Option Value) × List Value) := match st with
  | .int x :: r => match jv_set1 L i (.int x) with
    | some L' => some (L', r)
    | none => none
  | _ => none
def jv_stA (L : List (Option Value)) (i : Nat) (st : List Value) : Option (List (Option Value) × List Value) := match st with
  | .ref x :: r => match jv_set1 L i (.ref x) with
    | some L' => some (L', r)
    | none => none
  | _ => none
def jv_stD (L : List (Option Value)) (i : Nat) (st : List Value) : Option (List (Option Value) × List Value) := match st with
  | .double x :: r => match jv_set2 L i (.double x) with
    | some L' => some (L', r)
    | none => none
  | _ => none
def jv_stL (L : List (Option Value)) (i : Nat) (st : List Value) : Option (List (Option Value) × List Value) := match st with
  | .long x :: r => match jv_set2 L i (.long x) with
    | some L' => some (L', r)
    | none => none
  | _ => none
/-- stores -/
def jv_sto (i : Instr) (L : List (Option Value)) (st : List Value) : Option (List (Option Value) × List Value) := match i with
  | .istore_n k => jv_stI L k.val st
  | .istore k => jv_stI L k st
  | .astore_n k => jv_stA L k.val st
  | .astore k => jv_stA L k st
  | .dstore_n k => jv_stD L k.val st
  | .dstore k => jv_stD L k st
  | .lstore_n k => jv_stL L k.val st
  | .lstore k => jv_stL L k st
  | .iinc k n => match L[k]? with
    | some (some (.int x)) => match jv_set1 L k (.int (x + Int32.ofInt n)) with
      | some L' => some (L', st)
      | none => none
    | _ => none
  | _ => none
def jv_arrT (k : Nat) : FieldType := match k with
  | 0 => .int
  | 1 => .boolean
  | 2 => .object "SeatSwap$Traveller"
  | 3 => .object "SeatSwap$Train"
  | 4 => .byte
  | 5 => .object "java/lang/String"
  | _ => .array .int
/-- a place of the claim's own texts (1000001 and on), of a text's letters (1000101 and on), of the two rows of digits (1000201, 1000202) -/
def jv_old (a : Nat) : Bool := Nat.ble 1000001 a && Nat.ble a 1000202
def jv_put (h : jv_H) (a : Nat) (x : jv_E) : jv_H := (jv_up h.1 a x, h.2)
def jv_add (h : jv_H) (x : jv_E) (n : Nat) : jv_H := (jv_up h.1 h.2.1 x, h.2.1 + 1, h.2.2 + n)
/-- k new arrays of m whole numbers -/
def jv_addn (h : jv_H) : Nat → Nat → jv_H
  | 0, _ => h
  | k + 1, m => jv_addn (jv_add h (.inl (0, m, fun _ => 0)) m) k m
/-- the law's long constants, the JDK's statics -/
def jv_ldl (ow idx : Nat) : Option Int64 := if ow = 10 then (if idx = 85 then some 7 else if idx = 87 then some 31 else if idx = 92 then some 101 else none) else none
def jv_sta (ow idx : Nat) : Option Value := if (ow = 8 ∧ idx = 38) ∨ (ow = 11 ∧ idx = 18) then some (.int 1) else if ow = 12 ∧ idx = 83 then some (.ref 1000201) else if ow = 12 ∧ idx = 87 then some (.ref 1000202) else none
def jv_get (ow : Nat) (idx : Nat) (st : List Value) (h : jv_H) : Option (List Value) := match st with
  | .ref a :: r => match jv_fld ow idx with
    | some (c, k) => if a < h.2.1 ∨ jv_old a = true then match h.1 a with
      | .inr (.inr (d, fs)) => if d = c then (match fs[k]? with
        | some v => some (v :: r)
        | none => none) else none
      | _ => none else none
    | none => none
  | _ => none
def jv_set (ow : Nat) (ini : Bool) (idx : Nat) (st : List Value) (h : jv_H) : Option (List Value × jv_H) := match st with
  | v :: .ref a :: r => match jv_fld ow idx with
    | some (c, k) => if a < h.2.1 ∧ narrow (jv_fty c k) v = v ∧ fits (jv_fty c k) v = true ∧ ((jv_fT c k).2.2.2 = false ∨ (ini = true ∧ c = ow)) then match h.1 a with
      | .inr (.inr (d, fs)) => if d = c ∧ k < fs.length then some (r, jv_put h a (.inr (.inr (d, fs.set k v)))) else none
      | _ => none else none
    | none => none
  | _ => none
/-- what reads and writes cells -/
def jv_heap (ow : Nat) (ini : Bool) (i : Instr) (st : List Value) (h : jv_H) : Option (List Value × jv_H) := match i with
  | .getfield idx => match jv_get ow idx st h with
    | some st' => some (st', h)
    | none => none
  | .putfield idx => jv_set ow ini idx st h
  | .iaload => match st with
    | .int i :: .ref a :: r => if a < h.2.1 ∨ (a = 1000000 ∧ ow = 10) then match h.1 a with
      | .inl (ty, n, f) => if (ty = 0 ∧ a < h.2.1 ∨ ty = 9 ∧ a = 1000000) ∧ ¬ (i < 0 ∨ n ≤ i.toNatClampNeg) then some (.int (f i.toNatClampNeg) :: r, h) else none
      | _ => none else none
    | _ => none
  | .baload => match st with
    | .int i :: .ref a :: r => if a < h.2.1 ∨ jv_old a = true then match h.1 a with
      | .inl (ty, n, f) => if (ty = 1 ∧ a < h.2.1 ∨ ty = 4) ∧ ¬ (i < 0 ∨ n ≤ i.toNatClampNeg) then some (.int (f i.toNatClampNeg) :: r, h) else none
      | _ => none else none
    | _ => none
  | .aaload => match st with
    | .int i :: .ref a :: r => if a < h.2.1 then match h.1 a with
      | .inr (.inl (ty, n, f)) => if (2 ≤ ty ∧ ty ≤ 6 ∧ ty ≠ 4) ∧ ¬ (i < 0 ∨ n ≤ i.toNatClampNeg) then (match f i.toNatClampNeg with
        | some b => some (.ref b :: r, h)
        | none => none) else none
      | _ => none else none
    | _ => none
  | .iastore => match st with
    | .int x :: .int i :: .ref a :: r => if a < h.2.1 then match h.1 a with
      | .inl (ty, n, f) => if ty = 0 ∧ ¬ (i < 0 ∨ n ≤ i.toNatClampNeg) then some (r, jv_put h a (.inl (ty, n, upd f i.toNatClampNeg x))) else none
      | _ => none else none
    | _ => none
  | .bastore => match st with
    | .int x :: .int i :: .ref a :: r => if a < h.2.1 then match h.1 a with
      | .inl (ty, n, f) => if (ty = 1 ∧ vp_nar .boolean x = x ∨ ty = 4 ∧ x.toInt8.toInt32 = x) ∧ ¬ (i < 0 ∨ n ≤ i.toNatClampNeg) then some (r, jv_put h a (.inl (ty, n, upd f i.toNatClampNeg x))) else none
      | _ => none else none
    | _ => none
  | .aastore => match st with
    | .ref b :: .int i :: .ref a :: r => if a < h.2.1 ∧ (b < h.2.1 ∨ jv_old b = true) then match h.1 a, h.1 b with
      | .inr (.inl (ty, n, f)), .inr (.inr (d, _)) => if ((ty = 2 ∧ d = 6 ∧ b < h.2.1) ∨ (ty = 3 ∧ d = 5 ∧ b < h.2.1) ∨ (ty = 5 ∧ d = 8 ∧ jv_old b = true)) ∧ ¬ (i < 0 ∨ n ≤ i.toNatClampNeg) then some (r, jv_put h a (.inr (.inl (ty, n, va_up f i.toNatClampNeg (some b))))) else none
      | _, _ => none else none
    | _ => none
  | .arraylength => match st with
    | .ref a :: r => if a < h.2.1 ∨ (a = 1000000 ∧ ow = 10) ∨ jv_old a = true then match h.1 a with
      | .inl (ty, n, _) => if (ty < 2 ∨ ty = 4) ∧ a < h.2.1 ∨ ty = 9 ∧ a = 1000000 ∨ ty = 4 ∧ jv_old a = true then some (.int (Int32.ofNat n) :: r, h) else none
      | .inr (.inl (ty, n, _)) => if (2 ≤ ty ∧ ty ≤ 6 ∧ ty ≠ 4) ∧ a < h.2.1 then some (.int (Int32.ofNat n) :: r, h) else none
      | _ => none else none
    | _ => none
  | .new idx => match jv_new ow idx with
    | some c => some (.ref h.2.1 :: st, jv_add h (.inr (.inr (c, (List.range (jv_fn c)).map (fun k => defaultValue (jv_fty c k))))) (jv_fn c))
    | none => none
  | .newarray t => match st with
    | .int n :: r => if ¬ n < 0 ∧ n.toNatClampNeg ≤ 100000 then (match t with
      | .int => some (.ref h.2.1 :: r, jv_add h (.inl (0, n.toNatClampNeg, fun _ => 0)) n.toNatClampNeg)
      | .boolean => some (.ref h.2.1 :: r, jv_add h (.inl (1, n.toNatClampNeg, fun _ => 0)) n.toNatClampNeg)
      | .byte => some (.ref h.2.1 :: r, jv_add h (.inl (4, n.toNatClampNeg, fun _ => 0)) n.toNatClampNeg)
      | _ => none) else none
    | _ => none
  | .anewarray idx => match st with
    | .int n :: r => if ¬ n < 0 ∧ n.toNatClampNeg ≤ 100000 then (match jv_new ow idx with
      | some c => if c = 6 then some (.ref h.2.1 :: r, jv_add h (.inr (.inl (2, n.toNatClampNeg, fun _ => none))) n.toNatClampNeg)
        else if c = 5 then some (.ref h.2.1 :: r, jv_add h (.inr (.inl (3, n.toNatClampNeg, fun _ => none))) n.toNatClampNeg)
        else if c = 8 then some (.ref h.2.1 :: r, jv_add h (.inr (.inl (5, n.toNatClampNeg, fun _ => none))) n.toNatClampNeg) else none
      | none => none) else none
    | _ => none
  | .ldc idx => match jv_ldc ow idx with
    | some v => some (v :: st, h)
    | none => none
  | .ldc2_w idx => match jv_ldl ow idx with
    | some v => some (.long v :: st, h)
    | none => none
  | .getstatic idx => match jv_sta ow idx with
    | some v => some (v :: st, h)
    | none => none
  | .checkcast idx => match st with
    | .ref a :: r => if a < h.2.1 ∧ ow = 15 ∧ idx = 311 then match h.1 a with
      | .inl (ty, _, _) => if ty = 4 then some (.ref a :: r, h) else none
      | _ => none else none
    | _ => none
  | .multianewarray idx d => if ow = 10 ∧ idx = 101 ∧ d = 2 then (match st with
    | .int m :: .int n :: r => if ¬ n < 0 ∧ n.toNatClampNeg ≤ 100 ∧ ¬ m < 0 ∧ m.toNatClampNeg ≤ 100 then
        some (.ref h.2.1 :: r, jv_addn (jv_add h (.inr (.inl (6, n.toNatClampNeg, fun i => if i < n.toNatClampNeg then some (h.2.1 + 1 + i) else none))) n.toNatClampNeg) n.toNatClampNeg m.toNatClampNeg) else none
    | _ => none) else none
  | _ => none
/-- one instruction that neither calls nor returns -/
def jv_step (ow : Nat) (ini : Bool) (i : Instr) (len pc : Nat) (L : List (Option Value)) (st : List Value) (h : jv_H) : Option (Nat × List (Option Value) × List Value × jv_H) := match jv_pure i st with
  | some st' => some (pc + len, L, st', h)
  | none => match jv_ld i L st with
    | some st' => some (pc + len, L, st', h)
    | none => match jv_br i pc st with
      | some (pc', st') => some (pc', L, st', h)
      | none => match jv_sto i L st with
        | some (L', st') => some (pc + len, L', st', h)
        | none => match jv_heap ow ini i st h with
          | some (st', h') => some (pc + len, L, st', h')
          | none => none
/-- returns: the answer -/
def jv_ret (ret : Option FieldType) (i : Instr) (st : List Value) : Option (Option Value) := match i, ret, st with
  | .return_, none, [] => some none
  | .ireturn, some ty, [.int v] => if narrow ty (.int v) = .int v then some (some (.int v)) else none
  | .areturn, some (.object _), [.ref a] => some (some (.ref a))
  | .areturn, some (.array _), [.ref a] => some (some (.ref a))
  | .lreturn, some .long, [.long v] => some (some (.long v))
  | .freturn, some .float, [.float v] => some (some (.float v))
  | .dreturn, some .double, [.double v] => some (some (.double v))
  | _, _, _ => none
def jv_isC (i : Instr) : Option (Nat × Nat) := match i with
  | .invokestatic k => some (0, k)
  | .invokevirtual k => some (1, k)
  | .invokespecial k => some (2, k)
  | _ => none
def jv_wd (st : List Value) : Nat := (st.map fun v => v.category).sum
/-- String.checkIndex, where the index is one -/
def jv_cidx (st : List Value) : Option (List Value) := match st with
  | .int n :: .int i :: r => if 0 ≤ i ∧ i < n then some r else none
  | _ => none
/-- System.arraycopy, of bytes -/
def jv_acpy (st : List Value) (h : jv_H) : Option (List Value × jv_H) := match st with
  | .int n :: .int dp :: .ref d :: .int sp :: .ref s :: r => if (s < h.2.1 ∨ jv_old s = true) ∧ d < h.2.1 ∧ s ≠ d then match h.1 s, h.1 d with
    | .inl (4, m, f), .inl (4, k, g) => if (¬ n < 0 ∧ ¬ dp < 0 ∧ ¬ sp < 0) ∧ sp.toNatClampNeg + n.toNatClampNeg ≤ m ∧ dp.toNatClampNeg + n.toNatClampNeg ≤ k ∧ (List.range n.toNatClampNeg).all (fun i => fits .byte (.int (f (sp.toNatClampNeg + i)))) = true then
        some (r, jv_put h d (.inl (4, k, va_cpy f g sp.toNatClampNeg dp.toNatClampNeg n.toNatClampNeg))) else none
    | _, _ => none else none
  | _ => none
/-- an array of bytes, once more -/
def jv_cln (st : List Value) (h : jv_H) : Option (List Value × jv_H) := match st with
  | .ref a :: r => if a < h.2.1 then match h.1 a with
    | .inl (4, n, f) => if (List.range n).all (fun i => fits .byte (.int (f i))) = true then some (.ref h.2.1 :: r, jv_add h (.inl (4, n, f)) n) else none
    | _ => none else none
  | _ => none
/-- may a method with this room call that one: kinds, words, and the receiver's class -/
def jv_may (kd : Nat) (fr lo : Nat) (q : Nat × Nat × Nat × Nat × Nat × Nat) (na : Nat) (st : List Value) (h : jv_H) : Bool :=
  decide ((q.2.1 = kd ∨ kd = 2 ∧ q.2.1 = 3 ∨ kd = 1 ∧ q.2.1 = 5) ∧ q.2.2.1 = na ∧ na ≤ st.length ∧ na ≤ q.2.2.2.1 ∧ q.2.2.2.2.1 + 1 ≤ fr ∧ 19 + q.2.2.2.1 + q.2.2.2.2.2 ≤ lo ∧ jv_wd (st.drop na) ≤ 8 ∧ jv_wd (st.take na) = na) &&
  (match kd with
   | 0 => true
   | _ => match (st.take na).getLast? with
     | some (.ref a) => (decide (a < h.2.1) || (jv_old a && decide (kd = 1))) && (match h.1 a with
       | .inr (.inr (d, _)) => decide (d = jv_rc q.1)
       | _ => false)
     | _ => false)
def jv_run : Nat → Nat → Nat → List (Option Value) → List Value → jv_H → Option (Option Value × jv_H)
  | 0, _, _, _, _, _ => none
  | n + 1, y, pc, L, st, h => match jv_inf y with
    | none => none
    | some (ow, kd, _, _, fr, lo) => match jv_code y pc with
      | none => none
      | some (i, len) => match jv_ret (jv_ym y).2.2 i st with
        | some r => some (r, h)
        | none => match jv_isC i with
          | none => match jv_step ow (decide (kd = 2)) i len pc L st h with
            | some (pc', L', st', h') => jv_run n y pc' L' st' h'
            | none => none
          | some (ck, idx) => match jv_cal ow idx with
            | none => none
            | some (z, na, _) => if z = 900 then (match st with
                | .ref _ :: r => if ck = 2 ∧ 1 ≤ fr ∧ jv_wd r + 12 ≤ lo then jv_run n y (pc + 3) L r h else none
                | _ => none)
              else if z = 903 then (match jv_cidx st with
                | some st' => if ck = 0 ∧ 3 ≤ fr ∧ 90 ≤ lo ∧ jv_wd (st.drop 2) ≤ 8 then jv_run n y (pc + 3) L st' h else none
                | none => none)
              else if z = 904 then (match jv_acpy st h with
                | some (st', h1) => if ck = 0 ∧ 1 ≤ fr ∧ 40 ≤ lo ∧ jv_wd (st.drop 5) ≤ 8 then jv_run n y (pc + 3) L st' h1 else none
                | none => none)
              else if z = 905 then (match jv_cln st h with
                | some (st', h1) => if ck = 1 ∧ 1 ≤ fr ∧ 40 ≤ lo ∧ jv_wd (st.drop 1) ≤ 8 then jv_run n y (pc + 3) L st' h1 else none
                | none => none)
              else match jv_inf z with
                | none => none
                | some q => if jv_may ck fr lo q na st h = true then (match jv_run n z 0 ((st.take na).reverse.map some ++ List.replicate (q.2.2.2.1 - na) none) [] h with
                  | some (r, h1) => jv_run n y (pc + 3) L (r.toList ++ st.drop na) h1
                  | none => none) else none
end
section
/-! THE J MACHINE IS RIGHT, one instruction at a time: what works on stack and locals -/
section JSND
variable {p : Program} {l : Launch} {e : Env} {R : Room} {s : State} {m : MethodId} {args : Array Value} {below : List Frame} {meth : Method} {c : Code} {H : Heap} {locs : List Loc} {cells slots : Nat} {Q : State → Prop}
variable {cc : ByteArray} {pc : Nat} {ls : Array Slot} {ad : Nat → Nat}
/-- a value, its place turned into an address -/
def jv_vl (ad : Nat → Nat) (v : Value) : Value := match v with
  | .ref a => .ref (ad a)
  | w => w
theorem jv_vl_cat (ad : Nat → Nat) (v : Value) : (jv_vl ad v).category = v.category := by cases v <;> rfl
theorem jv_len1 {i : Instr} {len : Nat} (hl : jv_sw i = true ∨ len = jv_len i) (h : jv_sw i = false) : len = jv_len i := by
  rcases hl with hl | hl
  · rw [h] at hl; cases hl
  · exact hl
theorem jv_two_eq {f : Int32 → Int32 → Int32} {st st' : List Value} (h : jv_two f st = some st') : ∃ (y x : Int32) (r : List Value), st = .int y :: .int x :: r ∧ st' = .int (f x y) :: r := by
  unfold jv_two at h
  split at h
  · cases h; exact ⟨_, _, _, rfl, rfl⟩
  · cases h
set_option maxHeartbeats 4000000 in
theorem jv_pure_ok (hx : p.tables.exec = Jvm.exec) (hb : c.code = cc) {i : Instr} {len : Nat} {st st' : List Value} (hdg : decode cc pc = .ok (i, len)) (hl : jv_sw i = true ∨ len = jv_len i) (h : jv_pure i st = some st')
    (k : W p l e R s m args below meth c H locs cells slots Q (F0 m (pc + len) ls (st'.map (jv_vl ad)))) : W p l e R s m args below meth c H locs cells slots Q (F0 m pc ls (st.map (jv_vl ad))) := by
  unfold jv_pure at h
  split at h
  · have e := jv_len1 hl rfl; subst e; cases h; exact lv_iconst hx hb hdg rfl k
  · have e := jv_len1 hl rfl; subst e; cases h; exact lv_bipush hx hb hdg rfl k
  · have e := jv_len1 hl rfl; subst e; cases h; exact lv_sipush hx hb hdg rfl k
  · have e := jv_len1 hl rfl; subst e; obtain ⟨y, x, r, rfl, rfl⟩ := jv_two_eq h; exact lv_iadd hx hb hdg k
  · have e := jv_len1 hl rfl; subst e; obtain ⟨y, x, r, rfl, rfl⟩ := jv_two_eq h; exact lv_isub hx hb hdg k
  · have e := jv_len1 hl rfl; subst e; obtain ⟨y, x, r, rfl, rfl⟩ := jv_two_eq h; exact lv_imul hx hb hdg k
  · have e := jv_len1 hl rfl; subst e; obtain ⟨y, x, r, rfl, rfl⟩ := jv_two_eq h; exact lv_iand hx hb hdg k
  · have e := jv_len1 hl rfl; subst e; obtain ⟨y, x, r, rfl, rfl⟩ := jv_two_eq h; exact lv_ior hx hb hdg k
  · have e := jv_len1 hl rfl; subst e; obtain ⟨y, x, r, rfl, rfl⟩ := jv_two_eq h; exact lv_ixor hx hb hdg k
  · have e := jv_len1 hl rfl; subst e; obtain ⟨y, x, r, rfl, rfl⟩ := jv_two_eq h; exact lv_ishl hx hb hdg k
  · have e := jv_len1 hl rfl; subst e; obtain ⟨y, x, r, rfl, rfl⟩ := jv_two_eq h; exact lv_ishr hx hb hdg k
  · have e := jv_len1 hl rfl; subst e
    split at h
    · split at h
      · cases h
      · rename_i hne; cases h; exact lv_idiv hx hb hdg hne k
    · cases h
  · have e := jv_len1 hl rfl; subst e
    split at h
    · split at h
      · cases h
      · rename_i hne; cases h; exact lv_irem hx hb hdg hne k
    · cases h
  · have e := jv_len1 hl rfl; subst e
    split at h
    · cases h; exact lv_ineg hx hb hdg k
    · cases h
  · have e := jv_len1 hl rfl; subst e
    split at h
    · rename_i x r; cases h; exact lv_dup (va := .int x) hx hb hdg rfl k
    · rename_i a r; cases h; exact lv_dup (va := .ref (ad a)) hx hb hdg rfl k
    · cases h
  · have e := jv_len1 hl rfl; subst e
    split at h
    · rename_i x a r; cases h; exact lv_dup2_11 (va := .int x) (vb := .ref (ad a)) hx hb hdg rfl rfl k
    · cases h
  · have e := jv_len1 hl rfl; subst e
    split at h
    · rename_i x r; cases h; exact lv_pop (va := .int x) hx hb hdg rfl k
    · rename_i a r; cases h; exact lv_pop (va := .ref (ad a)) hx hb hdg rfl k
    · rename_i x r; cases h; exact lv_pop (va := .float x) hx hb hdg rfl k
    · cases h
  · have e := jv_len1 hl rfl; subst e
    split at h
    · rename_i x r; cases h; exact lv_pop2_2 (va := .double x) hx hb hdg rfl k
    · cases h
  · have e := jv_len1 hl rfl; subst e
    split at h
    · cases h; exact lv_i2f hx hb hdg k
    · cases h
  · have e := jv_len1 hl rfl; subst e
    split at h
    · cases h; exact lv_i2d hx hb hdg k
    · cases h
  · have e := jv_len1 hl rfl; subst e
    split at h
    · split at h
      · rename_i hne; cases h; exact lv_f2d hx hb hdg hne k
      · cases h
    · cases h
  · have e := jv_len1 hl rfl; subst e
    split at h
    · split at h
      · rename_i hne; cases h; exact lv_fdiv hx hb hdg hne k
      · cases h
    · cases h
  · have e := jv_len1 hl rfl; subst e
    split at h
    · split at h
      · rename_i hne; cases h; exact lv_ddiv hx hb hdg hne k
      · cases h
    · cases h
  · have e := jv_len1 hl rfl; subst e
    split at h
    · cases h; exact lv_dcmp hx hb hdg k
    · cases h
  · have e := jv_len1 hl rfl; subst e
    split at h
    · cases h; exact lv_i2c hx hb hdg rfl k
    · cases h
  · have e := jv_len1 hl rfl; subst e
    split at h
    · cases h; exact lv_i2b hx hb hdg rfl k
    · cases h
  · have e := jv_len1 hl rfl; subst e
    split at h
    · cases h; exact lv_i2l hx hb hdg rfl k
    · cases h
  · have e := jv_len1 hl rfl; subst e
    split at h
    · cases h; exact lv_ladd hx hb hdg k
    · cases h
  · have e := jv_len1 hl rfl; subst e
    split at h
    · cases h; exact lv_lmul hx hb hdg k
    · cases h
  · have e := jv_len1 hl rfl; subst e
    split at h
    · cases h; exact W.lcmp hx hb hdg k
    · cases h
  · have e := jv_len1 hl rfl; subst e; cases h; exact lv_lconst hx hb hdg rfl k
  · have e := jv_len1 hl rfl; subst e
    split at h
    · cases h; exact lv_fcmp hx hb hdg k
    · cases h
  · have e := jv_len1 hl rfl; subst e
    split at h
    · rename_i x a r; cases h; exact lv_dup_x1 (va := .int x) (vb := .ref (ad a)) hx hb hdg rfl rfl k
    · cases h
  · have e := jv_len1 hl rfl; subst e; cases h; exact lv_null hx hb hdg k
  · have e := jv_len1 hl rfl; subst e
    split at h
    · rename_i hk; subst hk; cases h; exact lv_fconst0 hx hb hdg k
    · cases h
  · have e := jv_len1 hl rfl; subst e
    split at h
    · rename_i hk; subst hk; cases h; exact lv_dconst0 hx hb hdg k
    · cases h
  · cases h
/-- the locals hold what the J machine's hold -/
def jv_Lc (ad : Nat → Nat) (ls : Array Slot) (nL : Nat) (L : List (Option Value)) : Prop := ls.size = nL ∧ L.length = nL ∧ lv_wf ls ∧ ∀ (i : Nat) (v : Value), L[i]? = some (some v) → ls[i]? = some (.val (jv_vl ad v))
theorem jv_ldI_eq {L : List (Option Value)} {i : Nat} {st st' : List Value} (h : jv_ldI L i st = some st') : ∃ x, L[i]? = some (some (.int x)) ∧ st' = .int x :: st := by
  unfold jv_ldI at h
  split at h
  · rename_i x hL; cases h; exact ⟨x, hL, rfl⟩
  · cases h
theorem jv_ldA_eq {L : List (Option Value)} {i : Nat} {st st' : List Value} (h : jv_ldA L i st = some st') : ∃ x, L[i]? = some (some (.ref x)) ∧ st' = .ref x :: st := by
  unfold jv_ldA at h
  split at h
  · rename_i x hL; cases h; exact ⟨x, hL, rfl⟩
  · cases h
theorem jv_ldD_eq {L : List (Option Value)} {i : Nat} {st st' : List Value} (h : jv_ldD L i st = some st') : ∃ x, L[i]? = some (some (.double x)) ∧ st' = .double x :: st := by
  unfold jv_ldD at h
  split at h
  · rename_i x hL; cases h; exact ⟨x, hL, rfl⟩
  · cases h
theorem jv_ldL_eq {L : List (Option Value)} {i : Nat} {st st' : List Value} (h : jv_ldL L i st = some st') : ∃ x, L[i]? = some (some (.long x)) ∧ st' = .long x :: st := by
  unfold jv_ldL at h
  split at h
  · rename_i x hL; cases h; exact ⟨x, hL, rfl⟩
  · cases h
theorem jv_ld_ok (hx : p.tables.exec = Jvm.exec) (hb : c.code = cc) {i : Instr} {len nL : Nat} {L : List (Option Value)} {st st' : List Value} (hdg : decode cc pc = .ok (i, len)) (hl : jv_sw i = true ∨ len = jv_len i) (hL : jv_Lc ad ls nL L) (h : jv_ld i L st = some st')
    (k : W p l e R s m args below meth c H locs cells slots Q (F0 m (pc + len) ls (st'.map (jv_vl ad)))) : W p l e R s m args below meth c H locs cells slots Q (F0 m pc ls (st.map (jv_vl ad))) := by
  unfold jv_ld at h
  split at h
  · have e := jv_len1 hl rfl; subst e; obtain ⟨x, h1, rfl⟩ := jv_ldI_eq h; exact lv_iload_n (x := x) hx hb hdg rfl (hL.2.2.2 _ _ h1) k
  · have e := jv_len1 hl rfl; subst e; obtain ⟨x, h1, rfl⟩ := jv_ldI_eq h; exact lv_iload (x := x) hx hb hdg (hL.2.2.2 _ _ h1) k
  · have e := jv_len1 hl rfl; subst e; obtain ⟨x, h1, rfl⟩ := jv_ldA_eq h; exact lv_aload_n (x := ad x) hx hb hdg rfl (hL.2.2.2 _ _ h1) k
  · have e := jv_len1 hl rfl; subst e; obtain ⟨x, h1, rfl⟩ := jv_ldA_eq h; exact lv_aload (x := ad x) hx hb hdg (hL.2.2.2 _ _ h1) k
  · have e := jv_len1 hl rfl; subst e; obtain ⟨x, h1, rfl⟩ := jv_ldD_eq h; exact lv_dload_n (x := x) hx hb hdg rfl (hL.2.2.2 _ _ h1) k
  · have e := jv_len1 hl rfl; subst e; obtain ⟨x, h1, rfl⟩ := jv_ldD_eq h; exact lv_dload (x := x) hx hb hdg (hL.2.2.2 _ _ h1) k
  · have e := jv_len1 hl rfl; subst e; obtain ⟨x, h1, rfl⟩ := jv_ldL_eq h; exact lv_lload_n (x := x) hx hb hdg rfl (hL.2.2.2 _ _ h1) k
  · have e := jv_len1 hl rfl; subst e; obtain ⟨x, h1, rfl⟩ := jv_ldL_eq h; exact lv_lload (x := x) hx hb hdg (hL.2.2.2 _ _ h1) k
  · cases h
theorem jv_jmp_eq {pc pc' : Nat} {off : Int} {st st' : List Value} (h : jv_jmp pc off st = some (pc', st')) : (pc : Int) + off = (pc' : Int) ∧ st' = st := by
  unfold jv_jmp at h
  split at h
  · cases h; exact ⟨by omega, rfl⟩
  · cases h
theorem jv_if_eq {b : Bool} {t : Nat × List Value} {u : Nat × List Value} {w : Nat × List Value} (h : (if b = true then some t else some u) = some w) : (b = true ∧ w = t) ∨ (b = false ∧ w = u) := by
  cases b
  · right; exact ⟨rfl, (Option.some.inj h).symm⟩
  · left; exact ⟨rfl, (Option.some.inj h).symm⟩
set_option maxHeartbeats 4000000 in
theorem jv_br_ok (hx : p.tables.exec = Jvm.exec) (hb : c.code = cc) {i : Instr} {len pc' : Nat} {st st' : List Value} (hdg : decode cc pc = .ok (i, len)) (hl : jv_sw i = true ∨ len = jv_len i) (h : jv_br i pc st = some (pc', st'))
    (k : W p l e R s m args below meth c H locs cells slots Q (F0 m pc' ls (st'.map (jv_vl ad)))) : W p l e R s m args below meth c H locs cells slots Q (F0 m pc ls (st.map (jv_vl ad))) := by
  unfold jv_br at h
  split at h
  · have e := jv_len1 hl rfl; subst e
    split at h
    · rename_i a r
      obtain ⟨ht, rfl⟩ := jv_jmp_eq h
      exact lv_ifnonnull (x := ad a) hx hb hdg ht k
    · cases h
  · have e := jv_len1 hl rfl; subst e
    obtain ⟨ht, rfl⟩ := jv_jmp_eq h
    exact lv_goto hx hb hdg ht k
  · rename_i cnd off
    have e := jv_len1 hl rfl; subst e
    split at h
    · rename_i x r
      split at h
      · rename_i t hj
        obtain ⟨tp, ts⟩ := t
        obtain ⟨ht, rfl⟩ := jv_jmp_eq hj
        rcases jv_if_eq h with ⟨hc, hw⟩ | ⟨hc, hw⟩ <;> cases hw <;> cases cnd <;> simp only [jv_cc, decide_eq_true_eq, decide_eq_false_iff_not] at hc
        · exact lv_if_eq hx hb hdg ht (fun _ => k) (fun q => absurd hc q)
        · exact lv_if_ne hx hb hdg ht (fun _ => k) (fun q => absurd q hc)
        · exact lv_if_lt hx hb hdg ht (fun _ => k) (fun q => absurd hc q)
        · exact lv_if_ge hx hb hdg ht (fun _ => k) (fun q => absurd hc q)
        · exact lv_if_gt hx hb hdg ht (fun _ => k) (fun q => absurd hc q)
        · exact lv_if_le hx hb hdg ht (fun _ => k) (fun q => absurd hc q)
        · exact lv_if_eq hx hb hdg ht (fun q => absurd q hc) (fun _ => k)
        · exact lv_if_ne hx hb hdg ht (fun q => absurd q hc) (fun _ => k)
        · exact lv_if_lt hx hb hdg ht (fun q => absurd q hc) (fun _ => k)
        · exact lv_if_ge hx hb hdg ht (fun q => absurd q hc) (fun _ => k)
        · exact lv_if_gt hx hb hdg ht (fun q => absurd q hc) (fun _ => k)
        · exact lv_if_le hx hb hdg ht (fun q => absurd q hc) (fun _ => k)
      · cases h
    · cases h
  · rename_i cnd off
    have e := jv_len1 hl rfl; subst e
    split at h
    · rename_i y x r
      split at h
      · rename_i t hj
        obtain ⟨tp, ts⟩ := t
        obtain ⟨ht, rfl⟩ := jv_jmp_eq hj
        rcases jv_if_eq h with ⟨hc, hw⟩ | ⟨hc, hw⟩ <;> cases hw <;> cases cnd <;> simp only [jv_cc, decide_eq_true_eq, decide_eq_false_iff_not] at hc
        · exact lv_icmp_eq hx hb hdg ht (fun _ => k) (fun q => absurd hc q)
        · exact lv_icmp_ne hx hb hdg ht (fun _ => k) (fun q => absurd q hc)
        · exact lv_icmp_lt hx hb hdg ht (fun _ => k) (fun q => absurd hc q)
        · exact lv_icmp_ge hx hb hdg ht (fun _ => k) (fun q => absurd hc q)
        · exact lv_icmp_gt hx hb hdg ht (fun _ => k) (fun q => absurd hc q)
        · exact lv_icmp_le hx hb hdg ht (fun _ => k) (fun q => absurd hc q)
        · exact lv_icmp_eq hx hb hdg ht (fun q => absurd q hc) (fun _ => k)
        · exact lv_icmp_ne hx hb hdg ht (fun q => absurd q hc) (fun _ => k)
        · exact lv_icmp_lt hx hb hdg ht (fun q => absurd q hc) (fun _ => k)
        · exact lv_icmp_ge hx hb hdg ht (fun q => absurd q hc) (fun _ => k)
        · exact lv_icmp_gt hx hb hdg ht (fun q => absurd q hc) (fun _ => k)
        · exact lv_icmp_le hx hb hdg ht (fun q => absurd q hc) (fun _ => k)
      · cases h
    · cases h
  · split at h
    · split at h
      · rename_i hout
        obtain ⟨ht, rfl⟩ := jv_jmp_eq h
        exact lv_tableOut hx hb hdg hout ht k
      · rename_i hin
        split at h
        · rename_i off ho
          obtain ⟨ht, rfl⟩ := jv_jmp_eq h
          exact lv_tableIn hx hb hdg (fun q => hin (Or.inl q)) (fun q => hin (Or.inr q)) ho ht k
        · cases h
    · cases h
  · split at h
    · split at h
      · rename_i hp
        obtain ⟨ht, rfl⟩ := jv_jmp_eq h
        exact lv_lookup hx hb hdg hp rfl ht k
      · cases h
    · cases h
  · cases h
/-- the locals as pairs -/
def jv_prs (ad : Nat → Nat) (L : List (Option Value)) : List (Nat × Value) := (List.range L.length).filterMap (fun i => match L[i]? with
  | some (some v) => some (i, jv_vl ad v)
  | _ => none)
theorem jv_prs_mem {L : List (Option Value)} {i : Nat} {w : Value} : (i, w) ∈ jv_prs ad L ↔ ∃ v, L[i]? = some (some v) ∧ w = jv_vl ad v := by
  unfold jv_prs
  rw [List.mem_filterMap]
  constructor
  · rintro ⟨j, -, hj⟩
    split at hj
    · rename_i v hv
      cases hj
      exact ⟨v, hv, rfl⟩
    · cases hj
  · rintro ⟨v, hv, rfl⟩
    refine ⟨i, List.mem_range.mpr (List.getElem?_eq_some_iff.mp hv).1, ?_⟩
    rw [hv]
theorem jv_Lc.has {nL : Nat} {L : List (Option Value)} (h : jv_Lc ad ls nL L) : lv_has ls nL (jv_prs ad L) := by
  refine ⟨h.1, h.2.2.1, fun q hq => ?_⟩
  obtain ⟨i, w⟩ := q
  obtain ⟨v, hv, rfl⟩ := jv_prs_mem.mp hq
  exact h.2.2.2 i v hv
theorem jv_cat2_no {L : List (Option Value)} {j : Nat} {w : Value} (h : ¬ jv_cat2 L j = true) (hw : L[j]? = some (some w)) : ¬ w.category = 2 := by
  unfold jv_cat2 at h
  rw [hw] at h
  cases w <;> first | (intro q; cases q; done) | exact absurd rfl h
theorem jv_Lc.of1 {nL i : Nat} {v : Value} {L L' : List (Option Value)} {ls' : Array Slot} (hlen : L.length = nL) (hs : jv_set1 L i v = some L') (h : lv_has ls' nL ((i, jv_vl ad v) :: (jv_prs ad L).filter (fun q => !(q.1 == i) && !(q.1 + 1 == i && q.2.category == 2)))) : jv_Lc ad ls' nL L' := by
  have key : L' = L.set i (some v) ∧ i < L.length ∧ ∀ j, i = j + 1 → ¬ jv_cat2 L j = true := by
    unfold jv_set1 at hs
    split at hs
    · rename_i hi
      split at hs
      · cases hs; exact ⟨rfl, hi, fun j h => by omega⟩
      · split at hs
        · cases hs
        · rename_i hc
          cases hs; exact ⟨rfl, hi, fun j h => by rw [show j = _ from (Nat.succ.inj h).symm]; exact hc⟩
    · cases hs
  obtain ⟨rfl, hi, hcat⟩ := key
  refine ⟨h.1, by rw [List.length_set]; exact hlen, h.2.1, fun j w hj => ?_⟩
  by_cases hji : i = j
  · subst hji
    rw [List.getElem?_set_self hi] at hj
    cases hj
    exact h.2.2 (i, jv_vl ad v) List.mem_cons_self
  · rw [List.getElem?_set_ne hji] at hj
    refine h.2.2 (j, jv_vl ad w) (List.mem_cons_of_mem _ (List.mem_filter.mpr ⟨jv_prs_mem.mpr ⟨w, hj, rfl⟩, ?_⟩))
    have h1 : (j == i) = false := by simpa using fun q => hji q.symm
    have h2 : (j + 1 == i && (jv_vl ad w).category == 2) = false := by
      by_cases hq : j + 1 = i
      · have h3 := jv_cat2_no (hcat j hq.symm) hj
        rw [jv_vl_cat]
        simp [h3]
      · simp [hq]
    simp only [h1, h2]
    rfl
theorem jv_Lc.of2 {nL i : Nat} {v : Value} {L L' : List (Option Value)} {ls' : Array Slot} (hlen : L.length = nL) (hs : jv_set2 L i v = some L') (h : lv_has ls' nL ((i, jv_vl ad v) :: (jv_prs ad L).filter (fun q => !(q.1 == i) && (!(q.1 == i + 1) && !(q.1 + 1 == i && q.2.category == 2))))) : jv_Lc ad ls' nL L' := by
  have key : L' = (L.set i (some v)).set (i + 1) none ∧ i + 1 < L.length ∧ ∀ j, i = j + 1 → ¬ jv_cat2 L j = true := by
    unfold jv_set2 at hs
    split at hs
    · rename_i hi
      split at hs
      · cases hs; exact ⟨rfl, hi, fun j h => by omega⟩
      · split at hs
        · cases hs
        · rename_i hc
          cases hs; exact ⟨rfl, hi, fun j h => by rw [show j = _ from (Nat.succ.inj h).symm]; exact hc⟩
    · cases hs
  obtain ⟨rfl, hi, hcat⟩ := key
  refine ⟨h.1, by rw [List.length_set, List.length_set]; exact hlen, h.2.1, fun j w hj => ?_⟩
  by_cases hj1 : i + 1 = j
  · subst hj1
    rw [List.getElem?_set_self (by rw [List.length_set]; exact hi)] at hj
    cases hj
  rw [List.getElem?_set_ne hj1] at hj
  by_cases hji : i = j
  · subst hji
    rw [List.getElem?_set_self (by omega)] at hj
    cases hj
    exact h.2.2 (i, jv_vl ad v) List.mem_cons_self
  · rw [List.getElem?_set_ne hji] at hj
    refine h.2.2 (j, jv_vl ad w) (List.mem_cons_of_mem _ (List.mem_filter.mpr ⟨jv_prs_mem.mpr ⟨w, hj, rfl⟩, ?_⟩))
    have h1 : (j == i) = false := by simpa using fun q => hji q.symm
    have h4 : (j == i + 1) = false := by simpa using fun q => hj1 q.symm
    have h2 : (j + 1 == i && (jv_vl ad w).category == 2) = false := by
      by_cases hq : j + 1 = i
      · have h3 := jv_cat2_no (hcat j hq.symm) hj
        rw [jv_vl_cat]
        simp [h3]
      · simp [hq]
    simp only [h1, h2, h4]
    rfl
theorem jv_set1_lt {L L' : List (Option Value)} {i : Nat} {v : Value} (hs : jv_set1 L i v = some L') : i < L.length := by
  unfold jv_set1 at hs
  split at hs
  · assumption
  · cases hs
theorem jv_set2_lt {L L' : List (Option Value)} {i : Nat} {v : Value} (hs : jv_set2 L i v = some L') : i + 1 < L.length := by
  unfold jv_set2 at hs
  split at hs
  · assumption
  · cases hs
theorem jv_stI_eq {L L' : List (Option Value)} {i : Nat} {st st' : List Value} (h : jv_stI L i st = some (L', st')) : ∃ x, st = .int x :: st' ∧ jv_set1 L i (.int x) = some L' := by
  unfold jv_stI at h
  split at h
  · split at h
    · rename_i hs; cases h; exact ⟨_, rfl, hs⟩
    · cases h
  · cases h
theorem jv_stA_eq {L L' : List (Option Value)} {i : Nat} {st st' : List Value} (h : jv_stA L i st = some (L', st')) : ∃ x, st = .ref x :: st' ∧ jv_set1 L i (.ref x) = some L' := by
  unfold jv_stA at h
  split at h
  · split at h
    · rename_i hs; cases h; exact ⟨_, rfl, hs⟩
    · cases h
  · cases h
theorem jv_stD_eq {L L' : List (Option Value)} {i : Nat} {st st' : List Value} (h : jv_stD L i st = some (L', st')) : ∃ x, st = .double x :: st' ∧ jv_set2 L i (.double x) = some L' := by
  unfold jv_stD at h
  split at h
  · split at h
    · rename_i hs; cases h; exact ⟨_, rfl, hs⟩
    · cases h
  · cases h
theorem jv_stL_eq {L L' : List (Option Value)} {i : Nat} {st st' : List Value} (h : jv_stL L i st = some (L', st')) : ∃ x, st = .long x :: st' ∧ jv_set2 L i (.long x) = some L' := by
  unfold jv_stL at h
  split at h
  · split at h
    · rename_i hs; cases h; exact ⟨_, rfl, hs⟩
    · cases h
  · cases h
theorem jv_sto_ok (hx : p.tables.exec = Jvm.exec) (hb : c.code = cc) {i : Instr} {len nL : Nat} {L L' : List (Option Value)} {st st' : List Value} (hdg : decode cc pc = .ok (i, len)) (hl : jv_sw i = true ∨ len = jv_len i) (hL : jv_Lc ad ls nL L) (h : jv_sto i L st = some (L', st'))
    (k : ∀ ls', jv_Lc ad ls' nL L' → W p l e R s m args below meth c H locs cells slots Q (F0 m (pc + len) ls' (st'.map (jv_vl ad)))) : W p l e R s m args below meth c H locs cells slots Q (F0 m pc ls (st.map (jv_vl ad))) := by
  have hn := hL.2.1
  unfold jv_sto at h
  split at h
  · have e := jv_len1 hl rfl; subst e; obtain ⟨x, rfl, h1⟩ := jv_stI_eq h
    exact lv_istore_n hx hb hdg rfl hL.has (hn ▸ jv_set1_lt h1) rfl (fun ls' h2 => k ls' (jv_Lc.of1 hn h1 h2))
  · have e := jv_len1 hl rfl; subst e; obtain ⟨x, rfl, h1⟩ := jv_stI_eq h
    exact lv_istore hx hb hdg hL.has (hn ▸ jv_set1_lt h1) rfl (fun ls' h2 => k ls' (jv_Lc.of1 hn h1 h2))
  · have e := jv_len1 hl rfl; subst e; obtain ⟨x, rfl, h1⟩ := jv_stA_eq h
    exact lv_astore_n hx hb hdg rfl hL.has (hn ▸ jv_set1_lt h1) rfl (fun ls' h2 => k ls' (jv_Lc.of1 hn h1 h2))
  · have e := jv_len1 hl rfl; subst e; obtain ⟨x, rfl, h1⟩ := jv_stA_eq h
    exact lv_astore hx hb hdg hL.has (hn ▸ jv_set1_lt h1) rfl (fun ls' h2 => k ls' (jv_Lc.of1 hn h1 h2))
  · have e := jv_len1 hl rfl; subst e; obtain ⟨x, rfl, h1⟩ := jv_stD_eq h
    exact lv_dstore_n hx hb hdg rfl hL.has (hn ▸ jv_set2_lt h1) rfl (fun ls' h2 => k ls' (jv_Lc.of2 hn h1 h2))
  · have e := jv_len1 hl rfl; subst e; obtain ⟨x, rfl, h1⟩ := jv_stD_eq h
    exact lv_dstore hx hb hdg hL.has (hn ▸ jv_set2_lt h1) rfl (fun ls' h2 => k ls' (jv_Lc.of2 hn h1 h2))
  · have e := jv_len1 hl rfl; subst e; obtain ⟨x, rfl, h1⟩ := jv_stL_eq h
    exact lv_lstore_n hx hb hdg rfl hL.has (hn ▸ jv_set2_lt h1) rfl (fun ls' h2 => k ls' (jv_Lc.of2 hn h1 h2))
  · have e := jv_len1 hl rfl; subst e; obtain ⟨x, rfl, h1⟩ := jv_stL_eq h
    exact lv_lstore hx hb hdg hL.has (hn ▸ jv_set2_lt h1) rfl (fun ls' h2 => k ls' (jv_Lc.of2 hn h1 h2))
  · have e := jv_len1 hl rfl; subst e
    split at h
    · rename_i x hx1
      split at h
      · rename_i h1
        cases h
        obtain ⟨q, hq⟩ := List.getElem?_of_mem (jv_prs_mem (ad := ad).mpr ⟨_, hx1, rfl⟩)
        exact lv_iinc hx hb hdg hL.has hq rfl (hn ▸ jv_set1_lt h1) rfl (fun ls' h2 => k ls' (jv_Lc.of1 hn h1 h2))
      · cases h
    · cases h
  · cases h
end JSND
end
section
/-! THE J MACHINE IS RIGHT: what reads and writes cells; printed by wip/p42/jheap42.py -/
theorem jw_s1 : Cond.fieldLink RJ0 38 "java/lang/String" "COMPACT_STRINGS" "Z" ∈ jv_T := jv_in_ok (i := 2155) (by decide +kernel)
theorem jw_s2 : Cond.fieldLink RJ5 18 "java/lang/String" "COMPACT_STRINGS" "Z" ∈ jv_T := jv_in_ok (i := 4182) (by decide +kernel)
theorem jw_s3 : Cond.fieldLink RJ6 83 "java/lang/Integer" "DigitOnes" "[B" ∈ jv_T := jv_in_ok (i := 4256) (by decide +kernel)
theorem jw_s4 : Cond.fieldLink RJ6 87 "java/lang/Integer" "DigitTens" "[B" ∈ jv_T := jv_in_ok (i := 4258) (by decide +kernel)
theorem jw_cc : Cond.classLink RJ7 311 "[B" ∈ jv_T := jv_in_ok (i := 4170) (by decide +kernel)
theorem jw_ma : Cond.classLink RL 101 "[[I" ∈ jv_T := jv_in_ok (i := 5173) (by decide +kernel)
theorem jw_l85 : Cond.constantLong RL 85 7 ∈ jv_T := jv_in_ok (i := 5157) (by decide +kernel)
theorem jw_l87 : Cond.constantLong RL 87 31 ∈ jv_T := jv_in_ok (i := 5158) (by decide +kernel)
theorem jw_l92 : Cond.constantLong RL 92 101 ∈ jv_T := jv_in_ok (i := 5159) (by decide +kernel)
/-- the base of the new cells, the script's address, the texts' addresses -/
abbrev jv_G : Type := Nat × Nat × (Nat → Nat)
def jv_ad (G : jv_G) (k : Nat) : Nat := if k < 1000000 then G.1 + k else if k = 1000000 then G.2.1 else G.2.2 (k - 1000001)
theorem jv_ad_lt {G : jv_G} {k : Nat} (h : k < 1000000) : jv_ad G k = G.1 + k := if_pos h
theorem jv_ad_scr {G : jv_G} : jv_ad G 1000000 = G.2.1 := rfl
theorem jv_ad_txt {G : jv_G} (i : Nat) : jv_ad G (1000001 + i) = G.2.2 i := by
  unfold jv_ad
  rw [if_neg (by omega), if_neg (by omega), show 1000001 + i - 1000001 = i by omega]
def jv_ce (dA : Nat → ClassId) (ad : Nat → Nat) (x : jv_E) : va_E := match x with
  | .inl (ty, n, f) => .inl (dA ty, n, .inl f)
  | .inr (.inl (ty, n, f)) => .inl (dA ty, n, .inr (.inr (.inr (.inr (fun j => (f j).map ad)))))
  | .inr (.inr (c, fs)) => .inr (c, fs.map (jv_vl ad))
/-- the J machine's cells as a world of the kit's -/
def jv_ws (dA : Nat → ClassId) (G : jv_G) (h : jv_H) : va_W := (List.range h.2.1).map (fun k => (G.1 + k, jv_ce dA (jv_ad G) (h.1 k)))
theorem jv_ws_get {dA : Nat → ClassId} {G : jv_G} {h : jv_H} {k : Nat} (hk : k < h.2.1) : (jv_ws dA G h)[k]? = some (G.1 + k, jv_ce dA (jv_ad G) (h.1 k)) := by
  simp [jv_ws, hk]
theorem jv_ws_inv {dA : Nat → ClassId} {G : jv_G} {h : jv_H} {k : Nat} {q : Nat × va_E} (hk : (jv_ws dA G h)[k]? = some q) : q.1 = G.1 + k := by
  unfold jv_ws at hk
  rw [List.getElem?_map] at hk
  cases hr : (List.range h.2.1)[k]? with
  | none => rw [hr] at hk; cases hk
  | some j =>
    rw [hr] at hk
    have hj : j = k := by
      have h1 := List.getElem?_eq_some_iff.mp hr
      obtain ⟨h2, h3⟩ := h1
      rw [List.getElem_range] at h3
      exact h3.symm
    subst hj
    cases hk
    rfl
theorem jv_ws_set {dA : Nat → ClassId} {G : jv_G} {h : jv_H} {k : Nat} (x : jv_E) (hk : k < h.2.1) : (jv_ws dA G h).set k (G.1 + k, jv_ce dA (jv_ad G) x) = jv_ws dA G (jv_put h k x) := by
  apply List.ext_getElem?
  intro j
  by_cases hj : k = j
  · subst hj
    rw [List.getElem?_set_self (by simp [jv_ws, hk]), jv_ws_get (h := jv_put h k x) hk]
    simp [jv_put, jv_up]
  · rw [List.getElem?_set_ne hj]
    by_cases hlt : j < h.2.1
    · rw [jv_ws_get hlt, jv_ws_get (h := jv_put h k x) hlt]
      simp [jv_put, jv_up, Ne.symm hj]
    · rw [List.getElem?_eq_none (by simp [jv_ws]; omega), List.getElem?_eq_none (by simp [jv_ws, jv_put]; omega)]
theorem jv_ws_add {dA : Nat → ClassId} {G : jv_G} {h : jv_H} (x : jv_E) (n : Nat) : jv_ws dA G (jv_add h x n) = jv_ws dA G h ++ [(G.1 + h.2.1, jv_ce dA (jv_ad G) x)] := by
  unfold jv_ws jv_add
  simp only [List.range_succ, List.map_append, List.map_cons, List.map_nil]
  congr 1
  · apply List.map_congr_left
    intro k hk
    have h1 := List.mem_range.mp hk
    simp [jv_up, Nat.ne_of_lt h1]
  · simp [jv_up]
theorem jv_ws_D {dA : Nat → ClassId} {G : jv_G} {h : jv_H} : va_D (fun q => G.1 ≤ q) (jv_ws dA G h) := by
  refine ⟨fun i j p q hp hq hpq => ?_, fun k q hk => ?_⟩
  · rw [jv_ws_inv hp, jv_ws_inv hq] at hpq
    omega
  · show G.1 ≤ q.1
    rw [jv_ws_inv hk]
    omega
/-- the cells that are old: texts, their letters, the rows of digits -/
def jv_oldc (a : Nat) : jv_E := if a < 1000038 then .inr (.inr (8, [.ref (a + 100), .int 0])) else if 1000101 ≤ a ∧ a < 1000138 then .inl (4, (jv_byt.getD (a - 1000101) []).length, fun j => (jv_byt.getD (a - 1000101) []).getD j 0)
  else if a = 1000201 then .inl (4, 100, fun j => Int32.ofNat (48 + j % 10)) else if a = 1000202 then .inl (4, 100, fun j => Int32.ofNat (48 + j / 10)) else .inr (.inl (99, 0, fun _ => none))
theorem jv_old_eq {a : Nat} (h : jv_old a = true) : 1000001 ≤ a ∧ a ≤ 1000202 := by
  unfold jv_old at h
  rw [Bool.and_eq_true] at h
  exact ⟨Nat.le_of_ble_eq_true h.1, Nat.le_of_ble_eq_true h.2⟩
/-- what never changes: the script, the old cells -/
def jv_fix (L : Nat) (xs : Nat → Int32) (h : jv_H) : Prop := h.1 1000000 = .inl (9, L, xs) ∧ ∀ a, jv_old a = true → h.1 a = jv_oldc a
theorem jv_fix.up {L : Nat} {xs : Nat → Int32} {h h' : jv_H} (hf : jv_fix L xs h) {k : Nat} (hk : k < 1000000) {x : jv_E} (he : h'.1 = jv_up h.1 k x) : jv_fix L xs h' := by
  unfold jv_fix
  rw [he]
  unfold jv_up
  refine ⟨by rw [if_neg (by omega)]; exact hf.1, fun a ha => ?_⟩
  have := jv_old_eq ha
  rw [if_neg (by omega)]
  exact hf.2 a ha
/-- an old cell that is a text -/
theorem jv_oldc_txt {a d : Nat} {fs : List Value} (h : jv_old a = true) (e : jv_oldc a = .inr (.inr (d, fs))) : ∃ i, i < 37 ∧ a = 1000001 + i ∧ d = 8 ∧ fs = [.ref (1000101 + i), .int 0] := by
  have h1 := jv_old_eq h
  unfold jv_oldc at e
  split at e
  · cases e
    exact ⟨a - 1000001, by omega, by omega, rfl, by rw [show a + 100 = 1000101 + (a - 1000001) by omega]⟩
  · split at e
    · cases e
    · split at e
      · cases e
      · split at e
        · cases e
        · cases e
/-- an old cell of bytes: letters or digits -/
theorem jv_oldc_byt {a ty n : Nat} {f : Nat → Int32} (h : jv_old a = true) (e : jv_oldc a = .inl (ty, n, f)) : ty = 4 ∧ ((∃ i, i < 37 ∧ a = 1000101 + i ∧ n = (jv_byt.getD i []).length ∧ f = fun j => (jv_byt.getD i []).getD j 0) ∨ (a = 1000201 ∧ n = 100 ∧ f = fun j => Int32.ofNat (48 + j % 10)) ∨ (a = 1000202 ∧ n = 100 ∧ f = fun j => Int32.ofNat (48 + j / 10))) := by
  have h1 := jv_old_eq h
  unfold jv_oldc at e
  split at e
  · cases e
  · split at e
    · rename_i h2
      have e2 := Prod.mk.inj (Sum.inl.inj e)
      have e3 := Prod.mk.inj e2.2
      exact ⟨e2.1.symm, Or.inl ⟨a - 1000101, by omega, by omega, e3.1.symm, e3.2.symm⟩⟩
    · split at e
      · rename_i h3
        have e2 := Prod.mk.inj (Sum.inl.inj e)
        have e3 := Prod.mk.inj e2.2
        exact ⟨e2.1.symm, Or.inr (Or.inl ⟨h3, e3.1.symm, e3.2.symm⟩)⟩
      · split at e
        · rename_i h3
          have e2 := Prod.mk.inj (Sum.inl.inj e)
          have e3 := Prod.mk.inj e2.2
          exact ⟨e2.1.symm, Or.inr (Or.inr ⟨h3, e3.1.symm, e3.2.symm⟩)⟩
        · cases e
theorem jv_lens_ok : ∀ i, i < 37 → jv_lens.getD i 0 = (jv_byt.getD i []).length := by decide +kernel
def jv_Rep (D : va_G) (dA : Nat → ClassId) (G : jv_G) (L : Nat) (xs : Nat → Int32) (h : jv_H) (H : Heap) : Prop := H.size = G.1 + h.2.1 ∧ h.2.1 ≤ 1000000 ∧ va_P D jv_Cl (jv_ws dA G h) H ∧ jv_fix L xs h
abbrev jv_tys (dA : Nat → ClassId) : List (ClassId × FieldType) := [(dA 0, .int), (dA 1, .boolean), (dA 2, .object "SeatSwap$Traveller"), (dA 3, .object "SeatSwap$Train"), (dA 4, .byte), (dA 5, .object "java/lang/String"), (dA 6, .array .int)]
/-- what the J machine says of the JDK's: the rows of digits, an array's clone -/
def jv_K3 (G : jv_G) (adV : Nat → Nat) (U : State) : Prop := va_AO "java/lang/String" U ∧ (∀ i, i < 37 → G.2.2 (100 + i) = adV i) ∧
  (va_Z "java/lang/Integer" "DigitOnes" "[B" (.ref (G.2.2 200)) (fun q => G.1 ≤ q) U U.heap ∧ va_T .byte (G.2.2 200) 100 (fun j => .int (Int32.ofNat (48 + j % 10))) (fun q => G.1 ≤ q) U U.heap) ∧
  (va_Z "java/lang/Integer" "DigitTens" "[B" (.ref (G.2.2 201)) (fun q => G.1 ≤ q) U U.heap ∧ va_T .byte (G.2.2 201) 100 (fun j => .int (Int32.ofNat (48 + j / 10))) (fun q => G.1 ≤ q) U U.heap) ∧
  va_Nw (.castable "[B" "java/lang/Cloneable") U ∧ va_Nw (.arrayOver (.array .int)) U
theorem jv_warmA {s U : State} (hal : s.vm.Alike U.vm) (h : va_Nw (.arrayOver (.array .int)) s) : va_Nw (.arrayOver (.array .int)) U := by
  have h2 : (Cond.arrayOver (.array .int)).before #[] (s.setVm U.vm) = true := by rw [Cond.arrayOver_setVmC hal]; exact h
  exact h2
/-- what is said of classes, nest mates and the JDK's statics -/
def jv_K2 (G : jv_G) (adV : Nat → Nat) (U : State) : Prop := va_AO "SeatSwap$Traveller" U ∧ va_AO "SeatSwap$Train" U ∧ (∀ w ∈ jv_nests, va_Nw w U) ∧ va_Z "java/lang/String" "COMPACT_STRINGS" "Z" (.int 1) (fun q => G.1 ≤ q) U U.heap ∧ jv_K3 G adV U ∧
  ∃ v : Value, (v = .null ∨ ∃ a, v = .ref a) ∧ va_Z "jdk/internal/util/Preconditions" "SIOOBE_FORMATTER" "Ljava/util/function/BiFunction;" v (fun q => G.1 ≤ q) U U.heap
/-- the texts, by their places; two places may hold one text -/
def jv_S (adK adV : Nat → Nat) (A : Nat → Prop) (U : State) (H : Heap) : Prop := ∀ i : Nat, i < 37 → va_O "java/lang/String" (adK i) A U H ∧ va_OF "java/lang/String" "coder" "B" (.int 0) (adK i) A U H ∧ va_OF "java/lang/String" "value" "[B" (.ref (adV i)) (adK i) A U H ∧ va_T .byte (adV i) (jv_lens.getD i 0) (fun j => .int ((jv_byt.getD i []).getD j 0)) A U H
theorem jv_S.moved {adK adV : Nat → Nat} {A : Nat → Prop} {u U : State} {H : Heap} (hvm : u.vm.Alike U.vm) (h : jv_S adK adV A u H) : jv_S adK adV A U H :=
  fun i hi => ⟨va_O.moved hvm (h i hi).1, va_OF.moved hvm (h i hi).2.1, va_OF.moved hvm (h i hi).2.2.1, va_T.moved hvm (h i hi).2.2.2⟩
theorem jv_S.kept {adK adV : Nat → Nat} {A : Nat → Prop} {U : State} {H H1 : Heap} (h : jv_S adK adV A U H) (hq : ∀ a : Nat, a < H.size → ¬ A a → H1[a]? = H[a]?) : jv_S adK adV A U H1 :=
  fun i hi => ⟨(h i hi).1.kept hq, (h i hi).2.1.kept hq, (h i hi).2.2.1.kept hq, (h i hi).2.2.2.kept hq⟩
theorem jv_recvS {adK adV : Nat → Nat} {A : Nat → Prop} {s : State} {H : Heap} {locs : List Loc} {i : Nat} (hE : jv_S adK adV A s s.heap) (hi : i < 37) (hS : va_S A s.heap H locs) : ∃ cell : Cell, H[adK i]? = some cell ∧ cell.vm.isStatics = false ∧ s.vm.findClass "java/lang/String" = some cell.cls := by
  obtain ⟨cell, h1, h2, h3, -⟩ := (hE i hi).1.kept hS.2.1
  exact ⟨cell, h1, h2, h3⟩
/-- what a method knows beside its cells -/
def jv_Kn (D : va_G) (dA : Nat → ClassId) (G : jv_G) (adV : Nat → Nat) (L : Nat) (xs : Nat → Int32) (U : State) : Prop :=
  va_K D jv_Cl (jv_tys dA) U ∧ va_X G.2.1 L xs U U.heap ∧ G.2.1 < G.1 ∧ G.1 ≤ U.heap.size ∧ jv_S G.2.2 adV (fun q => G.1 ≤ q) U U.heap ∧ (∀ (i : Nat) (q : String × Nat × String), jv_str[i]? = some q → vk_R q.1 q.2.1 q.2.2 (G.2.2 i) U) ∧ jv_K2 G adV U
theorem jv_Kn.txtO {D : va_G} {dA : Nat → ClassId} {G : jv_G} {adV : Nat → Nat} {L : Nat} {xs : Nat → Int32} {U : State} (h : jv_Kn D dA G adV L xs U) : jv_S G.2.2 adV (fun q => G.1 ≤ q) U U.heap := h.2.2.2.2.1
theorem jv_Kn.k3 {D : va_G} {dA : Nat → ClassId} {G : jv_G} {adV : Nat → Nat} {L : Nat} {xs : Nat → Int32} {U : State} (h : jv_Kn D dA G adV L xs U) : jv_K3 G adV U := h.2.2.2.2.2.2.2.2.2.2.1
theorem jv_Kn.compact {D : va_G} {dA : Nat → ClassId} {G : jv_G} {adV : Nat → Nat} {L : Nat} {xs : Nat → Int32} {U : State} (h : jv_Kn D dA G adV L xs U) : va_Z "java/lang/String" "COMPACT_STRINGS" "Z" (.int 1) (fun q => G.1 ≤ q) U U.heap := h.2.2.2.2.2.2.2.2.2.1
/-- an old row of bytes, by its place -/
theorem jv_Kn.oldT {D : va_G} {dA : Nat → ClassId} {G : jv_G} {adV : Nat → Nat} {L : Nat} {xs : Nat → Int32} {U : State} (h : jv_Kn D dA G adV L xs U) {a ty n : Nat} {f : Nat → Int32} (ho : jv_old a = true) (e : jv_oldc a = .inl (ty, n, f)) : ty = 4 ∧ va_T .byte (jv_ad G a) n (fun j => .int (f j)) (fun q => G.1 ≤ q) U U.heap := by
  obtain ⟨hty, hc⟩ := jv_oldc_byt ho e
  refine ⟨hty, ?_⟩
  rcases hc with ⟨i, hi, rfl, rfl, rfl⟩ | ⟨rfl, rfl, rfl⟩ | ⟨rfl, rfl, rfl⟩
  · have h1 := (h.txtO i hi).2.2.2
    rw [jv_lens_ok i hi] at h1
    rw [show 1000101 + i = 1000001 + (100 + i) by omega, jv_ad_txt, h.k3.2.1 i hi]
    exact h1
  · exact h.k3.2.2.1.2
  · exact h.k3.2.2.2.1.2
theorem jv_vl_fits (ad : Nat → Nat) (ty : FieldType) (v : Value) : fits ty (jv_vl ad v) = fits ty v := by
  cases v <;> first | rfl | (cases ty <;> rfl)
theorem jv_vl_narrow (ad : Nat → Nat) (ty : FieldType) (v : Value) (h : narrow ty v = v) : narrow ty (jv_vl ad v) = jv_vl ad v := by
  cases v <;> first | exact h | (cases ty <;> rfl)
theorem jv_vl_default (ad : Nat → Nat) (ty : FieldType) : jv_vl ad (defaultValue ty) = defaultValue ty := by
  cases ty <;> rfl
section JHP
variable {p : Program} {l : Launch} {e : Env} {R : Room} {s : State} {m : MethodId} {args : Array Value} {below : List Frame} {meth : Method} {c : Code} {H : Heap} {locs : List Loc} {cells slots : Nat} {Q : State → Prop}
variable {cc : ByteArray} {pc : Nat} {ls : Array Slot} {rest : List Value} {D : va_G} {cl : List vw_C} {A : Nat → Prop} {a : Nat} {tys : List (ClassId × FieldType)} {ws : va_W} {H0 : Heap}
/-- a field is written (a final one: in its class's constructor), and nothing is made -/
theorem jv_putW (hexec : p.tables.exec = Jvm.exec) (hb : c.code = cc) {own C : String} {T : u_T} {N ci index : Nat} {Ts : List Cond} (hts : ∀ w ∈ Ts, w.before args s = true) (hin : ∀ w ∈ u_ws C T N, w ∈ Ts) (ty0 : Nat → FieldType) (hty : ∀ k, k < N → parseFieldDescriptor (T k).2.2.1 = some (ty0 k)) (hnm : ∀ a, a < N → ∀ b, b < N → a ≠ b → (T a).2.1 ≠ (T b).2.1) (hown : s.vm.findClass own = some m.cls)
    (hK : va_K D cl tys s) (hP : va_P D cl ws H) (hD : va_D A ws) (hS0 : va_S A H0 H locs) (q0 : Nat) {fs : List Value} (he : ws[q0]? = some (a, .inr (ci, fs))) (hc : cl[ci]? = some (C, T, N)) (k : Nat) (hk : k < N) (hlink : (Cond.fieldLink own index (T k).1 (T k).2.1 (T k).2.2.1).before args s = true) (hfin : (T k).2.2.2 = false ∨ ((T k).2.2.2 = true ∧ meth.name = "<init>" ∧ (T k).1 = own))
    {v : Value} (hn : narrow (ty0 k) v = v) (hfit : fits (ty0 k) v = true) (hl : k < fs.length) (hdg : decode cc pc = .ok (.putfield index, 3))
    (kk : ∀ (H1 : Heap) (locs1 : List Loc), H1.size = H.size → va_P D cl (ws.set q0 (a, .inr (ci, fs.set k v))) H1 → va_S A H0 H1 locs1 → W p l e R s m args below meth c H1 locs1 cells slots Q (F0 m (pc + 3) ls rest)) : W p l e R s m args below meth c H locs cells slots Q (F0 m pc ls (v :: .ref a :: rest)) := by
  have hap := va_apart (own := own) hts hin ty0 hty hnm hK hc
  obtain ⟨r, h1, cell, q1, q2, q3, q4⟩ := hP q0 _ he
  have hr : r = (C, T, N) := Option.some.inj (h1.symm.trans hc)
  subst hr
  obtain ⟨hS, hfc, kC, hkC, hkind⟩ := hK.1 ci _ hc
  obtain ⟨cf, kf, fi, f, hi, hsl⟩ := hS k hk
  have hst := (u_facts hfc hkC (u_lays hts hin hk) hi).1
  have fin : ∀ H' : Heap, H'[a]? = some (cell.setSlot f.slot v) → (∀ q, q ≠ a → H'[q]? = H[q]?) → va_P D cl (ws.set q0 (a, .inr (ci, fs.set k v))) H' := by
    intro H' e1 e3
    rw [hsl] at e1
    exact hP.set hD he ⟨_, hc, t_OB.to (V := updV (vp_V fs) k v) ⟨_, e1, q2, q3, t_set q4 hap hk v⟩ (fun j _ => vp_updV_set hl v j)⟩ e3
  have hlay := hts _ (hin _ (u_in_lay hk))
  unfold u_lay at hlay
  rcases hfin with hfin | ⟨hfin, hin2, hdecl⟩
  · rw [if_neg (by rw [hfin]; decide)] at hlay
    have h6 := u_store hfc hkC hkind hlay hi (hty k hk) hn hfit
    exact W.putK hexec hb (f := f) ⟨hown, hlink, ⟨_, _, _, hi⟩, hst⟩ (by rw [q2]; exact h6) q1 q3 (by rw [hsl]; exact k2_hasslot (q4 k hk)) rfl rfl hdg fun H' e1 e2 e3 => kk H' _ e2 (fin H' e1 e3) (hS0.put e2 e3 (hD.2 q0 _ he))
  · rw [if_pos hfin] at hlay
    have hcf : m.cls = cf := by
      obtain ⟨_, _, c', _, _, _, -, -, hf', -, -, -, hown2, -⟩ := Cond.laysFinal_spec hlay
      have e1 : c' = cf := by have := hi.symm.trans hf'; simp at this; exact this.1.symm
      rw [hdecl] at hown2
      rw [← e1]; exact Option.some.inj (hown.symm.trans hown2)
    have h6 := u_fits hfc hkC hkind (Or.inr hlay) hi (hty k hk) hn hfit
    exact W.putFinK hexec hb hown hlink hi hst hcf hin2 (by rw [q2]; exact h6) q1 q3 (by rw [hsl]; exact k2_hasslot (q4 k hk)) rfl rfl hdg fun H' e1 e2 e3 => kk H' _ e2 (fin H' e1 e3) (hS0.put e2 e3 (hD.2 q0 _ he))
theorem jv_iastW (hexec : p.tables.exec = Jvm.exec) (hb : c.code = cc) (hK : va_K D cl tys s) (hP : va_P D cl ws H) (hD : va_D A ws) (hS : va_S A H0 H locs) (q0 t0 : Nat) {cA : ClassId} {n : Nat} {f : Nat → Int32} (ha : ws[q0]? = some (a, .inl (cA, n, .inl f))) (ht : tys[t0]? = some (cA, .int)) {i : Int32} {x : Int32} (hin : vp_in i n) (hdg : decode cc pc = .ok (.iastore, 1))
    (kk : ∀ (H1 : Heap) (locs1 : List Loc), H1.size = H.size → va_P D cl (ws.set q0 (a, .inl (cA, n, .inl (upd f i.toNatClampNeg x)))) H1 → va_S A H0 H1 locs1 → W p l e R s m args below meth c H1 locs1 cells slots Q (F0 m (pc + 1) ls rest)) : W p l e R s m args below meth c H locs cells slots Q (F0 m pc ls (.int x :: .int i :: .ref a :: rest)) := by
  refine W.iast hexec hb (hP q0 _ ha) ((hK.2 t0 _ ht).1 n (fun j => .int (f j))) (fun q => by cases q) (by show ¬ (i < 0 ∨ (arrV _ _ _).slots.size ≤ _); rw [arrV_size]; exact hin) rfl rfl hdg fun H1 e z oq => ?_
  refine kk H1 _ z (hP.set hD ha ?_ oq) (hS.put z oq (hD.2 q0 _ ha))
  show H1[a]? = some (vp_cell _ _)
  rw [e, vp_cell_i, vp_cell_i, arrV_store]
  congr 2
  funext q
  by_cases hq : q = i.toNatClampNeg
  · subst hq
    simp [updV, upd]
  · simp [updV, upd, hq]
theorem jv_zastW (hexec : p.tables.exec = Jvm.exec) (hb : c.code = cc) (hK : va_K D cl tys s) (hP : va_P D cl ws H) (hD : va_D A ws) (hS : va_S A H0 H locs) (q0 t0 : Nat) {cA : ClassId} {n : Nat} {f : Nat → Int32} (ha : ws[q0]? = some (a, .inl (cA, n, .inl f))) (ht : tys[t0]? = some (cA, .boolean)) {i : Int32} {x : Int32} (hx1 : x &&& 1 = x) (hin : vp_in i n) (hdg : decode cc pc = .ok (.bastore, 1))
    (kk : ∀ (H1 : Heap) (locs1 : List Loc), H1.size = H.size → va_P D cl (ws.set q0 (a, .inl (cA, n, .inl (upd f i.toNatClampNeg x)))) H1 → va_S A H0 H1 locs1 → W p l e R s m args below meth c H1 locs1 cells slots Q (F0 m (pc + 1) ls rest)) : W p l e R s m args below meth c H locs cells slots Q (F0 m pc ls (.int x :: .int i :: .ref a :: rest)) := by
  refine W.zast hexec hb (hP q0 _ ha) ((hK.2 t0 _ ht).1 n (fun j => .int (f j))) (fun q => by cases q) (by show ¬ (i < 0 ∨ (arrV _ _ _).slots.size ≤ _); rw [arrV_size]; exact hin) rfl rfl hdg fun H1 e z oq => ?_
  refine kk H1 _ z (hP.set hD ha ?_ oq) (hS.put z oq (hD.2 q0 _ ha))
  show H1[a]? = some (vp_cell _ _)
  rw [e, vp_cell_i, vp_cell_i, arrV_store]
  congr 2
  funext q
  by_cases hq : q = i.toNatClampNeg
  · subst hq
    simp [updV, upd, narrow, hx1]
  · simp [updV, upd, hq]
theorem jv_aastW (hexec : p.tables.exec = Jvm.exec) (hb : c.code = cc) (hK : va_K D cl tys s) (hP : va_P D cl ws H) (hD : va_D A ws) (hS : va_S A H0 H locs) (q0 t0 qk ci : Nat) {cA : ClassId} {r : vw_C} {n v : Nat} {vs : List Value} {f : Nat → Option Nat} (ha : ws[q0]? = some (a, .inl (cA, n, .inr (.inr (.inr (.inr f)))))) (ht : tys[t0]? = some (cA, .object r.1)) (hv : ws[qk]? = some (v, .inr (ci, vs))) (hc : cl[ci]? = some r) {i : Int32} (hin : vp_in i n) (hdg : decode cc pc = .ok (.aastore, 1))
    (kk : ∀ (H1 : Heap) (locs1 : List Loc), H1.size = H.size → va_P D cl (ws.set q0 (a, .inl (cA, n, .inr (.inr (.inr (.inr (va_up f i.toNatClampNeg (some v)))))))) H1 → va_S A H0 H1 locs1 → W p l e R s m args below meth c H1 locs1 cells slots Q (F0 m (pc + 1) ls rest)) : W p l e R s m args below meth c H locs cells slots Q (F0 m pc ls (.ref v :: .int i :: .ref a :: rest)) := by
  have hlt : i.toNatClampNeg < n := Nat.not_le.mp fun q => hin (Or.inr q)
  have h0 : ¬ i < 0 := fun q => hin (Or.inl q)
  obtain ⟨r', hr', cellV, g1, g2, g3, -⟩ := hP qk _ hv
  have hcls := (hK.1 ci r hc).2
  obtain ⟨kA, comp, k1, k2, k3, -⟩ := (hK.2 t0 _ ht).2
  have hcomp : comp = D.1 ci := Option.some.inj (k3.symm.trans hcls.1)
  subst hcomp
  obtain ⟨kC, hkC, -⟩ := hcls.2
  refine W.aast hexec hb (hP q0 _ ha) (fun q h => by cases h) (fun h => by cases h) k1 k2 rfl hkC ⟨h0, by show _ < (arrV _ _ _).slots.size; rw [arrV_size]; exact hlt⟩ g1 (fun q h => by rw [g3] at h; cases h) (by rw [g2]; exact hkC) (by rw [g2]; exact va_assign hcls) rfl rfl hdg fun H1 e z oq => ?_
  refine kk H1 _ z (hP.set hD ha ?_ oq) (hS.put z oq (hD.2 q0 _ ha))
  show H1[a]? = some (vp_cell _ _)
  rw [e, vp_cell_q, vp_cell_q, arrV_store]
  congr 2
  funext q
  by_cases hq : q = i.toNatClampNeg
  · subst hq
    simp [updV, va_up, va_rf]
  · simp [updV, va_up, hq]
theorem jv_bastW (hexec : p.tables.exec = Jvm.exec) (hb : c.code = cc) (hK : va_K D cl tys s) (hP : va_P D cl ws H) (hD : va_D A ws) (hS : va_S A H0 H locs) (q0 t0 : Nat) {cA : ClassId} {n : Nat} {f : Nat → Int32} (ha : ws[q0]? = some (a, .inl (cA, n, .inl f))) (ht : tys[t0]? = some (cA, .byte)) {i : Int32} {x : Int32} (hx1 : x.toInt8.toInt32 = x) (hin : vp_in i n) (hdg : decode cc pc = .ok (.bastore, 1))
    (kk : ∀ (H1 : Heap) (locs1 : List Loc), H1.size = H.size → va_P D cl (ws.set q0 (a, .inl (cA, n, .inl (upd f i.toNatClampNeg x)))) H1 → va_S A H0 H1 locs1 → W p l e R s m args below meth c H1 locs1 cells slots Q (F0 m (pc + 1) ls rest)) : W p l e R s m args below meth c H locs cells slots Q (F0 m pc ls (.int x :: .int i :: .ref a :: rest)) := by
  refine W.bast hexec hb (hP q0 _ ha) ((hK.2 t0 _ ht).1 n (fun j => .int (f j))) (fun q => by cases q) (by show ¬ (i < 0 ∨ (arrV _ _ _).slots.size ≤ _); rw [arrV_size]; exact hin) rfl rfl hdg fun H1 e z oq => ?_
  refine kk H1 _ z (hP.set hD ha ?_ oq) (hS.put z oq (hD.2 q0 _ ha))
  show H1[a]? = some (vp_cell _ _)
  rw [e, vp_cell_i, vp_cell_i, arrV_store]
  congr 2
  funext q
  by_cases hq : q = i.toNatClampNeg
  · subst hq
    simp [updV, upd, narrow, hx1]
  · simp [updV, upd, hq]
theorem jv_aastS (hexec : p.tables.exec = Jvm.exec) (hb : c.code = cc) (hK : va_K D cl tys s) (hP : va_P D cl ws H) (hD : va_D A ws) (hS : va_S A H0 H locs) (q0 t0 ci : Nat) {cA : ClassId} {r : vw_C} {n v : Nat} {f : Nat → Option Nat} (ha : ws[q0]? = some (a, .inl (cA, n, .inr (.inr (.inr (.inr f)))))) (ht : tys[t0]? = some (cA, .object r.1)) (hv : ∃ cell : Cell, H[v]? = some cell ∧ cell.vm.isStatics = false ∧ s.vm.findClass r.1 = some cell.cls) (hc : cl[ci]? = some r) {i : Int32} (hin : vp_in i n) (hdg : decode cc pc = .ok (.aastore, 1))
    (kk : ∀ (H1 : Heap) (locs1 : List Loc), H1.size = H.size → va_P D cl (ws.set q0 (a, .inl (cA, n, .inr (.inr (.inr (.inr (va_up f i.toNatClampNeg (some v)))))))) H1 → va_S A H0 H1 locs1 → W p l e R s m args below meth c H1 locs1 cells slots Q (F0 m (pc + 1) ls rest)) : W p l e R s m args below meth c H locs cells slots Q (F0 m pc ls (.ref v :: .int i :: .ref a :: rest)) := by
  have hlt : i.toNatClampNeg < n := Nat.not_le.mp fun q => hin (Or.inr q)
  have h0 : ¬ i < 0 := fun q => hin (Or.inl q)
  obtain ⟨cellV, g1, g3, g9⟩ := hv
  have hcls := (hK.1 ci r hc).2
  have g2 : cellV.cls = D.1 ci := Option.some.inj (g9.symm.trans hcls.1)
  obtain ⟨kA, comp, k1, k2, k3, -⟩ := (hK.2 t0 _ ht).2
  have hcomp : comp = D.1 ci := Option.some.inj (k3.symm.trans hcls.1)
  subst hcomp
  obtain ⟨kC, hkC, -⟩ := hcls.2
  refine W.aast hexec hb (hP q0 _ ha) (fun q h => by cases h) (fun h => by cases h) k1 k2 rfl hkC ⟨h0, by show _ < (arrV _ _ _).slots.size; rw [arrV_size]; exact hlt⟩ g1 (fun q h => by rw [h] at g3; cases g3) (by rw [g2]; exact hkC) (by rw [g2]; exact va_assign hcls) rfl rfl hdg fun H1 e z oq => ?_
  refine kk H1 _ z (hP.set hD ha ?_ oq) (hS.put z oq (hD.2 q0 _ ha))
  show H1[a]? = some (vp_cell _ _)
  rw [e, vp_cell_q, vp_cell_q, arrV_store]
  congr 2
  funext q
  by_cases hq : q = i.toNatClampNeg
  · subst hq
    simp [updV, va_up, va_rf]
  · simp [updV, va_up, hq]
end JHP
theorem jv_get_eq {ow idx : Nat} {st st' : List Value} {h : jv_H} (h0 : jv_get ow idx st h = some st') : ∃ (a : Nat) (r : List Value) (cx k : Nat) (fs : List Value) (v : Value), st = .ref a :: r ∧ jv_fld ow idx = some (cx, k) ∧ (a < h.2.1 ∨ jv_old a = true) ∧ h.1 a = .inr (.inr (cx, fs)) ∧ fs[k]? = some v ∧ st' = v :: r := by
  unfold jv_get at h0
  split at h0
  · rename_i a r
    split at h0
    · rename_i cx k hf
      split at h0
      · rename_i ha
        split at h0
        · rename_i d fs hc
          split at h0
          · rename_i hd
            subst hd
            split at h0
            · rename_i v hv
              cases h0
              exact ⟨a, r, _, k, fs, v, rfl, hf, ha, hc, hv, rfl⟩
            · cases h0
          · cases h0
        · cases h0
      · cases h0
    · cases h0
  · cases h0
theorem jv_set_eq {ow idx : Nat} {ini : Bool} {st st' : List Value} {h h' : jv_H} (h0 : jv_set ow ini idx st h = some (st', h')) : ∃ (v : Value) (a : Nat) (cx k : Nat) (fs : List Value), st = v :: .ref a :: st' ∧ jv_fld ow idx = some (cx, k) ∧ a < h.2.1 ∧ h.1 a = .inr (.inr (cx, fs)) ∧ k < fs.length ∧ narrow (jv_fty cx k) v = v ∧ fits (jv_fty cx k) v = true ∧ ((jv_fT cx k).2.2.2 = false ∨ (ini = true ∧ cx = ow)) ∧ h' = jv_put h a (.inr (.inr (cx, fs.set k v))) := by
  unfold jv_set at h0
  split at h0
  · rename_i v a r
    split at h0
    · rename_i cx k hf
      split at h0
      · rename_i ha
        obtain ⟨ha, hn, hfi, hfin⟩ := ha
        split at h0
        · rename_i d fs hc
          split at h0
          · rename_i hd
            obtain ⟨hd, hk⟩ := hd
            subst hd
            cases h0
            exact ⟨v, a, _, k, fs, rfl, hf, ha, hc, hk, hn, hfi, hfin, rfl⟩
          · cases h0
        · cases h0
      · cases h0
    · cases h0
  · cases h0
section JHQ
variable {p : Program} {l : Launch} {e : Env} {R : Room} {s : State} {m : MethodId} {args : Array Value} {below : List Frame} {meth : Method} {c : Code} {H : Heap} {locs : List Loc} {cells slots : Nat} {Q : State → Prop}
variable {cc : ByteArray} {pc : Nat} {ls : Array Slot} {D : va_G} {dA : Nat → ClassId} {G : jv_G} {adV : Nat → Nat} {L : Nat} {xs : Nat → Int32}
theorem jv_Rep.at {h : jv_H} (hR : jv_Rep D dA G L xs h H) {a : Nat} (ha : a < h.2.1) {x : jv_E} (he : h.1 a = x) : (jv_ws dA G h)[a]? = some (jv_ad G a, jv_ce dA (jv_ad G) x) := by
  have h1 := hR.2.1
  rw [jv_ad_lt (by omega), ← he]
  exact jv_ws_get ha
theorem jv_Rep.put {h : jv_H} {H1 : Heap} (hR : jv_Rep D dA G L xs h H) {a : Nat} (ha : a < h.2.1) {x : jv_E} (hz : H1.size = H.size) (hP : va_P D jv_Cl ((jv_ws dA G h).set a (jv_ad G a, jv_ce dA (jv_ad G) x)) H1) : jv_Rep D dA G L xs (jv_put h a x) H1 := by
  have h1 := hR.2.1
  refine ⟨hz.trans hR.1, hR.2.1, ?_, hR.2.2.2.up (k := a) (x := x) (by omega) rfl⟩
  rw [jv_ad_lt (by omega), jv_ws_set x ha] at hP
  exact hP
theorem jv_Rep.add {h : jv_H} {H1 : Heap} (hR : jv_Rep D dA G L xs h H) {x : jv_E} {n : Nat} (hm : h.2.1 + 1 ≤ 1000000) (hz : H1.size = H.size + 1) (o1 : ∀ q : Nat, q < H.size → H1[q]? = H[q]?) (hat : va_at D jv_Cl (G.1 + h.2.1, jv_ce dA (jv_ad G) x) H1) : jv_Rep D dA G L xs (jv_add h x n) H1 := by
  refine ⟨?_, hm, ?_, hR.2.2.2.up (k := h.2.1) (x := x) (by omega) rfl⟩
  · rw [hz, hR.1]
    show G.1 + h.2.1 + 1 = G.1 + (h.2.1 + 1)
    omega
  · rw [jv_ws_add]
    refine (hR.2.2.1.kept (fun k q hk => o1 q.1 ((hR.2.2.1 k q hk).lt))).app (fun k q hk => ?_)
    have hz : k < 1 := (List.getElem?_eq_some_iff.mp hk).1
    rw [show k = 0 by omega] at hk
    cases hk
    exact hat
theorem jv_grow {A : Nat → Prop} {H0 H1 : Heap} (hS : va_S A H0 H locs) (hz : H1.size = H.size + 1) (o1 : ∀ q : Nat, q < H.size → H1[q]? = H[q]?) : va_S A H0 H1 locs :=
  ⟨Nat.le_trans hS.1 (by omega), fun x h1 h2 => (o1 x (Nat.lt_of_lt_of_le h1 hS.1)).trans (hS.2.1 x h1 h2), hS.2.2⟩
/-- what every case of jv_heap_ok has -/
def jv_Cx (p : Program) (s : State) (m : MethodId) (args : Array Value) (meth : Method) (c : Code) (cc : ByteArray) (ow : Nat) (ini : Bool) (D : va_G) (dA : Nat → ClassId) (G : jv_G) (adV : Nat → Nat) (L : Nat) (xs : Nat → Int32) (h : jv_H) (H : Heap) (locs : List Loc) : Prop :=
  p.tables.exec = Jvm.exec ∧ c.code = cc ∧ s.vm.findClass (jv_own ow) = some m.cls ∧ (∀ w ∈ jv_T, w.before args s = true) ∧ jv_Kn D dA G adV L xs s ∧ jv_Rep D dA G L xs h H ∧ va_S (fun q => G.1 ≤ q) s.heap H locs ∧ (ini = true → meth.name = "<init>")
set_option maxHeartbeats 8000000 in
set_option maxRecDepth 100000 in
theorem jv_h_getfield {ow : Nat} {ini : Bool} {h h' : jv_H} (X : jv_Cx p s m args meth c cc ow ini D dA G adV L xs h H locs) {idx : Nat} {len : Nat} {st st' : List Value} (hdg : decode cc pc = .ok (.getfield idx, len)) (hl : jv_sw (.getfield idx) = true ∨ len = jv_len (.getfield idx)) (h0 : jv_heap ow ini (.getfield idx) st h = some (st', h')) (hm : h'.2.1 ≤ 1000000) (hc : cells + (h'.2.1 - h.2.1) ≤ R.cells) (hs : slots + (h'.2.2 - h.2.2) ≤ R.slots)
    (k : ∀ (H' : Heap) (locs' : List Loc) (cells' slots' : Nat), cells' = cells + (h'.2.1 - h.2.1) → slots' = slots + (h'.2.2 - h.2.2) → jv_Rep D dA G L xs h' H' → va_S (fun q => G.1 ≤ q) s.heap H' locs' → W p l e R s m args below meth c H' locs' cells' slots' Q (F0 m (pc + len) ls (st'.map (jv_vl (jv_ad G))))) :
    W p l e R s m args below meth c H locs cells slots Q (F0 m pc ls (st.map (jv_vl (jv_ad G)))) := by
  obtain ⟨hx, hb, hown, hts, hK, hR, hS, hini⟩ := X
  unfold jv_heap at h0
  dsimp only at h0
  have e := jv_len1 hl rfl; subst e
  split at h0
  · rename_i st1 hg
    cases h0
    obtain ⟨a, r, cx, kf, fs, v, rfl, hf, ha, he, hv, rfl⟩ := jv_get_eq hg
    have hck := jv_ckf_ok hf
    simp only [jv_ckf1, Bool.and_eq_true, decide_eq_true_eq] at hck
    obtain ⟨⟨hcx, hkf⟩, hw⟩ := hck
    rcases ha with ha | ha
    · exact va_get (D := D) (ci := cx) (v := jv_vl (jv_ad G) v) hx hb hts (jv_ws_in cx hcx) hown hK.1 hR.2.2.1 a (hR.at ha he) (jv_cls_ok cx hcx) kf hkf (hts _ (jv_in_ok hw)) (fun _ q => q) (by rw [List.getElem?_map, hv]; rfl) hdg (k H locs cells slots (by omega) (by omega) hR hS)
    · obtain ⟨i, hi, rfl, rfl, rfl⟩ := jv_oldc_txt ha ((hR.2.2.2.2 a ha).symm.trans he)
      have kk := k H locs cells slots (by omega) (by omega) hR hS
      have hE := hK.txtO i hi
      show W p l e R s m args below meth c H locs cells slots Q (F0 m pc ls (.ref (jv_ad G (1000001 + i)) :: r.map (jv_vl (jv_ad G))))
      rw [jv_ad_txt]
      match kf, hv with
      | 0, hv =>
        cases hv
        have kk2 : W p l e R s m args below meth c H locs cells slots Q (F0 m (pc + 3) ls (.ref (jv_ad G (1000101 + i)) :: r.map (jv_vl (jv_ad G)))) := kk
        rw [show 1000101 + i = 1000001 + (100 + i) by omega, jv_ad_txt, hK.k3.2.1 i hi] at kk2
        exact vk_getf hx hb hE.2.2.1 hS hown (hts _ (jv_in_ok hw)) (fun _ q => q) hdg kk2
      | 1, hv =>
        cases hv
        exact vk_getf hx hb hE.2.1 hS hown (hts _ (jv_in_ok hw)) (fun _ q => q) hdg kk
      | q + 2, hv => cases hv
  · cases h0
set_option maxHeartbeats 8000000 in
set_option maxRecDepth 100000 in
theorem jv_h_putfield {ow : Nat} {ini : Bool} {h h' : jv_H} (X : jv_Cx p s m args meth c cc ow ini D dA G adV L xs h H locs) {idx : Nat} {len : Nat} {st st' : List Value} (hdg : decode cc pc = .ok (.putfield idx, len)) (hl : jv_sw (.putfield idx) = true ∨ len = jv_len (.putfield idx)) (h0 : jv_heap ow ini (.putfield idx) st h = some (st', h')) (hm : h'.2.1 ≤ 1000000) (hc : cells + (h'.2.1 - h.2.1) ≤ R.cells) (hs : slots + (h'.2.2 - h.2.2) ≤ R.slots)
    (k : ∀ (H' : Heap) (locs' : List Loc) (cells' slots' : Nat), cells' = cells + (h'.2.1 - h.2.1) → slots' = slots + (h'.2.2 - h.2.2) → jv_Rep D dA G L xs h' H' → va_S (fun q => G.1 ≤ q) s.heap H' locs' → W p l e R s m args below meth c H' locs' cells' slots' Q (F0 m (pc + len) ls (st'.map (jv_vl (jv_ad G))))) :
    W p l e R s m args below meth c H locs cells slots Q (F0 m pc ls (st.map (jv_vl (jv_ad G)))) := by
  obtain ⟨hx, hb, hown, hts, hK, hR, hS, hini⟩ := X
  unfold jv_heap at h0
  dsimp only at h0
  have e := jv_len1 hl rfl; subst e
  obtain ⟨v, a, cx, kf, fs, rfl, hf, ha, he, hkl, hn, hfi, hfin, rfl⟩ := jv_set_eq h0
  have hck := jv_ckf_ok hf
  simp only [jv_ckf1, Bool.and_eq_true, decide_eq_true_eq] at hck
  obtain ⟨⟨hcx, hkf⟩, hw⟩ := hck
  refine jv_putW (D := D) (ci := cx) (v := jv_vl (jv_ad G) v) hx hb hts (jv_ws_in cx hcx) (jv_fty cx) (jv_ty_ok cx hcx) (jv_nm_ok cx hcx) hown hK.1 hR.2.2.1 jv_ws_D hS a (hR.at ha he) (jv_cls_ok cx hcx) kf hkf (hts _ (jv_in_ok hw)) ?_ (jv_vl_narrow _ _ _ hn) (by rw [jv_vl_fits]; exact hfi) (by rw [List.length_map]; exact hkl) hdg (fun H1 locs1 z hP1 hS1 => ?_)
  · rcases hfin with q | ⟨q1, q2⟩
    · exact Or.inl q
    · by_cases hf2 : (jv_fT cx kf).2.2.2 = true
      · exact Or.inr ⟨hf2, hini q1, by rw [← q2]; exact jv_dcl_ok cx hcx kf hkf hf2⟩
      · exact Or.inl (by simpa using hf2)
  · refine k H1 locs1 cells slots (by show cells = cells + (h.2.1 - h.2.1); omega) (by show slots = slots + (h.2.2 - h.2.2); omega) (hR.put ha z ?_) hS1
    rw [← List.map_set] at hP1
    exact hP1
set_option maxHeartbeats 8000000 in
set_option maxRecDepth 100000 in
theorem jv_h_iaload {ow : Nat} {ini : Bool} {h h' : jv_H} (X : jv_Cx p s m args meth c cc ow ini D dA G adV L xs h H locs)  {len : Nat} {st st' : List Value} (hdg : decode cc pc = .ok (.iaload, len)) (hl : jv_sw (.iaload) = true ∨ len = jv_len (.iaload)) (h0 : jv_heap ow ini (.iaload) st h = some (st', h')) (hm : h'.2.1 ≤ 1000000) (hc : cells + (h'.2.1 - h.2.1) ≤ R.cells) (hs : slots + (h'.2.2 - h.2.2) ≤ R.slots)
    (k : ∀ (H' : Heap) (locs' : List Loc) (cells' slots' : Nat), cells' = cells + (h'.2.1 - h.2.1) → slots' = slots + (h'.2.2 - h.2.2) → jv_Rep D dA G L xs h' H' → va_S (fun q => G.1 ≤ q) s.heap H' locs' → W p l e R s m args below meth c H' locs' cells' slots' Q (F0 m (pc + len) ls (st'.map (jv_vl (jv_ad G))))) :
    W p l e R s m args below meth c H locs cells slots Q (F0 m pc ls (st.map (jv_vl (jv_ad G)))) := by
  obtain ⟨hx, hb, hown, hts, hK, hR, hS, hini⟩ := X
  unfold jv_heap at h0
  dsimp only at h0
  have e := jv_len1 hl rfl; subst e
  split at h0
  · rename_i j a r
    split at h0
    · split at h0
      · rename_i ty n f he
        split at h0
        · rename_i hq
          cases h0
          obtain ⟨h1 | h1, hin⟩ := hq
          · obtain ⟨rfl, ha⟩ := h1
            exact va_iald (D := D) hx hb hK.1 hR.2.2.1 a 0 (hR.at ha he) rfl hin hdg (k H locs cells slots (by omega) (by omega) hR hS)
          · obtain ⟨rfl, rfl⟩ := h1
            rw [show h.1 1000000 = .inl (9, L, xs) from hR.2.2.2.1] at he
            cases he
            show W p l e R s m args below meth c H locs cells slots Q (F0 m pc ls (.int j :: .ref (jv_ad G 1000000) :: r.map (jv_vl (jv_ad G))))
            rw [jv_ad_scr]
            exact va_sld hx hb hK.2.1 (Nat.lt_of_lt_of_le hK.2.2.1 hK.2.2.2.1) (Nat.not_le.mpr hK.2.2.1) hS hin hdg (k H locs cells slots (by omega) (by omega) hR hS)
        · cases h0
      · cases h0
    · cases h0
  · cases h0
set_option maxHeartbeats 8000000 in
set_option maxRecDepth 100000 in
theorem jv_h_baload {ow : Nat} {ini : Bool} {h h' : jv_H} (X : jv_Cx p s m args meth c cc ow ini D dA G adV L xs h H locs)  {len : Nat} {st st' : List Value} (hdg : decode cc pc = .ok (.baload, len)) (hl : jv_sw (.baload) = true ∨ len = jv_len (.baload)) (h0 : jv_heap ow ini (.baload) st h = some (st', h')) (hm : h'.2.1 ≤ 1000000) (hc : cells + (h'.2.1 - h.2.1) ≤ R.cells) (hs : slots + (h'.2.2 - h.2.2) ≤ R.slots)
    (k : ∀ (H' : Heap) (locs' : List Loc) (cells' slots' : Nat), cells' = cells + (h'.2.1 - h.2.1) → slots' = slots + (h'.2.2 - h.2.2) → jv_Rep D dA G L xs h' H' → va_S (fun q => G.1 ≤ q) s.heap H' locs' → W p l e R s m args below meth c H' locs' cells' slots' Q (F0 m (pc + len) ls (st'.map (jv_vl (jv_ad G))))) :
    W p l e R s m args below meth c H locs cells slots Q (F0 m pc ls (st.map (jv_vl (jv_ad G)))) := by
  obtain ⟨hx, hb, hown, hts, hK, hR, hS, hini⟩ := X
  unfold jv_heap at h0
  dsimp only at h0
  have e := jv_len1 hl rfl; subst e
  split at h0
  · rename_i j a r
    split at h0
    · rename_i ha
      split at h0
      · rename_i ty n f he
        split at h0
        · rename_i hq
          cases h0
          obtain ⟨hty, hin⟩ := hq
          have kk := k H locs cells slots (by omega) (by omega) hR hS
          rcases hty with ⟨rfl, ha1⟩ | rfl
          · exact va_zald (D := D) hx hb hK.1 hR.2.2.1 a 1 (hR.at ha1 he) rfl hin hdg kk
          · rcases ha with ha | ha
            · exact va_bald (D := D) hx hb hK.1 hR.2.2.1 a 4 (hR.at ha he) rfl hin hdg kk
            · exact va_tb hx hb (hK.oldT ha ((hR.2.2.2.2 a ha).symm.trans he)).2 hS hin rfl hdg kk
        · cases h0
      · cases h0
    · cases h0
  · cases h0
set_option maxHeartbeats 8000000 in
set_option maxRecDepth 100000 in
theorem jv_h_aaload {ow : Nat} {ini : Bool} {h h' : jv_H} (X : jv_Cx p s m args meth c cc ow ini D dA G adV L xs h H locs)  {len : Nat} {st st' : List Value} (hdg : decode cc pc = .ok (.aaload, len)) (hl : jv_sw (.aaload) = true ∨ len = jv_len (.aaload)) (h0 : jv_heap ow ini (.aaload) st h = some (st', h')) (hm : h'.2.1 ≤ 1000000) (hc : cells + (h'.2.1 - h.2.1) ≤ R.cells) (hs : slots + (h'.2.2 - h.2.2) ≤ R.slots)
    (k : ∀ (H' : Heap) (locs' : List Loc) (cells' slots' : Nat), cells' = cells + (h'.2.1 - h.2.1) → slots' = slots + (h'.2.2 - h.2.2) → jv_Rep D dA G L xs h' H' → va_S (fun q => G.1 ≤ q) s.heap H' locs' → W p l e R s m args below meth c H' locs' cells' slots' Q (F0 m (pc + len) ls (st'.map (jv_vl (jv_ad G))))) :
    W p l e R s m args below meth c H locs cells slots Q (F0 m pc ls (st.map (jv_vl (jv_ad G)))) := by
  obtain ⟨hx, hb, hown, hts, hK, hR, hS, hini⟩ := X
  unfold jv_heap at h0
  dsimp only at h0
  have e := jv_len1 hl rfl; subst e
  split at h0
  · rename_i j a r
    split at h0
    · rename_i ha
      split at h0
      · rename_i ty n f he
        split at h0
        · rename_i hq
          obtain ⟨hty, hin⟩ := hq
          split at h0
          · rename_i b hfb
            cases h0
            have kk := k H locs cells slots (by omega) (by omega) hR hS
            have kk2 : W p l e R s m args below meth c H locs cells slots Q (F0 m (pc + 1) ls (va_rf ((f j.toNatClampNeg).map (jv_ad G)) :: r.map (jv_vl (jv_ad G)))) := by rw [hfb]; exact kk
            match ty, hty with
            | 2, _ => exact va_aldq (D := D) hx hb hK.1 hR.2.2.1 a 2 (hR.at ha he) rfl hin hdg kk2
            | 3, _ => exact va_aldq (D := D) hx hb hK.1 hR.2.2.1 a 3 (hR.at ha he) rfl hin hdg kk2
            | 5, _ => exact va_aldq (D := D) hx hb hK.1 hR.2.2.1 a 5 (hR.at ha he) rfl hin hdg kk2
            | 6, _ =>
              have hlt : j.toNatClampNeg < n := Nat.not_le.mp fun q => hin (Or.inr q)
              exact W.aald (v := va_rf ((f j.toNatClampNeg).map (jv_ad G))) (ty := .array .int) hx hb (hR.2.2.1 a _ (hR.at ha he)) ((hK.1.2 6 _ rfl).1 n (fun j => va_rf ((f j).map (jv_ad G)))) rfl (fun q => by cases q) (by show ¬ (j < 0 ∨ (arrV _ _ _).slots.size ≤ _); rw [arrV_size]; exact hin) (by show (arrV _ _ _).slots[_]? = _; rw [arrV_read _ _ hlt]) rfl rfl hdg kk2
            | 0, hq => omega
            | 1, hq => omega
            | 4, hq => exact absurd rfl hq.2.2
            | q + 7, hq => omega
          · cases h0
        · cases h0
      · cases h0
    · cases h0
  · cases h0
set_option maxHeartbeats 8000000 in
set_option maxRecDepth 100000 in
theorem jv_h_iastore {ow : Nat} {ini : Bool} {h h' : jv_H} (X : jv_Cx p s m args meth c cc ow ini D dA G adV L xs h H locs)  {len : Nat} {st st' : List Value} (hdg : decode cc pc = .ok (.iastore, len)) (hl : jv_sw (.iastore) = true ∨ len = jv_len (.iastore)) (h0 : jv_heap ow ini (.iastore) st h = some (st', h')) (hm : h'.2.1 ≤ 1000000) (hc : cells + (h'.2.1 - h.2.1) ≤ R.cells) (hs : slots + (h'.2.2 - h.2.2) ≤ R.slots)
    (k : ∀ (H' : Heap) (locs' : List Loc) (cells' slots' : Nat), cells' = cells + (h'.2.1 - h.2.1) → slots' = slots + (h'.2.2 - h.2.2) → jv_Rep D dA G L xs h' H' → va_S (fun q => G.1 ≤ q) s.heap H' locs' → W p l e R s m args below meth c H' locs' cells' slots' Q (F0 m (pc + len) ls (st'.map (jv_vl (jv_ad G))))) :
    W p l e R s m args below meth c H locs cells slots Q (F0 m pc ls (st.map (jv_vl (jv_ad G)))) := by
  obtain ⟨hx, hb, hown, hts, hK, hR, hS, hini⟩ := X
  unfold jv_heap at h0
  dsimp only at h0
  have e := jv_len1 hl rfl; subst e
  split at h0
  · rename_i x j a r
    split at h0
    · rename_i ha
      split at h0
      · rename_i ty n f he
        split at h0
        · rename_i hq
          obtain ⟨rfl, hin⟩ := hq
          cases h0
          exact jv_iastW (D := D) hx hb hK.1 hR.2.2.1 jv_ws_D hS a 0 (hR.at ha he) rfl hin hdg (fun H1 locs1 z hP1 hS1 => k H1 locs1 cells slots (by show cells = cells + (h.2.1 - h.2.1); omega) (by show slots = slots + (h.2.2 - h.2.2); omega) (hR.put ha z hP1) hS1)
        · cases h0
      · cases h0
    · cases h0
  · cases h0
set_option maxHeartbeats 8000000 in
set_option maxRecDepth 100000 in
theorem jv_h_bastore {ow : Nat} {ini : Bool} {h h' : jv_H} (X : jv_Cx p s m args meth c cc ow ini D dA G adV L xs h H locs)  {len : Nat} {st st' : List Value} (hdg : decode cc pc = .ok (.bastore, len)) (hl : jv_sw (.bastore) = true ∨ len = jv_len (.bastore)) (h0 : jv_heap ow ini (.bastore) st h = some (st', h')) (hm : h'.2.1 ≤ 1000000) (hc : cells + (h'.2.1 - h.2.1) ≤ R.cells) (hs : slots + (h'.2.2 - h.2.2) ≤ R.slots)
    (k : ∀ (H' : Heap) (locs' : List Loc) (cells' slots' : Nat), cells' = cells + (h'.2.1 - h.2.1) → slots' = slots + (h'.2.2 - h.2.2) → jv_Rep D dA G L xs h' H' → va_S (fun q => G.1 ≤ q) s.heap H' locs' → W p l e R s m args below meth c H' locs' cells' slots' Q (F0 m (pc + len) ls (st'.map (jv_vl (jv_ad G))))) :
    W p l e R s m args below meth c H locs cells slots Q (F0 m pc ls (st.map (jv_vl (jv_ad G)))) := by
  obtain ⟨hx, hb, hown, hts, hK, hR, hS, hini⟩ := X
  unfold jv_heap at h0
  dsimp only at h0
  have e := jv_len1 hl rfl; subst e
  split at h0
  · rename_i x j a r
    split at h0
    · rename_i ha
      split at h0
      · rename_i ty n f he
        split at h0
        · rename_i hq
          obtain ⟨hty, hin⟩ := hq
          cases h0
          rcases hty with ⟨rfl, hx1⟩ | ⟨rfl, hx1⟩
          · exact jv_zastW (D := D) hx hb hK.1 hR.2.2.1 jv_ws_D hS a 1 (hR.at ha he) rfl hx1 hin hdg (fun H1 locs1 z hP1 hS1 => k H1 locs1 cells slots (by show cells = cells + (h.2.1 - h.2.1); omega) (by show slots = slots + (h.2.2 - h.2.2); omega) (hR.put ha z hP1) hS1)
          · exact jv_bastW (D := D) hx hb hK.1 hR.2.2.1 jv_ws_D hS a 4 (hR.at ha he) rfl hx1 hin hdg (fun H1 locs1 z hP1 hS1 => k H1 locs1 cells slots (by show cells = cells + (h.2.1 - h.2.1); omega) (by show slots = slots + (h.2.2 - h.2.2); omega) (hR.put ha z hP1) hS1)
        · cases h0
      · cases h0
    · cases h0
  · cases h0
set_option maxHeartbeats 8000000 in
set_option maxRecDepth 100000 in
theorem jv_h_aastore {ow : Nat} {ini : Bool} {h h' : jv_H} (X : jv_Cx p s m args meth c cc ow ini D dA G adV L xs h H locs)  {len : Nat} {st st' : List Value} (hdg : decode cc pc = .ok (.aastore, len)) (hl : jv_sw (.aastore) = true ∨ len = jv_len (.aastore)) (h0 : jv_heap ow ini (.aastore) st h = some (st', h')) (hm : h'.2.1 ≤ 1000000) (hc : cells + (h'.2.1 - h.2.1) ≤ R.cells) (hs : slots + (h'.2.2 - h.2.2) ≤ R.slots)
    (k : ∀ (H' : Heap) (locs' : List Loc) (cells' slots' : Nat), cells' = cells + (h'.2.1 - h.2.1) → slots' = slots + (h'.2.2 - h.2.2) → jv_Rep D dA G L xs h' H' → va_S (fun q => G.1 ≤ q) s.heap H' locs' → W p l e R s m args below meth c H' locs' cells' slots' Q (F0 m (pc + len) ls (st'.map (jv_vl (jv_ad G))))) :
    W p l e R s m args below meth c H locs cells slots Q (F0 m pc ls (st.map (jv_vl (jv_ad G)))) := by
  obtain ⟨hx, hb, hown, hts, hK, hR, hS, hini⟩ := X
  unfold jv_heap at h0
  dsimp only at h0
  have e := jv_len1 hl rfl; subst e
  split at h0
  · rename_i b j a r
    split at h0
    · rename_i ha
      obtain ⟨ha, hb1⟩ := ha
      split at h0
      · rename_i ty n f d vs he heb
        split at h0
        · rename_i hq
          obtain ⟨hty, hin⟩ := hq
          cases h0
          have hup : (fun q => ((va_up f j.toNatClampNeg (some b)) q).map (jv_ad G)) = va_up (fun q => (f q).map (jv_ad G)) j.toNatClampNeg (some (jv_ad G b)) := by
            funext q
            unfold va_up
            split <;> rfl
          have fin : ∀ (H1 : Heap) (locs1 : List Loc), H1.size = H.size → va_P D jv_Cl ((jv_ws dA G h).set a (jv_ad G a, .inl (dA ty, n, .inr (.inr (.inr (.inr (va_up (fun q => (f q).map (jv_ad G)) j.toNatClampNeg (some (jv_ad G b))))))))) H1 → va_S (fun q => G.1 ≤ q) s.heap H1 locs1 → W p l e R s m args below meth c H1 locs1 cells slots Q (F0 m (pc + 1) ls (st'.map (jv_vl (jv_ad G)))) := by
            intro H1 locs1 z hP1 hS1
            rw [← hup] at hP1
            exact k H1 locs1 cells slots (by show cells = cells + (h.2.1 - h.2.1); omega) (by show slots = slots + (h.2.2 - h.2.2); omega) (hR.put (x := .inr (.inl (ty, n, va_up f j.toNatClampNeg (some b)))) ha z hP1) hS1
          rcases hty with ⟨rfl, rfl, hb2⟩ | ⟨rfl, rfl, hb2⟩ | ⟨rfl, rfl, hb2⟩
          · exact jv_aastW (D := D) (r := (jv_own 6, jv_fT 6, jv_fn 6)) hx hb hK.1 hR.2.2.1 jv_ws_D hS a 2 b 6 (hR.at ha he) rfl (hR.at hb2 heb) (jv_cls_ok 6 (by decide)) hin hdg fin
          · exact jv_aastW (D := D) (r := (jv_own 5, jv_fT 5, jv_fn 5)) hx hb hK.1 hR.2.2.1 jv_ws_D hS a 3 b 5 (hR.at ha he) rfl (hR.at hb2 heb) (jv_cls_ok 5 (by decide)) hin hdg fin
          · obtain ⟨i, hi, rfl, -, -⟩ := jv_oldc_txt hb2 ((hR.2.2.2.2 b hb2).symm.trans heb)
            have hcell := jv_recvS hK.txtO hi hS
            show W p l e R s m args below meth c H locs cells slots Q (F0 m pc ls (.ref (jv_ad G (1000001 + i)) :: .int j :: .ref (jv_ad G a) :: st'.map (jv_vl (jv_ad G))))
            rw [jv_ad_txt] at fin ⊢
            exact jv_aastS (D := D) (r := (jv_own 8, jv_fT 8, jv_fn 8)) hx hb hK.1 hR.2.2.1 jv_ws_D hS a 5 8 (hR.at ha he) rfl hcell (jv_cls_ok 8 (by decide)) hin hdg fin
        · cases h0
      · cases h0
    · cases h0
  · cases h0
set_option maxHeartbeats 8000000 in
set_option maxRecDepth 100000 in
theorem jv_h_arraylength {ow : Nat} {ini : Bool} {h h' : jv_H} (X : jv_Cx p s m args meth c cc ow ini D dA G adV L xs h H locs)  {len : Nat} {st st' : List Value} (hdg : decode cc pc = .ok (.arraylength, len)) (hl : jv_sw (.arraylength) = true ∨ len = jv_len (.arraylength)) (h0 : jv_heap ow ini (.arraylength) st h = some (st', h')) (hm : h'.2.1 ≤ 1000000) (hc : cells + (h'.2.1 - h.2.1) ≤ R.cells) (hs : slots + (h'.2.2 - h.2.2) ≤ R.slots)
    (k : ∀ (H' : Heap) (locs' : List Loc) (cells' slots' : Nat), cells' = cells + (h'.2.1 - h.2.1) → slots' = slots + (h'.2.2 - h.2.2) → jv_Rep D dA G L xs h' H' → va_S (fun q => G.1 ≤ q) s.heap H' locs' → W p l e R s m args below meth c H' locs' cells' slots' Q (F0 m (pc + len) ls (st'.map (jv_vl (jv_ad G))))) :
    W p l e R s m args below meth c H locs cells slots Q (F0 m pc ls (st.map (jv_vl (jv_ad G)))) := by
  obtain ⟨hx, hb, hown, hts, hK, hR, hS, hini⟩ := X
  unfold jv_heap at h0
  dsimp only at h0
  have e := jv_len1 hl rfl; subst e
  split at h0
  · rename_i a r
    split at h0
    · split at h0
      · rename_i ty n f he
        split at h0
        · rename_i hq
          cases h0
          have kk := k H locs cells slots (by omega) (by omega) hR hS
          rcases hq with ⟨hty, ha⟩ | ⟨rfl, rfl⟩ | ⟨rfl, ha⟩
          · match ty, hty with
            | 0, _ => exact va_alen (D := D) hx hb hK.1 hR.2.2.1 a 0 (hR.at ha he) rfl rfl hdg kk
            | 1, _ => exact va_alen (D := D) hx hb hK.1 hR.2.2.1 a 1 (hR.at ha he) rfl rfl hdg kk
            | 4, _ => exact va_alen (D := D) hx hb hK.1 hR.2.2.1 a 4 (hR.at ha he) rfl rfl hdg kk
            | 2, hq => omega
            | 3, hq => omega
            | q + 5, hq => omega
          · rw [show h.1 1000000 = .inl (9, L, xs) from hR.2.2.2.1] at he
            cases he
            show W p l e R s m args below meth c H locs cells slots Q (F0 m pc ls (.ref (jv_ad G 1000000) :: r.map (jv_vl (jv_ad G))))
            rw [jv_ad_scr]
            exact va_slen hx hb hK.2.1 (Nat.lt_of_lt_of_le hK.2.2.1 hK.2.2.2.1) (Nat.not_le.mpr hK.2.2.1) hS hdg kk
          · exact va_tlen hx hb (hK.oldT ha ((hR.2.2.2.2 a ha).symm.trans he)).2 hS rfl hdg kk
        · cases h0
      · rename_i ty n f he
        split at h0
        · rename_i hq
          cases h0
          obtain ⟨hty, ha⟩ := hq
          have kk := k H locs cells slots (by omega) (by omega) hR hS
          match ty, hty with
          | 2, _ => exact va_alen (D := D) hx hb hK.1 hR.2.2.1 a 2 (hR.at ha he) rfl rfl hdg kk
          | 3, _ => exact va_alen (D := D) hx hb hK.1 hR.2.2.1 a 3 (hR.at ha he) rfl rfl hdg kk
          | 5, _ => exact va_alen (D := D) hx hb hK.1 hR.2.2.1 a 5 (hR.at ha he) rfl rfl hdg kk
          | 6, _ => exact va_alen (D := D) hx hb hK.1 hR.2.2.1 a 6 (hR.at ha he) rfl rfl hdg kk
          | 0, hq => omega
          | 1, hq => omega
          | 4, hq => exact absurd rfl hq.2.2
          | q + 7, hq => omega
        · cases h0
      · cases h0
    · cases h0
  · cases h0
set_option maxHeartbeats 8000000 in
set_option maxRecDepth 100000 in
theorem jv_h_new {ow : Nat} {ini : Bool} {h h' : jv_H} (X : jv_Cx p s m args meth c cc ow ini D dA G adV L xs h H locs) {idx : Nat} {len : Nat} {st st' : List Value} (hdg : decode cc pc = .ok (.new idx, len)) (hl : jv_sw (.new idx) = true ∨ len = jv_len (.new idx)) (h0 : jv_heap ow ini (.new idx) st h = some (st', h')) (hm : h'.2.1 ≤ 1000000) (hc : cells + (h'.2.1 - h.2.1) ≤ R.cells) (hs : slots + (h'.2.2 - h.2.2) ≤ R.slots)
    (k : ∀ (H' : Heap) (locs' : List Loc) (cells' slots' : Nat), cells' = cells + (h'.2.1 - h.2.1) → slots' = slots + (h'.2.2 - h.2.2) → jv_Rep D dA G L xs h' H' → va_S (fun q => G.1 ≤ q) s.heap H' locs' → W p l e R s m args below meth c H' locs' cells' slots' Q (F0 m (pc + len) ls (st'.map (jv_vl (jv_ad G))))) :
    W p l e R s m args below meth c H locs cells slots Q (F0 m pc ls (st.map (jv_vl (jv_ad G)))) := by
  obtain ⟨hx, hb, hown, hts, hK, hR, hS, hini⟩ := X
  unfold jv_heap at h0
  dsimp only at h0
  have e := jv_len1 hl rfl; subst e
  split at h0
  · rename_i cx hn
    cases h0
    have hck := jv_ckn_ok hn
    simp only [jv_ckn1, Bool.and_eq_true, decide_eq_true_eq] at hck
    obtain ⟨hcx, hw⟩ := hck
    have hKn := hK.1.1 cx _ (jv_cls_ok cx hcx)
    have hi := jv_inst_ok cx hcx
    have hsz := hR.1
    have hc1 : cells + 1 ≤ R.cells := by
      have : (h.2.1 + 1) - h.2.1 = 1 := by omega
      have h9 : cells + ((h.2.1 + 1) - h.2.1) ≤ R.cells := hc
      omega
    have hs1 : slots + jv_fn cx ≤ R.slots := by
      have h9 : slots + ((h.2.2 + jv_fn cx) - h.2.2) ≤ R.slots := hs
      omega
    refine W.newcK (n := jv_fn cx) hx hb hown (hts _ (jv_in_ok hw)) (hts _ (jv_in_ok hi.1)) (hts _ (jv_in_ok hi.2)) rfl hdg hc1 hs1 hKn.2.1 rfl fun H1 kC hkC e1 z1 o1 => ?_
    have hadr : jv_ad G h.2.1 = H.size := by rw [hsz]; exact jv_ad_lt (Nat.lt_of_lt_of_le (Nat.lt_succ_self _) hm)
    have kk := k H1 locs (cells + 1) (slots + jv_fn cx) (by show cells + 1 = cells + ((h.2.1 + 1) - h.2.1); omega) (by show slots + jv_fn cx = slots + ((h.2.2 + jv_fn cx) - h.2.2); omega) (hR.add hm z1 o1 ?_) (jv_grow hS z1 o1)
    · have kk2 : W p l e R s m args below meth c H1 locs (cells + 1) (slots + jv_fn cx) Q (F0 m (pc + 3) ls (.ref (jv_ad G h.2.1) :: st.map (jv_vl (jv_ad G)))) := kk
      rw [hadr] at kk2
      exact kk2
    · rw [← hsz]
      refine ⟨_, jv_cls_ok cx hcx, (u_born (jv_fty cx) hts (jv_ws_in cx hcx) hKn hkC e1 (jv_ty_ok cx hcx)).to ?_⟩
      intro j hj
      simp [vp_V, List.getD_eq_getElem?_getD, show j < jv_fn cx from hj, jv_vl_default]
  · cases h0
set_option maxHeartbeats 8000000 in
set_option maxRecDepth 100000 in
theorem jv_h_newarray {ow : Nat} {ini : Bool} {h h' : jv_H} (X : jv_Cx p s m args meth c cc ow ini D dA G adV L xs h H locs) {t : ArrayType} {len : Nat} {st st' : List Value} (hdg : decode cc pc = .ok (.newarray t, len)) (hl : jv_sw (.newarray t) = true ∨ len = jv_len (.newarray t)) (h0 : jv_heap ow ini (.newarray t) st h = some (st', h')) (hm : h'.2.1 ≤ 1000000) (hc : cells + (h'.2.1 - h.2.1) ≤ R.cells) (hs : slots + (h'.2.2 - h.2.2) ≤ R.slots)
    (k : ∀ (H' : Heap) (locs' : List Loc) (cells' slots' : Nat), cells' = cells + (h'.2.1 - h.2.1) → slots' = slots + (h'.2.2 - h.2.2) → jv_Rep D dA G L xs h' H' → va_S (fun q => G.1 ≤ q) s.heap H' locs' → W p l e R s m args below meth c H' locs' cells' slots' Q (F0 m (pc + len) ls (st'.map (jv_vl (jv_ad G))))) :
    W p l e R s m args below meth c H locs cells slots Q (F0 m pc ls (st.map (jv_vl (jv_ad G)))) := by
  obtain ⟨hx, hb, hown, hts, hK, hR, hS, hini⟩ := X
  unfold jv_heap at h0
  dsimp only at h0
  have e := jv_len1 hl rfl; subst e
  split at h0
  · rename_i n r
    split at h0
    · rename_i hn
      obtain ⟨hn0, hn1⟩ := hn
      have hsz := hR.1
      split at h0
      · cases h0
        have hc1 : cells + 1 ≤ R.cells := by
          have h9 : cells + ((h.2.1 + 1) - h.2.1) ≤ R.cells := hc
          omega
        have hs1 : slots + n.toNatClampNeg ≤ R.slots := by
          have h9 : slots + ((h.2.2 + n.toNatClampNeg) - h.2.2) ≤ R.slots := hs
          omega
        refine va_newaK hx hb (hts _ (jv_in_ok jv_arrI)) rfl hdg rfl hn0 rfl (by show n.toNatClampNeg * 4 ≤ 536870912; omega) hc1 hs1 rfl fun H1 cA e1 z1 o1 hAr hNm => ?_
        have hadr : jv_ad G h.2.1 = H.size := by rw [hsz]; exact jv_ad_lt (Nat.lt_of_lt_of_le (Nat.lt_succ_self _) hm)
        have hcA : cA = dA 0 := Option.some.inj (hNm.symm.trans (hK.1.2 0 _ rfl).2)
        subst hcA
        have kk := k H1 locs (cells + 1) (slots + n.toNatClampNeg) (by show cells + 1 = cells + ((h.2.1 + 1) - h.2.1); omega) (by show slots + n.toNatClampNeg = slots + ((h.2.2 + n.toNatClampNeg) - h.2.2); omega) (hR.add hm z1 o1 (by rw [← hsz]; exact e1)) (jv_grow hS z1 o1)
        have kk2 : W p l e R s m args below meth c H1 locs (cells + 1) (slots + n.toNatClampNeg) Q (F0 m (pc + 2) ls (.ref (jv_ad G h.2.1) :: r.map (jv_vl (jv_ad G)))) := kk
        rw [hadr] at kk2
        exact kk2
      · cases h0
        have hc1 : cells + 1 ≤ R.cells := by
          have h9 : cells + ((h.2.1 + 1) - h.2.1) ≤ R.cells := hc
          omega
        have hs1 : slots + n.toNatClampNeg ≤ R.slots := by
          have h9 : slots + ((h.2.2 + n.toNatClampNeg) - h.2.2) ≤ R.slots := hs
          omega
        refine va_newaK hx hb (hts _ (jv_in_ok jv_arrZ)) rfl hdg rfl hn0 rfl (by show n.toNatClampNeg * 1 ≤ 536870912; omega) hc1 hs1 rfl fun H1 cA e1 z1 o1 hAr hNm => ?_
        have hadr : jv_ad G h.2.1 = H.size := by rw [hsz]; exact jv_ad_lt (Nat.lt_of_lt_of_le (Nat.lt_succ_self _) hm)
        have hcA : cA = dA 1 := Option.some.inj (hNm.symm.trans (hK.1.2 1 _ rfl).2)
        subst hcA
        have kk := k H1 locs (cells + 1) (slots + n.toNatClampNeg) (by show cells + 1 = cells + ((h.2.1 + 1) - h.2.1); omega) (by show slots + n.toNatClampNeg = slots + ((h.2.2 + n.toNatClampNeg) - h.2.2); omega) (hR.add hm z1 o1 (by rw [← hsz]; exact e1)) (jv_grow hS z1 o1)
        have kk2 : W p l e R s m args below meth c H1 locs (cells + 1) (slots + n.toNatClampNeg) Q (F0 m (pc + 2) ls (.ref (jv_ad G h.2.1) :: r.map (jv_vl (jv_ad G)))) := kk
        rw [hadr] at kk2
        exact kk2
      · cases h0
        have hc1 : cells + 1 ≤ R.cells := by
          have h9 : cells + ((h.2.1 + 1) - h.2.1) ≤ R.cells := hc
          omega
        have hs1 : slots + n.toNatClampNeg ≤ R.slots := by
          have h9 : slots + ((h.2.2 + n.toNatClampNeg) - h.2.2) ≤ R.slots := hs
          omega
        refine va_newaK hx hb (hts _ (jv_in_ok jv_arrB)) rfl hdg rfl hn0 rfl (by show n.toNatClampNeg * 1 ≤ 536870912; omega) hc1 hs1 rfl fun H1 cA e1 z1 o1 hAr hNm => ?_
        have hadr : jv_ad G h.2.1 = H.size := by rw [hsz]; exact jv_ad_lt (Nat.lt_of_lt_of_le (Nat.lt_succ_self _) hm)
        have hcA : cA = dA 4 := Option.some.inj (hNm.symm.trans (hK.1.2 4 _ rfl).2)
        subst hcA
        have kk := k H1 locs (cells + 1) (slots + n.toNatClampNeg) (by show cells + 1 = cells + ((h.2.1 + 1) - h.2.1); omega) (by show slots + n.toNatClampNeg = slots + ((h.2.2 + n.toNatClampNeg) - h.2.2); omega) (hR.add hm z1 o1 (by rw [← hsz]; exact e1)) (jv_grow hS z1 o1)
        have kk2 : W p l e R s m args below meth c H1 locs (cells + 1) (slots + n.toNatClampNeg) Q (F0 m (pc + 2) ls (.ref (jv_ad G h.2.1) :: r.map (jv_vl (jv_ad G)))) := kk
        rw [hadr] at kk2
        exact kk2
      · cases h0
    · cases h0
  · cases h0
set_option maxHeartbeats 8000000 in
set_option maxRecDepth 100000 in
theorem jv_h_anewarray {ow : Nat} {ini : Bool} {h h' : jv_H} (X : jv_Cx p s m args meth c cc ow ini D dA G adV L xs h H locs) {idx : Nat} {len : Nat} {st st' : List Value} (hdg : decode cc pc = .ok (.anewarray idx, len)) (hl : jv_sw (.anewarray idx) = true ∨ len = jv_len (.anewarray idx)) (h0 : jv_heap ow ini (.anewarray idx) st h = some (st', h')) (hm : h'.2.1 ≤ 1000000) (hc : cells + (h'.2.1 - h.2.1) ≤ R.cells) (hs : slots + (h'.2.2 - h.2.2) ≤ R.slots)
    (k : ∀ (H' : Heap) (locs' : List Loc) (cells' slots' : Nat), cells' = cells + (h'.2.1 - h.2.1) → slots' = slots + (h'.2.2 - h.2.2) → jv_Rep D dA G L xs h' H' → va_S (fun q => G.1 ≤ q) s.heap H' locs' → W p l e R s m args below meth c H' locs' cells' slots' Q (F0 m (pc + len) ls (st'.map (jv_vl (jv_ad G))))) :
    W p l e R s m args below meth c H locs cells slots Q (F0 m pc ls (st.map (jv_vl (jv_ad G)))) := by
  obtain ⟨hx, hb, hown, hts, hK, hR, hS, hini⟩ := X
  unfold jv_heap at h0
  dsimp only at h0
  have e := jv_len1 hl rfl; subst e
  split at h0
  · rename_i n r
    split at h0
    · rename_i hn
      obtain ⟨hn0, hn1⟩ := hn
      have hsz := hR.1
      split at h0
      · rename_i cx hnw
        have hck := jv_ckn_ok hnw
        simp only [jv_ckn1, Bool.and_eq_true, decide_eq_true_eq] at hck
        obtain ⟨hcx, hw⟩ := hck
        have key : ∀ (t0 : Nat) (C : String), jv_own cx = C → (jv_tys dA)[t0]? = some (dA t0, .object C) → (Cond.arrayOver (.object C)).before args s = true → some (.ref h.2.1 :: r, jv_add h (.inr (.inl (t0, n.toNatClampNeg, fun _ => none))) n.toNatClampNeg) = some (st', h') → W p l e R s m args below meth c H locs cells slots Q (F0 m pc ls (.int n :: r.map (jv_vl (jv_ad G)))) := by
          intro t0 C hC ht hover h0
          subst hC
          cases h0
          have hc1 : cells + 1 ≤ R.cells := by
            have h9 : cells + ((h.2.1 + 1) - h.2.1) ≤ R.cells := hc
            omega
          have hs1 : slots + n.toNatClampNeg ≤ R.slots := by
            have h9 : slots + ((h.2.2 + n.toNatClampNeg) - h.2.2) ≤ R.slots := hs
            omega
          refine W.anew hx hb hown (hts _ (jv_in_ok hw)) hover rfl hdg rfl hn0 (by omega) hc1 hs1 fun cA kA comp f1 f2 f3 f4 => ?_
          generalize hH1 : H.push ({ cls := cA, slots := Array.replicate n.toNatClampNeg .null, vm := .none } : Cell) = H1
          have z1 : H1.size = H.size + 1 := by rw [← hH1, Array.size_push]
          have e1 : H1[H.size]? = some (arrV cA n.toNatClampNeg (fun _ => .null)) := by rw [← hH1, Array.getElem?_push_size, ← arrV_new]
          have o1 : ∀ q : Nat, q < H.size → H1[q]? = H[q]? := fun q hq => by rw [← hH1, Array.getElem?_push, if_neg (Nat.ne_of_lt hq)]
          have hadr : jv_ad G h.2.1 = H.size := by rw [hsz]; exact jv_ad_lt (Nat.lt_of_lt_of_le (Nat.lt_succ_self _) hm)
          obtain ⟨kA2, comp2, g1, g2, g3, g4⟩ := (hK.1.2 t0 _ ht).2
          have hcA : cA = dA t0 := Option.some.inj (f1.symm.trans g4)
          subst hcA
          have kk := k H1 locs (cells + 1) (slots + n.toNatClampNeg) (by show cells + 1 = cells + ((h.2.1 + 1) - h.2.1); omega) (by show slots + n.toNatClampNeg = slots + ((h.2.2 + n.toNatClampNeg) - h.2.2); omega) (hR.add hm z1 o1 (by rw [← hsz]; exact e1)) (jv_grow hS z1 o1)
          have kk2 : W p l e R s m args below meth c H1 locs (cells + 1) (slots + n.toNatClampNeg) Q (F0 m (pc + 3) ls (.ref (jv_ad G h.2.1) :: r.map (jv_vl (jv_ad G)))) := kk
          rw [hadr] at kk2
          exact kk2
        split at h0
        · rename_i h6
          subst h6
          exact key 2 _ rfl rfl (va_AO.use hK.2.2.2.2.2.2.1) h0
        · split at h0
          · rename_i h5
            subst h5
            exact key 3 _ rfl rfl (va_AO.use hK.2.2.2.2.2.2.2.1) h0
          · split at h0
            · rename_i h8
              subst h8
              exact key 5 _ rfl rfl (va_AO.use hK.k3.1) h0
            · cases h0
      · cases h0
    · cases h0
  · cases h0
set_option maxHeartbeats 8000000 in
set_option maxRecDepth 100000 in
theorem jv_h_ldc {ow : Nat} {ini : Bool} {h h' : jv_H} (X : jv_Cx p s m args meth c cc ow ini D dA G adV L xs h H locs) {idx : Nat} {len : Nat} {st st' : List Value} (hdg : decode cc pc = .ok (.ldc idx, len)) (hl : jv_sw (.ldc idx) = true ∨ len = jv_len (.ldc idx)) (h0 : jv_heap ow ini (.ldc idx) st h = some (st', h')) (hm : h'.2.1 ≤ 1000000) (hc : cells + (h'.2.1 - h.2.1) ≤ R.cells) (hs : slots + (h'.2.2 - h.2.2) ≤ R.slots)
    (k : ∀ (H' : Heap) (locs' : List Loc) (cells' slots' : Nat), cells' = cells + (h'.2.1 - h.2.1) → slots' = slots + (h'.2.2 - h.2.2) → jv_Rep D dA G L xs h' H' → va_S (fun q => G.1 ≤ q) s.heap H' locs' → W p l e R s m args below meth c H' locs' cells' slots' Q (F0 m (pc + len) ls (st'.map (jv_vl (jv_ad G))))) :
    W p l e R s m args below meth c H locs cells slots Q (F0 m pc ls (st.map (jv_vl (jv_ad G)))) := by
  obtain ⟨hx, hb, hown, hts, hK, hR, hS, hini⟩ := X
  unfold jv_heap at h0
  dsimp only at h0
  have e := jv_len1 hl rfl; subst e
  split at h0
  · rename_i v hv
    cases h0
    have kk := k H locs cells slots (by omega) (by omega) hR hS
    have hck := jv_ckl_ok hv
    cases v with
    | int x => exact W.ldc hx hb hown (hts _ (jv_in_ok hck)) rfl hdg kk
    | ref a =>
      unfold jv_ckl1 at hck
      dsimp only at hck
      cases htx : jv_tix a with
      | none => rw [htx] at hck; cases hck
      | some ix =>
        rw [htx] at hck
        dsimp only at hck
        obtain ⟨hi20, rfl⟩ := jv_tix_eq htx
        cases hst : jv_str[ix]? with
        | none => rw [hst] at hck; cases hck
        | some q =>
          obtain ⟨own, idx2, tx⟩ := q
          rw [hst] at hck
          dsimp only at hck
          obtain ⟨h4, h5⟩ := of_decide_eq_true hck
          subst h4
          subst h5
          have hvk := hK.2.2.2.2.2.1 _ _ hst
          have kk2 : W p l e R s m args below meth c H locs cells slots Q (F0 m (pc + 2) ls (.ref (jv_ad G (1000001 + ix)) :: st.map (jv_vl (jv_ad G)))) := kk
          rw [jv_ad_txt] at kk2
          exact va_ldcS hx hb hown hvk hdg kk2
    | long x => cases hck
    | float x => cases hck
    | double x => cases hck
    | null => cases hck
    | retAddr x => cases hck
  · cases h0
set_option maxHeartbeats 8000000 in
set_option maxRecDepth 100000 in
theorem jv_h_ldc2 {ow : Nat} {ini : Bool} {h h' : jv_H} (X : jv_Cx p s m args meth c cc ow ini D dA G adV L xs h H locs) {idx : Nat} {len : Nat} {st st' : List Value} (hdg : decode cc pc = .ok (.ldc2_w idx, len)) (hl : jv_sw (.ldc2_w idx) = true ∨ len = jv_len (.ldc2_w idx)) (h0 : jv_heap ow ini (.ldc2_w idx) st h = some (st', h')) (hm : h'.2.1 ≤ 1000000) (hc : cells + (h'.2.1 - h.2.1) ≤ R.cells) (hs : slots + (h'.2.2 - h.2.2) ≤ R.slots)
    (k : ∀ (H' : Heap) (locs' : List Loc) (cells' slots' : Nat), cells' = cells + (h'.2.1 - h.2.1) → slots' = slots + (h'.2.2 - h.2.2) → jv_Rep D dA G L xs h' H' → va_S (fun q => G.1 ≤ q) s.heap H' locs' → W p l e R s m args below meth c H' locs' cells' slots' Q (F0 m (pc + len) ls (st'.map (jv_vl (jv_ad G))))) :
    W p l e R s m args below meth c H locs cells slots Q (F0 m pc ls (st.map (jv_vl (jv_ad G)))) := by
  obtain ⟨hx, hb, hown, hts, hK, hR, hS, hini⟩ := X
  unfold jv_heap at h0
  dsimp only at h0
  have e := jv_len1 hl rfl; subst e
  split at h0
  · rename_i v hv
    cases h0
    have kk := k H locs cells slots (by omega) (by omega) hR hS
    unfold jv_ldl at hv
    split at hv
    · rename_i how
      subst how
      split at hv
      · rename_i h1
        subst h1
        cases hv
        exact lv_ldc2 hx hb hown (hts _ jw_l85) hdg kk
      · split at hv
        · rename_i h1
          subst h1
          cases hv
          exact lv_ldc2 hx hb hown (hts _ jw_l87) hdg kk
        · split at hv
          · rename_i h1
            subst h1
            cases hv
            exact lv_ldc2 hx hb hown (hts _ jw_l92) hdg kk
          · cases hv
    · cases hv
  · cases h0
set_option maxHeartbeats 8000000 in
set_option maxRecDepth 100000 in
theorem jv_h_getstatic {ow : Nat} {ini : Bool} {h h' : jv_H} (X : jv_Cx p s m args meth c cc ow ini D dA G adV L xs h H locs) {idx : Nat} {len : Nat} {st st' : List Value} (hdg : decode cc pc = .ok (.getstatic idx, len)) (hl : jv_sw (.getstatic idx) = true ∨ len = jv_len (.getstatic idx)) (h0 : jv_heap ow ini (.getstatic idx) st h = some (st', h')) (hm : h'.2.1 ≤ 1000000) (hc : cells + (h'.2.1 - h.2.1) ≤ R.cells) (hs : slots + (h'.2.2 - h.2.2) ≤ R.slots)
    (k : ∀ (H' : Heap) (locs' : List Loc) (cells' slots' : Nat), cells' = cells + (h'.2.1 - h.2.1) → slots' = slots + (h'.2.2 - h.2.2) → jv_Rep D dA G L xs h' H' → va_S (fun q => G.1 ≤ q) s.heap H' locs' → W p l e R s m args below meth c H' locs' cells' slots' Q (F0 m (pc + len) ls (st'.map (jv_vl (jv_ad G))))) :
    W p l e R s m args below meth c H locs cells slots Q (F0 m pc ls (st.map (jv_vl (jv_ad G)))) := by
  obtain ⟨hx, hb, hown, hts, hK, hR, hS, hini⟩ := X
  unfold jv_heap at h0
  dsimp only at h0
  have e := jv_len1 hl rfl; subst e
  split at h0
  · rename_i v hv
    cases h0
    have kk := k H locs cells slots (by omega) (by omega) hR hS
    unfold jv_sta at hv
    split at hv
    · rename_i how
      cases hv
      rcases how with ⟨rfl, rfl⟩ | ⟨rfl, rfl⟩
      · exact va_gets hx hb hK.compact hS hown (hts _ jw_s1) (fun _ q => q) hdg kk
      · exact va_gets hx hb hK.compact hS hown (hts _ jw_s2) (fun _ q => q) hdg kk
    · split at hv
      · rename_i how
        cases hv
        obtain ⟨rfl, rfl⟩ := how
        exact va_gets hx hb hK.k3.2.2.1.1 hS hown (hts _ jw_s3) (fun _ q => q) hdg kk
      · split at hv
        · rename_i how
          cases hv
          obtain ⟨rfl, rfl⟩ := how
          exact va_gets hx hb hK.k3.2.2.2.1.1 hS hown (hts _ jw_s4) (fun _ q => q) hdg kk
        · cases hv
  · cases h0
set_option maxHeartbeats 8000000 in
set_option maxRecDepth 100000 in
theorem jv_h_checkcast {ow : Nat} {ini : Bool} {h h' : jv_H} (X : jv_Cx p s m args meth c cc ow ini D dA G adV L xs h H locs) {idx : Nat} {len : Nat} {st st' : List Value} (hdg : decode cc pc = .ok (.checkcast idx, len)) (hl : jv_sw (.checkcast idx) = true ∨ len = jv_len (.checkcast idx)) (h0 : jv_heap ow ini (.checkcast idx) st h = some (st', h')) (hm : h'.2.1 ≤ 1000000) (hc : cells + (h'.2.1 - h.2.1) ≤ R.cells) (hs : slots + (h'.2.2 - h.2.2) ≤ R.slots)
    (k : ∀ (H' : Heap) (locs' : List Loc) (cells' slots' : Nat), cells' = cells + (h'.2.1 - h.2.1) → slots' = slots + (h'.2.2 - h.2.2) → jv_Rep D dA G L xs h' H' → va_S (fun q => G.1 ≤ q) s.heap H' locs' → W p l e R s m args below meth c H' locs' cells' slots' Q (F0 m (pc + len) ls (st'.map (jv_vl (jv_ad G))))) :
    W p l e R s m args below meth c H locs cells slots Q (F0 m pc ls (st.map (jv_vl (jv_ad G)))) := by
  obtain ⟨hx, hb, hown, hts, hK, hR, hS, hini⟩ := X
  unfold jv_heap at h0
  dsimp only at h0
  have e := jv_len1 hl rfl; subst e
  split at h0
  · rename_i a r
    split at h0
    · rename_i ha
      obtain ⟨ha, rfl, rfl⟩ := ha
      split at h0
      · rename_i ty n f he
        split at h0
        · rename_i hty
          subst hty
          cases h0
          have kk := k H locs cells slots (by omega) (by omega) hR hS
          exact va_castA (D := D) hx hb hown (hts _ jw_cc) hR.2.2.1 a (hR.at ha he) (hK.1.2 4 _ rfl).2 hdg kk
        · cases h0
      · cases h0
    · cases h0
  · cases h0
theorem jv_addn_eq : ∀ (k m : Nat) (h : jv_H), (jv_addn h k m).2.1 = h.2.1 + k ∧ (jv_addn h k m).2.2 = h.2.2 + k * m
  | 0, m, h => ⟨rfl, by show h.2.2 = h.2.2 + 0 * m; omega⟩
  | k + 1, m, h => by
    have h1 := jv_addn_eq k m (jv_add h (.inl (0, m, fun _ => 0)) m)
    refine ⟨h1.1.trans (by show h.2.1 + 1 + k = h.2.1 + (k + 1); omega), h1.2.trans ?_⟩
    show h.2.2 + m + k * m = h.2.2 + (k + 1) * m
    rw [Nat.add_mul]
    omega
theorem jv_addn_at : ∀ (k m : Nat) (h : jv_H) (a : Nat), (a < h.2.1 ∨ h.2.1 + k ≤ a → (jv_addn h k m).1 a = h.1 a) ∧ (h.2.1 ≤ a → a < h.2.1 + k → (jv_addn h k m).1 a = .inl (0, m, fun _ => 0))
  | 0, m, h, a => ⟨fun _ => rfl, fun h1 h2 => by omega⟩
  | k + 1, m, h, a => by
    have ih := jv_addn_at k m (jv_add h (.inl (0, m, fun _ => 0)) m) a
    have e2 : (jv_add h (.inl (0, m, fun _ => 0)) m).2.1 = h.2.1 + 1 := rfl
    rw [e2] at ih
    refine ⟨fun h1 => ?_, fun h1 h2 => ?_⟩
    · refine (ih.1 (by omega)).trans ?_
      show jv_up h.1 h.2.1 _ a = h.1 a
      unfold jv_up
      rw [if_neg (by omega)]
    · by_cases e : a = h.2.1
      · refine (ih.1 (by omega)).trans ?_
        show jv_up h.1 h.2.1 _ a = _
        unfold jv_up
        rw [if_pos e]
      · exact ih.2 (by omega) (by omega)
theorem jv_arrV_of {sl : Array Value} {cI : ClassId} {N : Nat} {f : Nat → Value} (h3 : sl.size = N) (h4 : ∀ j, j < N → sl[j]? = some (f j)) : ({ cls := cI, slots := sl, vm := .none } : Cell) = arrV cI N f := by
  have hs : sl = (arrV cI N f).slots := by
    apply Array.ext_getElem?
    intro j
    by_cases hj : j < N
    · rw [h4 j hj, arrV_read _ _ hj]
    · rw [Array.getElem?_eq_none (by omega), Array.getElem?_eq_none (by rw [arrV_size]; omega)]
  rw [hs]
  rfl
set_option maxHeartbeats 8000000 in
set_option maxRecDepth 100000 in
theorem jv_h_multi {ow : Nat} {ini : Bool} {h h' : jv_H} (X : jv_Cx p s m args meth c cc ow ini D dA G adV L xs h H locs) {idx d : Nat} {len : Nat} {st st' : List Value} (hdg : decode cc pc = .ok (.multianewarray idx d, len)) (hl : jv_sw (.multianewarray idx d) = true ∨ len = jv_len (.multianewarray idx d)) (h0 : jv_heap ow ini (.multianewarray idx d) st h = some (st', h')) (hm : h'.2.1 ≤ 1000000) (hc : cells + (h'.2.1 - h.2.1) ≤ R.cells) (hs : slots + (h'.2.2 - h.2.2) ≤ R.slots)
    (k : ∀ (H' : Heap) (locs' : List Loc) (cells' slots' : Nat), cells' = cells + (h'.2.1 - h.2.1) → slots' = slots + (h'.2.2 - h.2.2) → jv_Rep D dA G L xs h' H' → va_S (fun q => G.1 ≤ q) s.heap H' locs' → W p l e R s m args below meth c H' locs' cells' slots' Q (F0 m (pc + len) ls (st'.map (jv_vl (jv_ad G))))) :
    W p l e R s m args below meth c H locs cells slots Q (F0 m pc ls (st.map (jv_vl (jv_ad G)))) := by
  obtain ⟨hx, hb, hown, hts, hK, hR, hS, hini⟩ := X
  unfold jv_heap at h0
  dsimp only at h0
  have e := jv_len1 hl rfl; subst e
  sorry
set_option maxHeartbeats 8000000 in
theorem jv_heap_ok (hx : p.tables.exec = Jvm.exec) (hb : c.code = cc) {ow : Nat} {ini : Bool} (hown : s.vm.findClass (jv_own ow) = some m.cls) (hts : ∀ w ∈ jv_T, w.before args s = true) (hK : jv_Kn D dA G adV L xs s) {h h' : jv_H} (hR : jv_Rep D dA G L xs h H) (hS : va_S (fun q => G.1 ≤ q) s.heap H locs) (hini : ini = true → meth.name = "<init>")
    {i : Instr} {len : Nat} {st st' : List Value} (hdg : decode cc pc = .ok (i, len)) (hl : jv_sw i = true ∨ len = jv_len i) (h0 : jv_heap ow ini i st h = some (st', h')) (hm : h'.2.1 ≤ 1000000) (hc : cells + (h'.2.1 - h.2.1) ≤ R.cells) (hs : slots + (h'.2.2 - h.2.2) ≤ R.slots)
    (k : ∀ (H' : Heap) (locs' : List Loc) (cells' slots' : Nat), cells' = cells + (h'.2.1 - h.2.1) → slots' = slots + (h'.2.2 - h.2.2) → jv_Rep D dA G L xs h' H' → va_S (fun q => G.1 ≤ q) s.heap H' locs' → W p l e R s m args below meth c H' locs' cells' slots' Q (F0 m (pc + len) ls (st'.map (jv_vl (jv_ad G))))) :
    W p l e R s m args below meth c H locs cells slots Q (F0 m pc ls (st.map (jv_vl (jv_ad G)))) := by
  have X : jv_Cx p s m args meth c cc ow ini D dA G adV L xs h H locs := ⟨hx, hb, hown, hts, hK, hR, hS, hini⟩
  have h00 := h0
  unfold jv_heap at h0
  split at h0
  · exact jv_h_getfield X hdg hl h00 hm hc hs k
  · exact jv_h_putfield X hdg hl h00 hm hc hs k
  · exact jv_h_iaload X hdg hl h00 hm hc hs k
  · exact jv_h_baload X hdg hl h00 hm hc hs k
  · exact jv_h_aaload X hdg hl h00 hm hc hs k
  · exact jv_h_iastore X hdg hl h00 hm hc hs k
  · exact jv_h_bastore X hdg hl h00 hm hc hs k
  · exact jv_h_aastore X hdg hl h00 hm hc hs k
  · exact jv_h_arraylength X hdg hl h00 hm hc hs k
  · exact jv_h_new X hdg hl h00 hm hc hs k
  · exact jv_h_newarray X hdg hl h00 hm hc hs k
  · exact jv_h_anewarray X hdg hl h00 hm hc hs k
  · exact jv_h_ldc X hdg hl h00 hm hc hs k
  · exact jv_h_ldc2 X hdg hl h00 hm hc hs k
  · exact jv_h_getstatic X hdg hl h00 hm hc hs k
  · exact jv_h_checkcast X hdg hl h00 hm hc hs k
  · exact jv_h_multi X hdg hl h00 hm hc hs k
  · cases h0
end JHQ
end
section
/-! THE J MACHINE IS RIGHT: methods, calls, by induction on the fuel -/
theorem jv_heap_mono {ow : Nat} {ini : Bool} {i : Instr} {st st' : List Value} {h h' : jv_H} (h0 : jv_heap ow ini i st h = some (st', h')) : h.2.1 ≤ h'.2.1 ∧ h.2.2 ≤ h'.2.2 := by
  unfold jv_heap at h0
  split at h0
  case h_2 =>
    obtain ⟨v, a, cx, kf, fs, rfl, hf, ha, he, hkl, hn, hfi, hfin, rfl⟩ := jv_set_eq h0
    exact ⟨Nat.le_refl _, Nat.le_refl _⟩
  all_goals (repeat' split at h0)
  all_goals first
    | (cases h0; done)
    | (cases h0; exact ⟨Nat.le_refl _, Nat.le_refl _⟩)
    | (cases h0; exact ⟨Nat.le_succ _, Nat.le_add_right _ _⟩)
    | (cases h0; rw [(jv_addn_eq _ _ _).1, (jv_addn_eq _ _ _).2]; exact ⟨Nat.le_trans (Nat.le_succ _) (Nat.le_add_right _ _), Nat.le_trans (Nat.le_add_right _ _) (Nat.le_add_right _ _)⟩)
theorem jv_acpy_eq {st st' : List Value} {h h1 : jv_H} (h0 : jv_acpy st h = some (st', h1)) : ∃ (n dp sp : Int32) (d s m k : Nat) (f g : Nat → Int32), st = .int n :: .int dp :: .ref d :: .int sp :: .ref s :: st' ∧ (s < h.2.1 ∨ jv_old s = true) ∧ d < h.2.1 ∧ s ≠ d ∧ h.1 s = .inl (4, m, f) ∧ h.1 d = .inl (4, k, g) ∧
    (¬ n < 0 ∧ ¬ dp < 0 ∧ ¬ sp < 0) ∧ sp.toNatClampNeg + n.toNatClampNeg ≤ m ∧ dp.toNatClampNeg + n.toNatClampNeg ≤ k ∧ (∀ i, i < n.toNatClampNeg → fits .byte (.int (f (sp.toNatClampNeg + i))) = true) ∧ h1 = jv_put h d (.inl (4, k, va_cpy f g sp.toNatClampNeg dp.toNatClampNeg n.toNatClampNeg)) := by
  unfold jv_acpy at h0
  split at h0
  · split at h0
    · rename_i ha
      split at h0
      · rename_i m f k g he hed
        split at h0
        · rename_i hq
          cases h0
          refine ⟨_, _, _, _, _, m, k, f, g, rfl, ha.1, ha.2.1, ha.2.2, he, hed, hq.1, hq.2.1, hq.2.2.1, fun i hi => ?_, rfl⟩
          exact List.all_eq_true.mp hq.2.2.2 i (List.mem_range.mpr hi)
        · cases h0
      · cases h0
    · cases h0
  · cases h0
theorem jv_cln_eq {st st' : List Value} {h h1 : jv_H} (h0 : jv_cln st h = some (st', h1)) : ∃ (a n : Nat) (f : Nat → Int32) (r : List Value), st = .ref a :: r ∧ a < h.2.1 ∧ h.1 a = .inl (4, n, f) ∧ (∀ i, i < n → fits .byte (.int (f i)) = true) ∧ st' = .ref h.2.1 :: r ∧ h1 = jv_add h (.inl (4, n, f)) n := by
  unfold jv_cln at h0
  split at h0
  · split at h0
    · rename_i ha
      split at h0
      · rename_i n f he
        split at h0
        · rename_i hq
          cases h0
          exact ⟨_, n, f, _, rfl, ha, he, fun i hi => List.all_eq_true.mp hq i (List.mem_range.mpr hi), rfl, rfl⟩
        · cases h0
      · cases h0
    · cases h0
  · cases h0
theorem jv_cidx_eq {st st' : List Value} (h0 : jv_cidx st = some st') : ∃ n i : Int32, st = .int n :: .int i :: st' ∧ 0 ≤ i ∧ i < n := by
  unfold jv_cidx at h0
  split at h0
  · split at h0
    · rename_i hq
      cases h0
      exact ⟨_, _, rfl, hq.1, hq.2⟩
    · cases h0
  · cases h0
theorem jv_step_mono {ow : Nat} {ini : Bool} {i : Instr} {len pc pc' : Nat} {L L' : List (Option Value)} {st st' : List Value} {h h' : jv_H} (h0 : jv_step ow ini i len pc L st h = some (pc', L', st', h')) : h.2.1 ≤ h'.2.1 ∧ h.2.2 ≤ h'.2.2 := by
  unfold jv_step at h0
  split at h0
  · cases h0; exact ⟨Nat.le_refl _, Nat.le_refl _⟩
  · split at h0
    · cases h0; exact ⟨Nat.le_refl _, Nat.le_refl _⟩
    · split at h0
      · cases h0; exact ⟨Nat.le_refl _, Nat.le_refl _⟩
      · split at h0
        · cases h0; exact ⟨Nat.le_refl _, Nat.le_refl _⟩
        · split at h0
          · rename_i hh
            cases h0; exact jv_heap_mono hh
          · cases h0
/-- the J machine's one step, what it can be -/
theorem jv_run_inv {n y pc : Nat} {L : List (Option Value)} {st : List Value} {h h' : jv_H} {r : Option Value} (h0 : jv_run (n + 1) y pc L st h = some (r, h')) :
    ∃ (ow kd na mL fr lo : Nat) (i : Instr) (len : Nat), jv_inf y = some (ow, kd, na, mL, fr, lo) ∧ jv_code y pc = some (i, len) ∧
      ((jv_ret (jv_ym y).2.2 i st = some r ∧ h' = h) ∨
       (∃ (pc' : Nat) (L' : List (Option Value)) (st' : List Value) (h1 : jv_H), jv_step ow (decide (kd = 2)) i len pc L st h = some (pc', L', st', h1) ∧ jv_run n y pc' L' st' h1 = some (r, h')) ∨
       (∃ (ck idx z na' ne : Nat), jv_isC i = some (ck, idx) ∧ jv_cal ow idx = some (z, na', ne) ∧
         ((z = 900 ∧ ∃ (a : Nat) (rst : List Value), st = .ref a :: rst ∧ ck = 2 ∧ 1 ≤ fr ∧ jv_wd rst + 12 ≤ lo ∧ jv_run n y (pc + 3) L rst h = some (r, h')) ∨
          (z = 903 ∧ ∃ st' : List Value, jv_cidx st = some st' ∧ ck = 0 ∧ 3 ≤ fr ∧ 90 ≤ lo ∧ jv_wd (st.drop 2) ≤ 8 ∧ jv_run n y (pc + 3) L st' h = some (r, h')) ∨
          (z = 904 ∧ ∃ (st' : List Value) (h1 : jv_H), jv_acpy st h = some (st', h1) ∧ ck = 0 ∧ 1 ≤ fr ∧ 40 ≤ lo ∧ jv_wd (st.drop 5) ≤ 8 ∧ jv_run n y (pc + 3) L st' h1 = some (r, h')) ∨
          (z = 905 ∧ ∃ (st' : List Value) (h1 : jv_H), jv_cln st h = some (st', h1) ∧ ck = 1 ∧ 1 ≤ fr ∧ 40 ≤ lo ∧ jv_wd (st.drop 1) ≤ 8 ∧ jv_run n y (pc + 3) L st' h1 = some (r, h')) ∨
          (z ≠ 900 ∧ z ≠ 903 ∧ z ≠ 904 ∧ z ≠ 905 ∧ ∃ (q : Nat × Nat × Nat × Nat × Nat × Nat) (r1 : Option Value) (h1 : jv_H), jv_inf z = some q ∧ jv_may ck fr lo q na' st h = true ∧
            jv_run n z 0 ((st.take na').reverse.map some ++ List.replicate (q.2.2.2.1 - na') none) [] h = some (r1, h1) ∧ jv_run n y (pc + 3) L (r1.toList ++ st.drop na') h1 = some (r, h'))))) := by
  unfold jv_run at h0
  split at h0
  · cases h0
  · rename_i ow kd na mL fr lo hinf
    split at h0
    · cases h0
    · rename_i i len hcode
      refine ⟨ow, kd, na, mL, fr, lo, i, len, hinf, hcode, ?_⟩
      split at h0
      · rename_i r0 hr
        cases h0
        exact Or.inl ⟨hr, rfl⟩
      · split at h0
        · split at h0
          · rename_i hs
            exact Or.inr (Or.inl ⟨_, _, _, _, hs, h0⟩)
          · cases h0
        · rename_i ck idx hc
          split at h0
          · cases h0
          · rename_i z na' ne hcal
            refine Or.inr (Or.inr ⟨ck, idx, z, na', ne, hc, hcal, ?_⟩)
            split at h0
            · rename_i hz
              split at h0
              · split at h0
                · rename_i hq
                  exact Or.inl ⟨hz, _, _, rfl, hq.1, hq.2.1, hq.2.2, h0⟩
                · cases h0
              · cases h0
            · rename_i hz0
              split at h0
              · rename_i hz
                split at h0
                · rename_i st' hst
                  split at h0
                  · rename_i hq
                    exact Or.inr (Or.inl ⟨hz, st', hst, hq.1, hq.2.1, hq.2.2.1, hq.2.2.2, h0⟩)
                  · cases h0
                · cases h0
              · rename_i hz1
                split at h0
                · rename_i hz
                  split at h0
                  · rename_i st' h1 hst
                    split at h0
                    · rename_i hq
                      exact Or.inr (Or.inr (Or.inl ⟨hz, st', h1, hst, hq.1, hq.2.1, hq.2.2.1, hq.2.2.2, h0⟩))
                    · cases h0
                  · cases h0
                · rename_i hz2
                  split at h0
                  · rename_i hz
                    split at h0
                    · rename_i st' h1 hst
                      split at h0
                      · rename_i hq
                        exact Or.inr (Or.inr (Or.inr (Or.inl ⟨hz, st', h1, hst, hq.1, hq.2.1, hq.2.2.1, hq.2.2.2, h0⟩)))
                      · cases h0
                    · cases h0
                  · rename_i hz3
                    split at h0
                    · cases h0
                    · rename_i q hq
                      split at h0
                      · rename_i hmay
                        split at h0
                        · rename_i r1 h1 hrun
                          exact Or.inr (Or.inr (Or.inr (Or.inr ⟨hz0, hz1, hz2, hz3, q, r1, h1, hq, hmay, hrun, h0⟩)))
                        · cases h0
                      · cases h0
theorem jv_run_mono : ∀ (n : Nat) {y pc : Nat} {L : List (Option Value)} {st : List Value} {h h' : jv_H} {r : Option Value}, jv_run n y pc L st h = some (r, h') → h.2.1 ≤ h'.2.1 ∧ h.2.2 ≤ h'.2.2
  | 0, _, _, _, _, _, _, _, h0 => by cases h0
  | n + 1, y, pc, L, st, h, h', r, h0 => by
    obtain ⟨ow, kd, na, mL, fr, lo, i, len, -, -, ⟨-, rfl⟩ | ⟨pc', L', st', h1, hs, hr⟩ | ⟨ck, idx, z, na', ne, -, -, hz⟩⟩ := jv_run_inv h0
    · exact ⟨Nat.le_refl _, Nat.le_refl _⟩
    · have a := jv_step_mono hs
      have b := jv_run_mono n hr
      omega
    · rcases hz with ⟨-, a, rst, -, -, -, -, hr⟩ | ⟨-, st', -, -, -, -, -, hr⟩ | ⟨-, st', h1, hst, -, -, -, -, hr⟩ | ⟨-, st', h1, hst, -, -, -, -, hr⟩ | ⟨-, -, -, -, q, r1, h1, -, -, hr1, hr⟩
      · exact jv_run_mono n hr
      · exact jv_run_mono n hr
      · obtain ⟨_, _, _, _, _, _, _, _, _, -, -, -, -, -, -, -, -, -, -, rfl⟩ := jv_acpy_eq hst
        have b := jv_run_mono n hr
        exact ⟨b.1, b.2⟩
      · obtain ⟨_, _, _, _, -, -, -, -, -, rfl⟩ := jv_cln_eq hst
        have b := jv_run_mono n hr
        exact ⟨Nat.le_trans (Nat.le_succ _) b.1, Nat.le_trans (Nat.le_add_right _ _) b.2⟩
      · have a := jv_run_mono n hr1
        have b := jv_run_mono n hr
        omega
def jv_Pc (D : va_G) (dA : Nat → ClassId) (G : jv_G) (adV : Nat → Nat) (L : Nat) (xs : Nat → Int32) (a : List Value) (h : jv_H) : Array Value → State → Prop := fun v U => v = (a.map (jv_vl (jv_ad G))).toArray ∧ jv_Rep D dA G L xs h U.heap ∧ jv_Kn D dA G adV L xs U
def jv_Qc (D : va_G) (dA : Nat → ClassId) (G : jv_G) (L : Nat) (xs : Nat → Int32) (r : Option Value) (h' : jv_H) : Array Value → State → Outcome → State → Prop := fun _ st o t => o = .returned (r.map (jv_vl (jv_ad G))) ∧ jv_Rep D dA G L xs h' t.heap ∧ va_F (fun q => G.1 ≤ q) st t
theorem jv_nests_warm {s U : State} (hW : s.WarmedH U.vm) : ∀ w ∈ jv_nests, va_Nw w s → va_Nw w U := by
  intro w hw h
  simp only [jv_nests, List.mem_cons, List.not_mem_nil, or_false] at hw
  rcases hw with rfl | rfl | rfl | rfl | rfl <;> exact va_Nw.warmM hW h
theorem jv_nests_same {u U : State} (hv : u.vm = U.vm) : ∀ w ∈ jv_nests, va_Nw w u → va_Nw w U := by
  intro w hw h
  simp only [jv_nests, List.mem_cons, List.not_mem_nil, or_false] at hw
  rcases hw with rfl | rfl | rfl | rfl | rfl <;> exact va_Nw.same rfl hv h
theorem jv_Kn.same {D : va_G} {dA : Nat → ClassId} {G : jv_G} {adV : Nat → Nat} {L : Nat} {xs : Nat → Int32} {u U : State} (hv : U.vm = u.vm) (hh : U.heap = u.heap) (h : jv_Kn D dA G adV L xs u) : jv_Kn D dA G adV L xs U := by
  obtain ⟨h1, h2, h3, h4, h5, h6, k1, k2, k3, k4, ⟨a1, a2, ⟨a3, a4⟩, ⟨a5, a6⟩, a7, a8⟩, v, hv0, k5⟩ := h
  have ha : u.vm.Alike U.vm := by rw [hv]; exact Vm.Alike.refl u.vm
  refine ⟨va_K.moved ha h1, ?_, h3, by rw [hh]; exact h4, ?_, fun i q hq => vk_R.same hv (h6 i q hq), k1.moved ha, k2.moved ha, fun w hw => jv_nests_same hv.symm w hw (k3 w hw), ?_, ⟨a1.moved ha, a2, ⟨?_, ?_⟩, ⟨?_, ?_⟩, va_Nw.same rfl hv.symm a7, jv_warmA ha a8⟩, v, hv0, ?_⟩
  · rw [hh]; exact va_X.moved ha h2
  · rw [hh]; exact jv_S.moved ha h5
  · rw [hh]; exact va_Z.moved ha k4
  · rw [hh]; exact va_Z.moved ha a3
  · rw [hh]; exact va_T.moved ha a4
  · rw [hh]; exact va_Z.moved ha a5
  · rw [hh]; exact va_T.moved ha a6
  · rw [hh]; exact va_Z.moved ha k5
theorem jv_Kn.next {D : va_G} {dA : Nat → ClassId} {G : jv_G} {adV : Nat → Nat} {L : Nat} {xs : Nat → Int32} {s U : State} {locs : List Loc} (h : jv_Kn D dA G adV L xs s) (hS : va_S (fun q => G.1 ≤ q) s.heap U.heap locs) (hW : s.WarmedH U.vm) : jv_Kn D dA G adV L xs U := by
  obtain ⟨h1, h2, h3, h4, h5, h6, k1, k2, k3, k4, ⟨a1, a2, ⟨a3, a4⟩, ⟨a5, a6⟩, a7, a8⟩, v, hv0, k5⟩ := h
  exact ⟨va_K.moved hW.alike h1, (h2.kept (hS.2.1 G.2.1 (Nat.lt_of_lt_of_le h3 h4) (Nat.not_le.mpr h3))).moved hW.alike, h3, Nat.le_trans h4 hS.1, (h5.kept hS.2.1).moved hW.alike, fun i q hq => vk_R.warm hW (h6 i q hq), k1.moved hW.alike, k2.moved hW.alike, fun w hw => jv_nests_warm hW w hw (k3 w hw), (k4.kept hS.2.1).moved hW.alike, ⟨a1.moved hW.alike, a2, ⟨(a3.kept hS.2.1).moved hW.alike, (a4.kept hS.2.1).moved hW.alike⟩, ⟨(a5.kept hS.2.1).moved hW.alike, (a6.kept hS.2.1).moved hW.alike⟩, va_Nw.warmC hW a7, jv_warmA hW.alike a8⟩, v, hv0, (k5.kept hS.2.1).moved hW.alike⟩
theorem jv_blind {D : va_G} {dA : Nat → ClassId} {G : jv_G} {adV : Nat → Nat} {L : Nat} {xs : Nat → Int32} {a : List Value} {h : jv_H} : FrameBlind (jv_Pc D dA G adV L xs a h) := by
  intro v U g mk hp
  exact ⟨hp.1, hp.2.1, jv_Kn.same (u := U) (U := U.calling g mk v) rfl rfl hp.2.2⟩
theorem jv_wd_map (ad : Nat → Nat) (st : List Value) : ((st.map (jv_vl ad)).map fun v => v.category).sum = jv_wd st := by
  unfold jv_wd
  rw [List.map_map]
  congr 1
  apply List.map_congr_left
  intro v _
  exact jv_vl_cat ad v
theorem jv_wd_one : ∀ (u : List Value), jv_wd u = u.length → ∀ v ∈ u, v.category = 1
  | [], _, v, hv => by cases hv
  | w :: u, h, v, hv => by
    have hge : ∀ u : List Value, u.length ≤ jv_wd u := by
      intro u
      induction u with
      | nil => exact Nat.le_refl _
      | cons x t ih =>
        have h2 : jv_wd (x :: t) = x.category + jv_wd t := by simp [jv_wd]
        rcases lv_cat x with h3 | h3 <;> simp only [List.length_cons] <;> omega
    have h1 : jv_wd (w :: u) = w.category + jv_wd u := by simp [jv_wd]
    have h2 := hge u
    simp only [List.length_cons] at h
    rcases lv_cat w with h3 | h3
    · rcases List.mem_cons.mp hv with rfl | hv
      · exact h3
      · exact jv_wd_one u (by omega) v hv
    · omega
theorem jv_sl : ∀ (vs : List Value), (∀ v ∈ vs, v.category = 1) → lg_sl vs = vs.map Slot.val
  | [], _ => rfl
  | v :: vs, h => by
    have h1 : ¬ v.category = 2 := by rw [h v List.mem_cons_self]; decide
    have h2 := jv_sl vs (fun w hw => h w (List.mem_cons_of_mem _ hw))
    unfold lg_sl at h2 ⊢
    rw [List.flatMap_cons, h2, if_neg h1]
    rfl
theorem jv_args_mem : ∀ (vs : List Value) (k i : Nat) (v : Value), (∀ w ∈ vs, w.category = 1) → vs[i]? = some v → (k + i, v) ∈ lv_args k vs
  | [], k, i, v, _, h => by simp at h
  | w :: vs, k, i, v, hc, h => by
    have h1 : ¬ w.category = 2 := by rw [hc w List.mem_cons_self]; decide
    unfold lv_args
    rw [if_neg h1]
    cases i with
    | zero =>
      rw [List.getElem?_cons_zero] at h
      cases h
      exact List.mem_cons_self
    | succ i =>
      rw [List.getElem?_cons_succ] at h
      have h2 := jv_args_mem vs (k + 1) i v (fun x hx => hc x (List.mem_cons_of_mem _ hx)) h
      rw [show k + (i + 1) = k + 1 + i by omega]
      exact List.mem_cons_of_mem _ h2
/-- a method's first locals -/
theorem jv_entry (ad : Nat → Nat) (a : List Value) (mL : Nat) (hc : ∀ v ∈ a, v.category = 1) (hn : a.length ≤ mL) : jv_Lc ad ((lg_sl (a.map (jv_vl ad)) ++ List.replicate (mL - (lg_sl (a.map (jv_vl ad))).length) Slot.unset).toArray) mL (a.map some ++ List.replicate (mL - a.length) none) := by
  have hc2 : ∀ v ∈ a.map (jv_vl ad), v.category = 1 := by
    intro v hv
    obtain ⟨w, hw, rfl⟩ := List.mem_map.mp hv
    rw [jv_vl_cat]
    exact hc w hw
  have hsl := jv_sl _ hc2
  have hlen : (lg_sl (a.map (jv_vl ad))).length = a.length := by rw [hsl]; simp
  have hE := lv_entry (a.map (jv_vl ad)) (n := mL) (by omega)
  refine ⟨hE.1, by simp; omega, hE.2.1, fun i v hv => ?_⟩
  have hi : a[i]? = some v := by
    by_cases hlt : i < a.length
    · rw [List.getElem?_append_left (by simpa using hlt), List.getElem?_map] at hv
      cases ha : a[i]? with
      | none => rw [ha] at hv; cases hv
      | some w => rw [ha] at hv; cases hv; rfl
    · rw [List.getElem?_append_right (by simp; omega)] at hv
      have h3 := List.mem_of_getElem? hv
      have h4 := List.eq_of_mem_replicate h3
      cases h4
  have h5 := jv_args_mem (a.map (jv_vl ad)) 0 i (jv_vl ad v) hc2 (by rw [List.getElem?_map, hi]; rfl)
  rw [Nat.zero_add] at h5
  exact hE.2.2 (i, jv_vl ad v) h5
end
section
/-! THE J MACHINE IS RIGHT: the induction; printed by wip/p42/jcall42.py -/
theorem jw_sup : Cond.superclass RJ4 RJ5 ∈ jv_T := jv_in_ok (i := 4137) (by decide +kernel)
theorem jw_sm170 : Cond.sameMethod (jv_ym 170).1.cls (jv_ym 170).1.cls (jv_ym 170).1.name (jv_ym 170).1.desc ∈ jv_T := jv_in_ok (i := 4128) (by decide +kernel)
theorem jw_sm171 : Cond.sameMethod (jv_ym 171).1.cls (jv_ym 171).1.cls (jv_ym 171).1.name (jv_ym 171).1.desc ∈ jv_T := jv_in_ok (i := 6197) (by decide +kernel)
theorem jw_sm172 : Cond.sameMethod (jv_ym 172).1.cls (jv_ym 172).1.cls (jv_ym 172).1.name (jv_ym 172).1.desc ∈ jv_T := jv_in_ok (i := 6196) (by decide +kernel)
theorem jw_sm177 : Cond.sameMethod (jv_ym 177).1.cls (jv_ym 177).1.cls (jv_ym 177).1.name (jv_ym 177).1.desc ∈ jv_T := jv_in_ok (i := 4320) (by decide +kernel)
theorem jw_oi165 : Cond.instanceMethod yJ5_length_8abf5 ∈ jv_T := jv_in_ok (i := 4319) (by decide +kernel)
theorem jw_os165 : Cond.selects RJ4 yJ5_length_8abf5 (jv_ym 165).1 ∈ jv_T := jv_in_ok (i := 4321) (by decide +kernel)
theorem jw_oc165 : Cond.code yJ5_length_8abf5 cJ5_length_8abf5 1 (some .int) ∈ jv_T := jv_in_ok (i := 4325) (by decide +kernel)
theorem jw_oi164 : Cond.instanceMethod yJ5_append_cf1ce ∈ jv_T := jv_in_ok (i := 4127) (by decide +kernel)
theorem jw_os164 : Cond.selects RJ4 yJ5_append_cf1ce (jv_ym 164).1 ∈ jv_T := jv_in_ok (i := 4129) (by decide +kernel)
theorem jw_oc164 : Cond.code yJ5_append_cf1ce cJ5_append_cf1ce 3 (some (.object "java/lang/AbstractStringBuilder")) ∈ jv_T := jv_in_ok (i := 4138) (by decide +kernel)
/-- super calls: StringBuilder's, of AbstractStringBuilder's members -/
def jv_cks1 (ow : Nat) (q : Nat × Nat × Nat × Nat) : Bool := match jv_inf q.2.1 with
  | some (_, kd, _) => decide (kd = 3 → ow = 9 ∧ q.2.2.2 = 0 ∧ (q.2.1 = 170 ∨ q.2.1 = 171 ∨ q.2.1 = 172 ∨ q.2.1 = 177))
  | none => true
theorem jv_ks0 : (jv_cal0).all (jv_cks1 0) = true := by decide +kernel
theorem jv_ks1 : (jv_cal1).all (jv_cks1 1) = true := by decide +kernel
theorem jv_ks2 : (jv_cal2).all (jv_cks1 2) = true := by decide +kernel
theorem jv_ks3 : (jv_cal3).all (jv_cks1 3) = true := by decide +kernel
theorem jv_ks4 : (jv_cal4).all (jv_cks1 4) = true := by decide +kernel
theorem jv_ks5 : (jv_cal5).all (jv_cks1 5) = true := by decide +kernel
theorem jv_ks6 : (jv_cal6).all (jv_cks1 6) = true := by decide +kernel
theorem jv_ks7 : (jv_cal7).all (jv_cks1 7) = true := by decide +kernel
theorem jv_ks8 : (jv_cal8).all (jv_cks1 8) = true := by decide +kernel
theorem jv_ks9 : (jv_cal9).all (jv_cks1 9) = true := by decide +kernel
theorem jv_ks10 : (jv_cal10).all (jv_cks1 10) = true := by decide +kernel
theorem jv_ks11 : (jv_cal11).all (jv_cks1 11) = true := by decide +kernel
theorem jv_ks12 : (jv_cal12).all (jv_cks1 12) = true := by decide +kernel
theorem jv_ks13 : (jv_cal13).all (jv_cks1 13) = true := by decide +kernel
theorem jv_ks14 : (jv_cal14).all (jv_cks1 14) = true := by decide +kernel
theorem jv_ks15 : (jv_cal15).all (jv_cks1 15) = true := by decide +kernel
theorem jv_ks16 : (jv_cal16).all (jv_cks1 16) = true := by decide +kernel
theorem jv_ks17 : (jv_cal17).all (jv_cks1 17) = true := by decide +kernel
theorem jv_cks_ok {ow i : Nat} {v : Nat × Nat × Nat} (h : jv_cal ow i = some v) : jv_cks1 ow (i, v) = true := by
  unfold jv_cal at h
  split at h
  · cases h
  · rename_i a ha
    have hm := jv_as_mem a h
    match ow, ha with
    | 0, ha => cases ha; exact List.all_eq_true.mp jv_ks0 _ hm
    | 1, ha => cases ha; exact List.all_eq_true.mp jv_ks1 _ hm
    | 2, ha => cases ha; exact List.all_eq_true.mp jv_ks2 _ hm
    | 3, ha => cases ha; exact List.all_eq_true.mp jv_ks3 _ hm
    | 4, ha => cases ha; exact List.all_eq_true.mp jv_ks4 _ hm
    | 5, ha => cases ha; exact List.all_eq_true.mp jv_ks5 _ hm
    | 6, ha => cases ha; exact List.all_eq_true.mp jv_ks6 _ hm
    | 7, ha => cases ha; exact List.all_eq_true.mp jv_ks7 _ hm
    | 8, ha => cases ha; exact List.all_eq_true.mp jv_ks8 _ hm
    | 9, ha => cases ha; exact List.all_eq_true.mp jv_ks9 _ hm
    | 10, ha => cases ha; exact List.all_eq_true.mp jv_ks10 _ hm
    | 11, ha => cases ha; exact List.all_eq_true.mp jv_ks11 _ hm
    | 12, ha => cases ha; exact List.all_eq_true.mp jv_ks12 _ hm
    | 13, ha => cases ha; exact List.all_eq_true.mp jv_ks13 _ hm
    | 14, ha => cases ha; exact List.all_eq_true.mp jv_ks14 _ hm
    | 15, ha => cases ha; exact List.all_eq_true.mp jv_ks15 _ hm
    | 16, ha => cases ha; exact List.all_eq_true.mp jv_ks16 _ hm
    | 17, ha => cases ha; exact List.all_eq_true.mp jv_ks17 _ hm
    | ow + 18, ha => rw [show jv_nth jv_cals (ow + 18) = jv_nth ([] : List (List (Nat × Nat × Nat × Nat))) ow from rfl, jv_nil] at ha; cases ha
/-- calls that run an overriding method -/
theorem jv_alt_eq {ow idx z na ne : Nat} {x : MethodName} (h : jv_alt ow idx = some x) (hc : jv_cal ow idx = some (z, na, ne)) : (z = 165 ∧ x = yJ5_length_8abf5) ∨ (z = 164 ∧ x = yJ5_append_cf1ce) := by
  unfold jv_alt at h
  split at h
  · rename_i q
    obtain ⟨rfl, rfl⟩ := q
    cases h
    have e : jv_cal 8 549 = some (165, 1, 0) := by decide +kernel
    rw [e] at hc
    cases hc
    exact Or.inl ⟨rfl, rfl⟩
  · split at h
    · rename_i q
      obtain ⟨rfl, rfl⟩ := q
      cases h
      have e : jv_cal 11 43 = some (164, 2, 0) := by decide +kernel
      rw [e] at hc
      cases hc
      exact Or.inr ⟨rfl, rfl⟩
    · cases h
section JSM
variable {p : Program} {l : Launch} {e : Env} {R : Room} {s : State} {m : MethodId} {args : Array Value} {below : List Frame} {meth : Method} {c : Code} {H : Heap} {locs : List Loc} {cells slots : Nat} {Q : State → Prop}
variable {cc : ByteArray} {pc nL : Nat} {ls : Array Slot} {D : va_G} {dA : Nat → ClassId} {G : jv_G} {adV : Nat → Nat} {L : Nat} {xs : Nat → Int32}
theorem jv_back {mc ms : Nat} {r : Option Value} {h' : jv_H} {st0 rest : List Value} {a : Array Value} (hr : va_Run p l e R s m args below meth c H locs cells slots mc ms (F0 m pc ls st0) rest (jv_Qc D dA G L xs r h' a) (fun q => G.1 ≤ q)) (hS : va_S (fun q => G.1 ≤ q) s.heap H locs)
    (kk : ∀ (H1 : Heap) (locs1 : List Loc), jv_Rep D dA G L xs h' H1 → va_S (fun q => G.1 ≤ q) s.heap H1 locs1 → W p l e R s m args below meth c H1 locs1 (cells + mc) (slots + ms) Q (F0 m (pc + 3) ls ((r.map (jv_vl (jv_ad G))).toList ++ rest))) : W p l e R s m args below meth c H locs cells slots Q (F0 m pc ls st0) := by
  intro T hT X
  obtain ⟨v, st₀, t, T', L1, h0, X', hL, e1, e2, ⟨hv, hRep, hz, hk⟩, st⟩ := hr T hT X
  cases hv
  rw [h0] at hz hk
  obtain ⟨t2, a1, b1⟩ := kk T'.heap (locs ++ L1) (by rw [e1]; exact hRep) ⟨Nat.le_trans hS.1 (by rw [e1]; exact hz), fun q h1 h2 => by rw [e1, hk q (Nat.lt_of_lt_of_le h1 hS.1) h2]; exact hS.2.1 q h1 h2, fun q hq => by
      rcases List.mem_append.mp hq with h | h
      · exact hS.2.2 q h
      · exact hL q h⟩ T' rfl X'
  exact ⟨t2, st t2 a1, b1⟩
set_option maxHeartbeats 4000000 in
theorem jv_step_ok (hx : p.tables.exec = Jvm.exec) (hb : c.code = cc) {ow : Nat} {ini : Bool} (hown : s.vm.findClass (jv_own ow) = some m.cls) (hts : ∀ w ∈ jv_T, w.before args s = true) (hK : jv_Kn D dA G adV L xs s) {h h' : jv_H} (hR : jv_Rep D dA G L xs h H) (hS : va_S (fun q => G.1 ≤ q) s.heap H locs) (hini : ini = true → meth.name = "<init>")
    {i : Instr} {len pc' : Nat} {Lv Lv' : List (Option Value)} {st st' : List Value} (hL : jv_Lc (jv_ad G) ls nL Lv) (hdg : decode cc pc = .ok (i, len)) (hl : jv_sw i = true ∨ len = jv_len i) (h0 : jv_step ow ini i len pc Lv st h = some (pc', Lv', st', h')) (hm : h'.2.1 ≤ 1000000) (hc : cells + (h'.2.1 - h.2.1) ≤ R.cells) (hs : slots + (h'.2.2 - h.2.2) ≤ R.slots)
    (k : ∀ (H' : Heap) (locs' : List Loc) (ls' : Array Slot) (cells' slots' : Nat), cells' = cells + (h'.2.1 - h.2.1) → slots' = slots + (h'.2.2 - h.2.2) → jv_Rep D dA G L xs h' H' → va_S (fun q => G.1 ≤ q) s.heap H' locs' → jv_Lc (jv_ad G) ls' nL Lv' → W p l e R s m args below meth c H' locs' cells' slots' Q (F0 m pc' ls' (st'.map (jv_vl (jv_ad G))))) :
    W p l e R s m args below meth c H locs cells slots Q (F0 m pc ls (st.map (jv_vl (jv_ad G)))) := by
  unfold jv_step at h0
  split at h0
  · rename_i h1
    cases h0
    exact jv_pure_ok hx hb hdg hl h1 (k H locs ls cells slots (by omega) (by omega) hR hS hL)
  · split at h0
    · rename_i h1
      cases h0
      exact jv_ld_ok hx hb hdg hl hL h1 (k H locs ls cells slots (by omega) (by omega) hR hS hL)
    · split at h0
      · rename_i h1
        cases h0
        exact jv_br_ok hx hb hdg hl h1 (k H locs ls cells slots (by omega) (by omega) hR hS hL)
      · split at h0
        · rename_i h1
          cases h0
          exact jv_sto_ok hx hb hdg hl hL h1 (fun ls' hL' => k H locs ls' cells slots (by omega) (by omega) hR hS hL')
        · split at h0
          · rename_i h1
            cases h0
            exact jv_heap_ok hx hb hown hts hK hR hS hini hdg hl h1 hm hc hs (fun H' locs' cells' slots' e1 e2 hR' hS' => k H' locs' ls cells' slots' e1 e2 hR' hS' hL)
          · cases h0
theorem jv_isC_eq {i : Instr} {ck idx : Nat} (h : jv_isC i = some (ck, idx)) : (ck = 0 ∧ i = .invokestatic idx) ∨ (ck = 1 ∧ i = .invokevirtual idx) ∨ (ck = 2 ∧ i = .invokespecial idx) := by
  unfold jv_isC at h
  split at h
  · cases h; exact Or.inl ⟨rfl, rfl⟩
  · cases h; exact Or.inr (Or.inl ⟨rfl, rfl⟩)
  · cases h; exact Or.inr (Or.inr ⟨rfl, rfl⟩)
  · cases h
/-- what the tables say of method z -/
theorem jv_ckm_eq {z ow kd na mL fr lo : Nat} (hz : z < 271) (hq : jv_inf z = some (ow, kd, na, mL, fr, lo)) :
    Cond.code (jv_ym z).1 (jv_ym z).2.1 mL (jv_ym z).2.2 ∈ jv_T ∧ Cond.initialized (jv_ym z).1.cls ∈ jv_T ∧ plainFor (jv_ym z).1 = true ∧ (jv_ym z).1.cls = jv_own ow ∧
    ((jv_ym z).1.cls ≠ "java/lang/invoke/MethodHandle" ∧ (jv_ym z).1.cls ≠ "java/lang/invoke/VarHandle" ∧ (parseMethodDescriptor (jv_ym z).1.desc).map (fun d => d.parameters.length) = some (if kd = 0 then na else na - 1)) ∧ na ≤ mL ∧ (kd ≠ 0 → 1 ≤ na) ∧
    (kd = 0 → Cond.static (jv_ym z).1 ∈ jv_T) ∧ (kd = 1 → Cond.instanceMethod (jv_ym z).1 ∈ jv_T ∧ Cond.selects (jv_own (jv_rc ow)) (jv_ym z).1 (jv_ym z).1 ∈ jv_T) ∧ (kd = 2 → Cond.instanceMethod (jv_ym z).1 ∈ jv_T ∧ (jv_ym z).1.name = "<init>" ∧ (jv_ym z).2.2 = none) ∧
    (kd = 3 ∨ kd = 5 → Cond.instanceMethod (jv_ym z).1 ∈ jv_T ∧ (jv_ym z).1.name ≠ "<init>") := by
  have h := jv_ckm_ok z hz
  unfold jv_ckm at h
  rw [hq] at h
  split at h
  · rename_i ow1 kd1 na1 mL1 fr1 lo1 a b c1 d he hhm
    cases he
    simp only [Bool.and_eq_true, decide_eq_true_eq] at h
    obtain ⟨⟨⟨⟨h1, h2⟩, h3⟩, h4, h5, h6, h7⟩, h8⟩ := h
    refine ⟨jv_in_ok h1, jv_in_ok h2, h3, h4, h5, h6, h7, fun hk => ?_, fun hk => ?_, fun hk => ?_, fun hk => ?_⟩
    · subst hk
      exact jv_in_ok h8
    · subst hk
      simp only [Bool.and_eq_true, Bool.or_eq_true] at h8
      exact ⟨jv_in_ok h8.1, h8.2.elim jv_in_ok jv_mo_ok⟩
    · subst hk
      simp only [Bool.and_eq_true, decide_eq_true_eq] at h8
      exact ⟨jv_in_ok h8.1, h8.2.1, h8.2.2⟩
    · rcases hk with rfl | rfl
      · simp only [Bool.and_eq_true, decide_eq_true_eq] at h8
        exact ⟨jv_in_ok h8.1, h8.2.1⟩
      · simp only [Bool.and_eq_true, decide_eq_true_eq] at h8
        exact ⟨jv_in_ok h8.1, h8.2.1⟩
  · cases h
theorem jv_good {w : Cond} (hw : w ∈ jv_T) : GoodIn jv_T (w :: jv_T) := by
  have key : ∀ v ∈ jv_T, v ∈ jv_T ∧ ((v.onTables && v.keeps) = true ∨ ∃ ty, v = .arrayClass ty) := fun v hv => ⟨hv, good_of_word (List.mem_filter.mp hv).2⟩
  intro v hv
  rcases List.mem_cons.mp hv with rfl | hv
  · exact key _ hw
  · exact key _ hv
theorem jv_goodL {l : List Cond} (h : ∀ v ∈ l, v ∈ jv_T) : GoodIn jv_T l := fun v hv => ⟨h v hv, good_of_word (List.mem_filter.mp (h v hv)).2⟩
set_option maxHeartbeats 8000000 in
theorem jv_call_ok {ow fr lo : Nat} (S : CallFix p m c cc nL s args jv_T (jv_own ow)) (hK : jv_Kn D dA G adV L xs s) {h h1 : jv_H} (hR : jv_Rep D dA G L xs h H) (hS : va_S (fun q => G.1 ≤ q) s.heap H locs) {z ow2 kd2 na2 mL2 fr2 lo2 na ne ck idx len : Nat} {i : Instr} {st : List Value} {r1 : Option Value}
    (hq : jv_inf z = some (ow2, kd2, na2, mL2, fr2, lo2)) (hcal : jv_cal ow idx = some (z, na, ne)) (hz0 : z ≠ 900) (hz1 : z ≠ 903) (hz2 : z ≠ 904) (hz3 : z ≠ 905) (hdg : decode cc pc = .ok (i, len)) (hci : jv_isC i = some (ck, idx)) (hl : jv_sw i = true ∨ len = jv_len i) (hmay : jv_may ck fr lo (ow2, kd2, na2, mL2, fr2, lo2) na st h = true) (hfr : fr ≤ R.frames) (hlo : lo ≤ R.locals) (hsz : ls.size = nL) {mc ms : Nat}
    (hM : Met l (jv_ym z).1 (Cond.code (jv_ym z).1 (jv_ym z).2.1 mL2 (jv_ym z).2.2 :: jv_T) ({ frames := fr2, cells := mc, slots := ms, locals := lo2 } : Room) (jv_Pc D dA G adV L xs (st.take na).reverse h) (jv_Qc D dA G L xs r1 h1) mc ms (fun q => G.1 ≤ q)) (hf : cells + mc ≤ R.cells ∧ slots + ms ≤ R.slots)
    (kk : ∀ (H1 : Heap) (locs1 : List Loc), jv_Rep D dA G L xs h1 H1 → va_S (fun q => G.1 ≤ q) s.heap H1 locs1 → W p l e R s m args below meth c H1 locs1 (cells + mc) (slots + ms) Q (F0 m (pc + 3) ls ((r1.toList ++ st.drop na).map (jv_vl (jv_ad G))))) :
    W p l e R s m args below meth c H locs cells slots Q (F0 m pc ls (st.map (jv_vl (jv_ad G)))) := by
  have hckc := jv_ckc_ok hcal
  unfold jv_ckc1 at hckc
  rw [if_neg hz0, if_neg hz1, if_neg hz2, if_neg hz3, hq] at hckc
  simp only [Bool.and_eq_true, decide_eq_true_eq] at hckc
  obtain ⟨⟨hna, hz⟩, hlink⟩ := hckc
  subst hna
  obtain ⟨w1, w2, -, w4, w5, w6, w7, w8, w9, w10, w11⟩ := jv_ckm_eq hz hq
  have hts := S.2.2.2.2
  -- a call by its own name: linked among nest mates, or plainly
  have hl1 : kd2 ≠ 5 → ne = 0 → Cond.methodLink (jv_own ow) idx (jv_ym z).1 ∈ jv_T := by
    intro h5 h6
    rw [if_pos h6] at hlink
    cases hal : jv_alt ow idx with
    | none =>
      rw [hal] at hlink
      simp only [Bool.and_eq_true] at hlink
      exact jv_in_ok hlink.2
    | some x =>
      rw [hal] at hlink
      simp only [Bool.and_eq_true, decide_eq_true_eq] at hlink
      exact absurd hlink.1 h5
  have hl2 : kd2 ≠ 5 → ¬ ne = 0 → Cond.methodLinkNest (jv_own ow) idx (jv_ym z).1 "SeatSwap" ∈ jv_nests := by
    intro h5 h6
    rw [if_neg h6] at hlink
    simp only [Bool.and_eq_true, decide_eq_true_eq] at hlink
    exact hlink.2
  have hl5 : kd2 = 5 → ∃ x : MethodName, jv_alt ow idx = some x ∧ Cond.methodLink (jv_own ow) idx x ∈ jv_T := by
    intro h5
    by_cases h6 : ne = 0
    · rw [if_pos h6] at hlink
      cases hal : jv_alt ow idx with
      | none =>
        rw [hal] at hlink
        simp only [Bool.and_eq_true, decide_eq_true_eq] at hlink
        exact absurd h5 hlink.1
      | some x =>
        rw [hal] at hlink
        simp only [Bool.and_eq_true] at hlink
        exact ⟨x, rfl, jv_in_ok hlink.2⟩
    · rw [if_neg h6] at hlink
      simp only [Bool.and_eq_true, decide_eq_true_eq] at hlink
      exact absurd h5 hlink.1
  unfold jv_may at hmay
  simp only [Bool.and_eq_true, decide_eq_true_eq] at hmay
  obtain ⟨⟨hk, hn1, hn2, hn3, hf1, hf2, hw1, hw2⟩, hrec⟩ := hmay
  have hRm : fr2 + 1 ≤ R.frames ∧ 8 + (mL2 + 11) + lo2 ≤ R.locals := ⟨by omega, by omega⟩
  have hst : st.map (jv_vl (jv_ad G)) = (st.take na2).map (jv_vl (jv_ad G)) ++ (st.drop na2).map (jv_vl (jv_ad G)) := by rw [← List.map_append, List.take_append_drop]
  have hu : (st.take na2).length = na2 := by rw [List.length_take]; omega
  have hWd : ∀ g : JFrame, g.monitorRoom = 0 → 2 * g.monitorRoom + (((st.drop na2).map (jv_vl (jv_ad G))).map fun v => v.category).sum ≤ 8 := by
    intro g hg
    rw [hg, jv_wd_map]
    omega
  have hpre : ∀ U : State, U.heap = H → s.WarmedH U.vm → ∀ v : Array Value, v = ((st.take na2).reverse.map (jv_vl (jv_ad G))).toArray → jv_Pc D dA G adV L xs (st.take na2).reverse h v U := by
    intro U hU hW v hv
    refine ⟨hv, by rw [hU]; exact hR, hK.next (by rw [hU]; exact hS) hW⟩
  have kk2 : ∀ (H1 : Heap) (locs1 : List Loc), jv_Rep D dA G L xs h1 H1 → va_S (fun q => G.1 ≤ q) s.heap H1 locs1 → W p l e R s m args below meth c H1 locs1 (cells + mc) (slots + ms) Q (F0 m (pc + 3) ls ((r1.map (jv_vl (jv_ad G))).toList ++ (st.drop na2).map (jv_vl (jv_ad G)))) := by
    intro H1 locs1 a1 a2
    have a3 := kk H1 locs1 a1 a2
    rw [List.map_append] at a3
    cases r1 <;> exact a3
  rcases jv_isC_eq hci with ⟨rfl, rfl⟩ | ⟨rfl, rfl⟩ | ⟨rfl, rfl⟩
  · -- static
    have hk : kd2 = 0 := by omega
    subst hk
    have e := jv_len1 hl rfl; subst e
    have hstack : (F0 m pc ls (st.map (jv_vl (jv_ad G)))).stack = ((st.take na2).reverse.map (jv_vl (jv_ad G))).reverse ++ (st.drop na2).map (jv_vl (jv_ad G)) := by
      show st.map (jv_vl (jv_ad G)) = _
      rw [hst]
      simp
    have hps : PreS s H (jv_Pc D dA G adV L xs (st.take na2).reverse h) ((st.take na2).reverse.map (jv_vl (jv_ad G))) := ⟨jv_blind, fun U hU hW => hpre U hU hW _ rfl⟩
    rw [if_pos rfl] at w5
    by_cases hne : ne = 0
    · exact jv_back (va_runS S hM ⟨callB_of na2 hts (jv_good w1) rfl rfl rfl (hts _ w2) (hts _ (hl1 (by decide) hne)) w5 hRm, hts _ (w8 rfl)⟩ hps rfl (by rw [List.length_map, List.length_reverse]; exact hu) hsz hstack (hWd _ rfl) hdg hf) hS kk2
    · exact jv_back (va_runSN S hM ⟨va_cnB na2 hts (jv_good w1) rfl rfl rfl (hK.2.2.2.2.2.2.2.2.1 _ (hl2 (by decide) hne)) (hts _ w2) w5 hRm, hts _ (w8 rfl), trivial⟩ hps rfl (by rw [List.length_map, List.length_reverse]; exact hu) hsz hstack (hWd _ rfl) hdg hf) hS kk2
  · -- virtual
    have e := jv_len1 hl rfl; subst e
    have hkd : kd2 = 1 ∨ kd2 = 5 := by omega
    rw [if_neg (by omega)] at w5
    have hpos := w7 (by omega)
    split at hrec
    · rename_i h0; cases h0
    · split at hrec
      · rename_i a hlast
        simp only [Bool.and_eq_true, Bool.or_eq_true, decide_eq_true_eq] at hrec
        obtain ⟨ha, hrec⟩ := hrec
        split at hrec
        · rename_i dcl fs hcell
          rw [decide_eq_true_eq] at hrec
          have hdec := List.getLast?_eq_some_iff.mp hlast
          obtain ⟨u0, hu0⟩ := hdec
          have hrcv : ∃ cell : Cell, H[jv_ad G a]? = some cell ∧ cell.vm.isStatics = false ∧ s.vm.findClass (jv_own (jv_rc ow2)) = some cell.cls := by
            rw [← hrec]
            rcases ha with ha | ⟨ha, -⟩
            · have hcl9 : dcl < 10 := by
                rcases Nat.lt_or_ge dcl 10 with q | q
                · exact q
                · exfalso
                  have h9 := hR.2.2.1 a _ (hR.at ha hcell)
                  obtain ⟨r9, h10, -⟩ := h9
                  have : jv_Cl[dcl]? = none := List.getElem?_eq_none (by show 10 ≤ dcl; exact q)
                  rw [this] at h10
                  cases h10
              exact va_recv hK.1 hR.2.2.1 (jv_cls_ok dcl hcl9) (hR.at ha hcell)
            · obtain ⟨i, hi, rfl, rfl, -⟩ := jv_oldc_txt ha ((hR.2.2.2.2 a ha).symm.trans hcell)
              rw [jv_ad_txt]
              exact jv_recvS hK.txtO hi hS
          have hArr : (Value.ref (jv_ad G a) :: u0.reverse.map (jv_vl (jv_ad G))) = (st.take na2).reverse.map (jv_vl (jv_ad G)) := by rw [hu0]; simp [jv_vl]
          have hlen0 : u0.length = na2 - 1 := by
            have : (u0 ++ [Value.ref a]).length = na2 := by rw [← hu0]; exact hu
            simp only [List.length_append, List.length_cons, List.length_nil] at this
            omega
          have hstack : (F0 m pc ls (st.map (jv_vl (jv_ad G)))).stack = (u0.reverse.map (jv_vl (jv_ad G))).reverse ++ .ref (jv_ad G a) :: (st.drop na2).map (jv_vl (jv_ad G)) := by
            show st.map (jv_vl (jv_ad G)) = _
            rw [hst, hu0]
            simp [jv_vl]
          have hpv : PreV s H (jv_own (jv_rc ow2)) (jv_ad G a) (jv_Pc D dA G adV L xs (st.take na2).reverse h) (u0.reverse.map (jv_vl (jv_ad G))) := ⟨jv_blind, hrcv, fun U hU hW => hpre U hU hW _ (by rw [hArr])⟩
          rcases hkd with rfl | rfl
          · by_cases hne : ne = 0
            · exact jv_back (va_runV S hM ⟨callB_of (na2 - 1) hts (jv_good w1) rfl rfl rfl (hts _ w2) (hts _ (hl1 (by decide) hne)) w5 hRm, hts _ (w9 rfl).1, hts _ (w9 rfl).2⟩ hpv rfl (by rw [List.length_map, List.length_reverse]; exact hlen0) hsz hstack (hWd _ rfl) hdg hf) hS kk2
            · exact jv_back (va_runVN S hM ⟨va_cnB (na2 - 1) hts (jv_good w1) rfl rfl rfl (hK.2.2.2.2.2.2.2.2.1 _ (hl2 (by decide) hne)) (hts _ w2) w5 hRm, hts _ (w9 rfl).1, hts _ (w9 rfl).2⟩ hpv rfl (by rw [List.length_map, List.length_reverse]; exact hlen0) hsz hstack (hWd _ rfl) hdg hf) hS kk2
          · obtain ⟨x, hx1, hx2⟩ := hl5 rfl
            have hno : x.cls ≠ "java/lang/invoke/MethodHandle" ∧ x.cls ≠ "java/lang/invoke/VarHandle" ∧ (parseMethodDescriptor x.desc).map (fun d => d.parameters.length) = some (na2 - 1) ∧ (∃ b0 m0 r0, Cond.code x b0 m0 r0 ∈ jv_T) ∧ Cond.sameMethod x.cls x.cls x.name x.desc ∈ jv_T ∧ Cond.instanceMethod x ∈ jv_T ∧ Cond.selects (jv_own (jv_rc ow2)) x (jv_ym z).1 ∈ jv_T ∧ Cond.instanceMethod (jv_ym z).1 ∈ jv_T := by
              have hin := (w11 (Or.inr rfl)).1
              rcases jv_alt_eq hx1 hcal with ⟨rfl, rfl⟩ | ⟨rfl, rfl⟩
              · have e1 : (jv_inf 165).map (fun q => (q.1, q.2.2.1)) = some (9, 1) := by decide +kernel
                rw [hq] at e1
                cases e1
                have e2 : (jv_ym 177).1 = yJ5_length_8abf5 := by decide +kernel
                have h9 := jw_sm177
                rw [e2] at h9
                exact ⟨by decide, by decide, by decide +kernel, ⟨_, _, _, jw_oc165⟩, h9, jw_oi165, jw_os165, hin⟩
              · have e1 : (jv_inf 164).map (fun q => (q.1, q.2.2.1)) = some (9, 2) := by decide +kernel
                rw [hq] at e1
                cases e1
                have e2 : (jv_ym 170).1 = yJ5_append_cf1ce := by decide +kernel
                have h9 := jw_sm170
                rw [e2] at h9
                exact ⟨by decide, by decide, by decide +kernel, ⟨_, _, _, jw_oc164⟩, h9, jw_oi164, jw_os164, hin⟩
            obtain ⟨n1, n2, n3, ⟨b0, m0, r0, n4⟩, n5, n6, n7, n8⟩ := hno
            have hgood : GoodIn jv_T (va_wsO (jv_own ow) idx (jv_own (jv_rc ow2)) x.cls x (jv_ym z).1 (Cond.code (jv_ym z).1 (jv_ym z).2.1 mL2 (jv_ym z).2.2 :: jv_T)) := by
              refine jv_goodL (fun v hv => ?_)
              unfold va_wsO at hv
              simp only [List.cons_append, List.nil_append, List.mem_cons] at hv
              rcases hv with rfl | rfl | rfl | rfl | rfl | rfl | rfl | hv
              · exact hx2
              · exact n5
              · exact n6
              · exact n7
              · exact n8
              · exact w2
              · exact w1
              · exact hv
            exact jv_back (va_runU S hM (va_cwO (na2 - 1) hts hgood rfl rfl rfl (h0 := n4) ⟨n1, n2, n3⟩ hRm) hpv rfl (by rw [List.length_map, List.length_reverse]; exact hlen0) hsz hstack (hWd _ rfl) hdg hf) hS kk2
        · cases hrec
      · cases hrec
  · -- constructor, super call
    have e := jv_len1 hl rfl; subst e
    have hkd : kd2 = 2 ∨ kd2 = 3 := by omega
    rw [if_neg (by omega)] at w5
    split at hrec
    · rename_i h0; cases h0
    · split at hrec
      · rename_i a hlast
        simp only [Bool.and_eq_true, Bool.or_eq_true, decide_eq_true_eq] at hrec
        obtain ⟨ha, hrec⟩ := hrec
        have ha : a < h.2.1 := by
          rcases ha with ha | ⟨-, hq⟩
          · exact ha
          · cases hq
        have hdec := List.getLast?_eq_some_iff.mp hlast
        obtain ⟨u0, hu0⟩ := hdec
        have hArr : (Value.ref (jv_ad G a) :: u0.reverse.map (jv_vl (jv_ad G))) = (st.take na2).reverse.map (jv_vl (jv_ad G)) := by rw [hu0]; simp [jv_vl]
        have hlen0 : u0.length = na2 - 1 := by
          have : (u0 ++ [Value.ref a]).length = na2 := by rw [← hu0]; exact hu
          simp only [List.length_append, List.length_cons, List.length_nil] at this
          omega
        have hstack : (F0 m pc ls (st.map (jv_vl (jv_ad G)))).stack = (u0.reverse.map (jv_vl (jv_ad G))).reverse ++ .ref (jv_ad G a) :: (st.drop na2).map (jv_vl (jv_ad G)) := by
          show st.map (jv_vl (jv_ad G)) = _
          rw [hst, hu0]
          simp [jv_vl]
        rcases hkd with rfl | rfl
        · obtain ⟨x1, x2, x3⟩ := w10 rfl
          have hpv : PreS s H (jv_Pc D dA G adV L xs (st.take na2).reverse h) (.ref (jv_ad G a) :: u0.reverse.map (jv_vl (jv_ad G))) := ⟨jv_blind, fun U hU hW => hpre U hU hW _ (by rw [hArr])⟩
          rw [x3] at hM w1
          by_cases hne : ne = 0
          · exact jv_back (va_runI S hM ⟨callB_of (na2 - 1) hts (jv_good w1) rfl rfl rfl (hts _ w2) (hts _ (hl1 (by decide) hne)) w5 hRm, x2, hts _ x1⟩ hpv rfl (by rw [List.length_map, List.length_reverse]; exact hlen0) hsz hstack (hWd _ rfl) hdg hf) hS kk2
          · exact jv_back (va_runIN S hM ⟨va_cnB (na2 - 1) hts (jv_good w1) rfl rfl rfl (hK.2.2.2.2.2.2.2.2.1 _ (hl2 (by decide) hne)) (hts _ w2) w5 hRm, x2, hts _ x1⟩ hpv rfl (by rw [List.length_map, List.length_reverse]; exact hlen0) hsz hstack (hWd _ rfl) hdg hf) hS kk2
        · split at hrec
          · rename_i dcl fs hcell
            rw [decide_eq_true_eq] at hrec
            have hks := jv_cks_ok hcal
            unfold jv_cks1 at hks
            dsimp only at hks
            rw [hq] at hks
            obtain ⟨rfl, hne, hz4⟩ := (of_decide_eq_true hks) rfl
            have hsup : Cond.superclass (jv_own 9) (jv_ym z).1.cls ∈ jv_T ∧ Cond.sameMethod (jv_ym z).1.cls (jv_ym z).1.cls (jv_ym z).1.name (jv_ym z).1.desc ∈ jv_T := by
              rcases hz4 with rfl | rfl | rfl | rfl
              · have e1 : Cond.superclass (jv_own 9) (jv_ym 170).1.cls = Cond.superclass RJ4 RJ5 := by decide +kernel
                exact ⟨by rw [e1]; exact jw_sup, jw_sm170⟩
              · have e1 : Cond.superclass (jv_own 9) (jv_ym 171).1.cls = Cond.superclass RJ4 RJ5 := by decide +kernel
                exact ⟨by rw [e1]; exact jw_sup, jw_sm171⟩
              · have e1 : Cond.superclass (jv_own 9) (jv_ym 172).1.cls = Cond.superclass RJ4 RJ5 := by decide +kernel
                exact ⟨by rw [e1]; exact jw_sup, jw_sm172⟩
              · have e1 : Cond.superclass (jv_own 9) (jv_ym 177).1.cls = Cond.superclass RJ4 RJ5 := by decide +kernel
                exact ⟨by rw [e1]; exact jw_sup, jw_sm177⟩
            obtain ⟨x1, x2⟩ := w11 (Or.inl rfl)
            have hcl9 : dcl < 10 := by
              rcases Nat.lt_or_ge dcl 10 with q | q
              · exact q
              · exfalso
                have h9 := hR.2.2.1 a _ (hR.at ha hcell)
                obtain ⟨r9, h10, -⟩ := h9
                have : jv_Cl[dcl]? = none := List.getElem?_eq_none (by show 10 ≤ dcl; exact q)
                rw [this] at h10
                cases h10
            have hpv : PreV s H (jv_own dcl) (jv_ad G a) (jv_Pc D dA G adV L xs (st.take na2).reverse h) (u0.reverse.map (jv_vl (jv_ad G))) := ⟨jv_blind, va_recv hK.1 hR.2.2.1 (jv_cls_ok dcl hcl9) (hR.at ha hcell), fun U hU hW => hpre U hU hW _ (by rw [hArr])⟩
            have hgood : GoodIn jv_T (va_wsSU (jv_own 9) idx (jv_ym z).1 (Cond.code (jv_ym z).1 (jv_ym z).2.1 mL2 (jv_ym z).2.2 :: jv_T)) := by
              refine jv_goodL (fun v hv => ?_)
              unfold va_wsSU at hv
              simp only [List.cons_append, List.nil_append, List.mem_cons] at hv
              rcases hv with rfl | rfl | rfl | rfl | rfl | rfl | hv
              · exact hl1 (by decide) hne
              · exact hsup.2
              · exact hsup.1
              · exact x1
              · exact w2
              · exact w1
              · exact hv
            exact jv_back (va_runSU (hK.1.1 dcl _ (jv_cls_ok dcl hcl9)).2 S hM (va_cwSU (na2 - 1) hts hgood rfl rfl rfl ⟨x2, w5.2.2⟩ hRm) hpv rfl (by rw [List.length_map, List.length_reverse]; exact hlen0) hsz hstack (hWd _ rfl) hdg hf) hS kk2
          · cases hrec
      · cases hrec
/-- what the J machine's run says of the machine, from the middle of a method -/
def jv_OK (l : Launch) (D : va_G) (dA : Nat → ClassId) (G : jv_G) (adV : Nat → Nat) (L : Nat) (xs : Nat → Int32) (y pc : Nat) (Lv : List (Option Value)) (st : List Value) (h : jv_H) (r : Option Value) (h' : jv_H) : Prop :=
  ∀ (p : Program) (e : Env) (R : Room) (s : State) (m : MethodId) (args : Array Value) (below : List Frame) (meth : Method) (c : Code) (H : Heap) (locs : List Loc) (cells slots tc ts : Nat) (Q : State → Prop) (ls : Array Slot) (ow kd na mL fr lo : Nat),
    jv_inf y = some (ow, kd, na, mL, fr, lo) → CallFix p m c (jv_ym y).2.1 mL s args jv_T (jv_own ow) → (kd = 2 → meth.name = "<init>") → jv_Kn D dA G adV L xs s → jv_Rep D dA G L xs h H → va_S (fun q => G.1 ≤ q) s.heap H locs → jv_Lc (jv_ad G) ls mL Lv → h'.2.1 ≤ 1000000 → fr ≤ R.frames → lo ≤ R.locals →
    tc = cells + (h'.2.1 - h.2.1) → ts = slots + (h'.2.2 - h.2.2) → tc ≤ R.cells → ts ≤ R.slots →
    (∀ (H' : Heap) (locs' : List Loc) (pc' : Nat) (ls' : Array Slot) (st' : List Value) (i : Instr) (len : Nat), decode (jv_ym y).2.1 pc' = .ok (i, len) → (jv_sw i = true ∨ len = jv_len i) → jv_ret (jv_ym y).2.2 i st' = some r → jv_Rep D dA G L xs h' H' → va_S (fun q => G.1 ≤ q) s.heap H' locs' → W p l e R s m args below meth c H' locs' tc ts Q (F0 m pc' ls' (st'.map (jv_vl (jv_ad G))))) →
    W p l e R s m args below meth c H locs cells slots Q (F0 m pc ls (st.map (jv_vl (jv_ad G))))
set_option maxHeartbeats 4000000 in
/-- a method's contract out of its body -/
theorem jv_met {z ow kd na mL fr lo : Nat} (hz : z < 271) (hq : jv_inf z = some (ow, kd, na, mL, fr, lo)) {a : List Value} (ha : ∀ v ∈ a, v.category = 1) (hn : a.length ≤ mL) {h h' : jv_H} {r : Option Value} (hok : jv_OK l D dA G adV L xs z 0 (a.map some ++ List.replicate (mL - a.length) none) [] h r h') (hm : h'.2.1 ≤ 1000000) :
    Met l (jv_ym z).1 (Cond.code (jv_ym z).1 (jv_ym z).2.1 mL (jv_ym z).2.2 :: jv_T) ({ frames := fr, cells := h'.2.1 - h.2.1, slots := h'.2.2 - h.2.2, locals := lo } : Room) (jv_Pc D dA G adV L xs a h) (jv_Qc D dA G L xs r h') (h'.2.1 - h.2.1) (h'.2.2 - h.2.2) (fun q => G.1 ≤ q) := by
  obtain ⟨w1, w2, w3, w4, w5, w6, w7, w8, w9, w10, w11⟩ := jv_ckm_eq hz hq
  refine va_MetF (cc := (jv_ym z).2.1) (maxL := mL) (ret := (jv_ym z).2.2) (ws' := jv_T) w3 rfl ?_
  intro p e s m args below meth c s₁ B hml hP
  obtain ⟨rfl, hRep, hKn⟩ := hP
  have hx := B.exec
  have hb := B.bytes
  have hr := B.returns
  have hlocks := B.notSynchronized
  have hts : ∀ w ∈ jv_T, w.before (a.map (jv_vl (jv_ad G))).toArray s = true := fun w hw => atoms_spec (ws := Cond.code (jv_ym z).1 (jv_ym z).2.1 mL (jv_ym z).2.2 :: jv_T) B.pre w (List.mem_cons_of_mem _ hw)
  have hown : s.vm.findClass (jv_own ow) = some m.cls := by rw [← w4]; exact findClass_of_methodNamed B.named
  rw [lg_entry_eq]
  refine hok p e _ s m _ below meth c s.heap [] 0 0 (h'.2.1 - h.2.1) (h'.2.2 - h.2.2) _ _ ow kd na mL fr lo hq ⟨hx, hb, hml, hown, hts⟩ ?_ hKn hRep va_S.rf (jv_entry (jv_ad G) a mL ha hn) hm (Nat.le_refl _) (Nat.le_refl _) (Nat.zero_add _).symm (Nat.zero_add _).symm (Nat.le_refl _) (Nat.le_refl _) ?_
  · intro hk
    rw [(name_of_methodNamed B.named B.method).1]
    exact (w10 hk).2.1
  · intro H' locs' pc' ls' st' i len hd hl hret hR' hS'
    have hq2 : ∀ t : State, t.heap = H' → jv_Qc D dA G L xs r h' (a.map (jv_vl (jv_ad G))).toArray s (.returned (r.map (jv_vl (jv_ad G)))) t := fun t ht => ⟨rfl, by rw [ht]; exact hR', hS'.F ht⟩
    generalize hrt : (jv_ym z).2.2 = rt at hret hr
    unfold jv_ret at hret
    split at hret
    · have e := jv_len1 hl rfl; subst e
      cases hret
      exact W.vret hx hb hr (fun t ht _ => hq2 t ht) hS'.2.2 hd
    · have e := jv_len1 hl rfl; subst e
      split at hret
      · rename_i hnar
        cases hret
        exact W.zret hx hb hr hnar (fun t ht _ => hq2 t ht) hS'.2.2 hd
      · cases hret
    · have e := jv_len1 hl rfl; subst e
      cases hret
      exact W.aret hx hb hr (Or.inl ⟨_, rfl⟩) (Or.inr ⟨_, rfl⟩) (fun t ht _ => hq2 t ht) hS'.2.2 hd
    · have e := jv_len1 hl rfl; subst e
      cases hret
      exact W.aret hx hb hr (Or.inr ⟨_, rfl⟩) (Or.inr ⟨_, rfl⟩) (fun t ht _ => hq2 t ht) hS'.2.2 hd
    · have e := jv_len1 hl rfl; subst e
      cases hret
      exact W.lret hx hb hr (fun t ht _ => hq2 t ht) hS'.2.2 hd
    · have e := jv_len1 hl rfl; subst e
      cases hret
      exact W.fret hx hb hr (fun t ht _ => hq2 t ht) hS'.2.2 hd
    · have e := jv_len1 hl rfl; subst e
      cases hret
      exact W.dret hx hb hr (fun t ht _ => hq2 t ht) hS'.2.2 hd
    · cases hret
end JSM
end
section
/-! THE JDK'S MEMBERS that are no methods of the J machine: String.checkIndex, arraycopy and clone of bytes; printed by wip/p42/jstr42.py -/
theorem jw_codeCI : Cond.code yJ0_checkIndex_df160 cJ0_checkIndex_df160 2 none ∈ jv_T := jv_in_ok (i := 2170) (by decide +kernel)
theorem jw_codeC3 : Cond.code yJ3_checkIndex_8e157 cJ3_checkIndex_8e157 3 (some .int) ∈ jv_T := jv_in_ok (i := 2175) (by decide +kernel)
theorem jw_staCI : Cond.static yJ0_checkIndex_df160 ∈ jv_T := jv_in_ok (i := 2169) (by decide +kernel)
theorem jw_staC3 : Cond.static yJ3_checkIndex_8e157 ∈ jv_T := jv_in_ok (i := 2174) (by decide +kernel)
theorem jw_ini0 : Cond.initialized RJ0 ∈ jv_T := jv_in_ok (i := 1036) (by decide +kernel)
theorem jw_ini3 : Cond.initialized RJ3 ∈ jv_T := jv_in_ok (i := 1041) (by decide +kernel)
theorem jw_lC3 : Cond.methodLink RJ0 1059 yJ3_checkIndex_8e157 ∈ jv_T := jv_in_ok (i := 2173) (by decide +kernel)
theorem jw_fF : Cond.fieldLink RJ0 1053 "jdk/internal/util/Preconditions" "SIOOBE_FORMATTER" "Ljava/util/function/BiFunction;" ∈ jv_T := jv_in_ok (i := 2171) (by decide +kernel)
theorem jw_acN : Cond.native arraycopyName ∈ jv_T := jv_in_ok (i := 4176) (by decide +kernel)
theorem jw_acS : Cond.static arraycopyName ∈ jv_T := jv_in_ok (i := 4175) (by decide +kernel)
theorem jw_acI : Cond.initialized "java/lang/System" ∈ jv_T := jv_in_ok (i := 1040) (by decide +kernel)
theorem jw_clM : Cond.sameMethod "[B" "java/lang/Object" "clone" "()Ljava/lang/Object;" ∈ jv_T := jv_in_ok (i := 4165) (by decide +kernel)
theorem jw_clN : Cond.native ⟨"java/lang/Object", "clone", "()Ljava/lang/Object;"⟩ ∈ jv_T := jv_in_ok (i := 4166) (by decide +kernel)
theorem jw_clI : Cond.instanceMethod ⟨"java/lang/Object", "clone", "()Ljava/lang/Object;"⟩ ∈ jv_T := jv_in_ok (i := 4167) (by decide +kernel)
theorem jw_clS : Cond.selects "[B" ⟨"[B", "clone", "()Ljava/lang/Object;"⟩ ⟨"java/lang/Object", "clone", "()Ljava/lang/Object;"⟩ ∈ jv_T := jv_in_ok (i := 4168) (by decide +kernel)
theorem dJ0_checkIndex_df160_0 : decode cJ0_checkIndex_df160 0 = .ok (.iload_n 0, 1) := by decide +kernel
theorem dJ0_checkIndex_df160_1 : decode cJ0_checkIndex_df160 1 = .ok (.iload_n 1, 1) := by decide +kernel
theorem dJ0_checkIndex_df160_2 : decode cJ0_checkIndex_df160 2 = .ok (.getstatic 1053, 3) := by decide +kernel
theorem dJ0_checkIndex_df160_5 : decode cJ0_checkIndex_df160 5 = .ok (.invokestatic 1059, 3) := by decide +kernel
theorem dJ0_checkIndex_df160_8 : decode cJ0_checkIndex_df160 8 = .ok (.pop, 1) := by decide +kernel
theorem dJ0_checkIndex_df160_9 : decode cJ0_checkIndex_df160 9 = .ok (.return_, 1) := by decide +kernel
theorem dJ3_checkIndex_8e157_0 : decode cJ3_checkIndex_8e157 0 = .ok (.iload_n 0, 1) := by decide +kernel
theorem dJ3_checkIndex_8e157_1 : decode cJ3_checkIndex_8e157 1 = .ok (.ifCond .lt 8, 3) := by decide +kernel
theorem dJ3_checkIndex_8e157_4 : decode cJ3_checkIndex_8e157 4 = .ok (.iload_n 0, 1) := by decide +kernel
theorem dJ3_checkIndex_8e157_5 : decode cJ3_checkIndex_8e157 5 = .ok (.iload_n 1, 1) := by decide +kernel
theorem dJ3_checkIndex_8e157_6 : decode cJ3_checkIndex_8e157 6 = .ok (.if_icmp .lt 10, 3) := by decide +kernel
theorem dJ3_checkIndex_8e157_9 : decode cJ3_checkIndex_8e157 9 = .ok (.aload_n 2, 1) := by decide +kernel
theorem dJ3_checkIndex_8e157_10 : decode cJ3_checkIndex_8e157 10 = .ok (.iload_n 0, 1) := by decide +kernel
theorem dJ3_checkIndex_8e157_11 : decode cJ3_checkIndex_8e157 11 = .ok (.iload_n 1, 1) := by decide +kernel
theorem dJ3_checkIndex_8e157_12 : decode cJ3_checkIndex_8e157 12 = .ok (.invokestatic 95, 3) := by decide +kernel
theorem dJ3_checkIndex_8e157_15 : decode cJ3_checkIndex_8e157 15 = .ok (.athrow, 1) := by decide +kernel
theorem dJ3_checkIndex_8e157_16 : decode cJ3_checkIndex_8e157 16 = .ok (.iload_n 0, 1) := by decide +kernel
theorem dJ3_checkIndex_8e157_17 : decode cJ3_checkIndex_8e157 17 = .ok (.ireturn, 1) := by decide +kernel
section JST
variable {p : Program} {l : Launch} {e : Env} {R : Room} {s : State} {m : MethodId} {args : Array Value} {below : List Frame} {meth : Method} {c : Code} {H : Heap} {locs : List Loc} {cells slots : Nat} {Q : State → Prop}
variable {cc : ByteArray} {pc nL : Nat} {ls : Array Slot} {D : va_G} {dA : Nat → ClassId} {G : jv_G} {adV : Nat → Nat} {L : Nat} {xs : Nat → Int32}
def jv_Pr (D : va_G) (dA : Nat → ClassId) (G : jv_G) (adV : Nat → Nat) (L : Nat) (xs : Nat → Int32) (a : List Value) (h : jv_H) : Array Value → State → Prop := fun v U => v = a.toArray ∧ jv_Rep D dA G L xs h U.heap ∧ jv_Kn D dA G adV L xs U
theorem jv_blindR {a : List Value} {h : jv_H} : FrameBlind (jv_Pr D dA G adV L xs a h) := fun v U g mk hp => ⟨hp.1, hp.2.1, jv_Kn.same (u := U) (U := U.calling g mk v) rfl rfl hp.2.2⟩
/-- a static method of the JDK's is called -/
theorem jv_jS {own : String} (S : CallFix p m c cc nL s args jv_T own) (hK : jv_Kn D dA G adV L xs s) {h : jv_H} (hR : jv_Rep D dA G L xs h H) (hS : va_S (fun q => G.1 ≤ q) s.heap H locs) {y : MethodName} {bytes : ByteArray} {maxL index n f lo : Nat} {ret : Option FieldType} {As rest : List Value} {r : Option Value}
    (hM : Met l y (Cond.code y bytes maxL ret :: jv_T) ({ frames := f, cells := 0, slots := 0, locals := lo } : Room) (jv_Pr D dA G adV L xs As h) (jv_Qc D dA G L xs r h) 0 0 (fun q => G.1 ≤ q)) (w1 : Cond.code y bytes maxL ret ∈ jv_T) (w2 : Cond.initialized y.cls ∈ jv_T) (w3 : Cond.methodLink own index y ∈ jv_T) (w4 : Cond.static y ∈ jv_T)
    (hd : y.cls ≠ "java/lang/invoke/MethodHandle" ∧ y.cls ≠ "java/lang/invoke/VarHandle" ∧ (parseMethodDescriptor y.desc).map (fun d => d.parameters.length) = some n) (hRm : f + 1 ≤ R.frames ∧ 8 + (maxL + 11) + lo ≤ R.locals) (hn : As.length = n) (hsz : ls.size = nL) (hWd : jv_wd rest ≤ 8) (hdg : decode cc pc = .ok (.invokestatic index, 3)) (hf : cells ≤ R.cells ∧ slots ≤ R.slots)
    {st : List Value} (hst : st = As.reverse ++ rest)
    (kk : ∀ (H1 : Heap) (locs1 : List Loc), jv_Rep D dA G L xs h H1 → va_S (fun q => G.1 ≤ q) s.heap H1 locs1 → W p l e R s m args below meth c H1 locs1 cells slots Q (F0 m (pc + 3) ls ((r.map (jv_vl (jv_ad G))).toList ++ rest))) : W p l e R s m args below meth c H locs cells slots Q (F0 m pc ls st) := by
  have hts := S.2.2.2.2
  exact jv_back (va_runS S hM ⟨callB_of n hts (jv_good w1) rfl rfl rfl (hts _ w2) (hts _ w3) hd hRm, hts _ w4⟩ ⟨jv_blindR, fun U hU hW => ⟨rfl, by rw [hU]; exact hR, hK.next (by rw [hU]; exact hS) hW⟩⟩ rfl hn hsz hst (by show 2 * 0 + _ ≤ 8; unfold jv_wd at hWd; omega) hdg ⟨hf.1, hf.2⟩) hS kk
/-- a virtual method of String's is called -/
theorem jv_jV {own C : String} (S : CallFix p m c cc nL s args jv_T own) (hK : jv_Kn D dA G adV L xs s) {h : jv_H} (hR : jv_Rep D dA G L xs h H) (hS : va_S (fun q => G.1 ≤ q) s.heap H locs) {y : MethodName} {bytes : ByteArray} {maxL index n f lo b : Nat} {ret : Option FieldType} {As rest : List Value} {r : Option Value}
    (hM : Met l y (Cond.code y bytes maxL ret :: jv_T) ({ frames := f, cells := 0, slots := 0, locals := lo } : Room) (jv_Pr D dA G adV L xs (.ref b :: As) h) (jv_Qc D dA G L xs r h) 0 0 (fun q => G.1 ≤ q)) (w1 : Cond.code y bytes maxL ret ∈ jv_T) (w2 : Cond.initialized y.cls ∈ jv_T) (w3 : Cond.methodLink own index y ∈ jv_T) (w4 : Cond.instanceMethod y ∈ jv_T) (w5 : Cond.selects C y y ∈ jv_T)
    (hrv : ∃ cell : Cell, H[b]? = some cell ∧ cell.vm.isStatics = false ∧ s.vm.findClass C = some cell.cls)
    (hd : y.cls ≠ "java/lang/invoke/MethodHandle" ∧ y.cls ≠ "java/lang/invoke/VarHandle" ∧ (parseMethodDescriptor y.desc).map (fun d => d.parameters.length) = some n) (hRm : f + 1 ≤ R.frames ∧ 8 + (maxL + 11) + lo ≤ R.locals) (hn : As.length = n) (hsz : ls.size = nL) (hWd : jv_wd rest ≤ 8) (hdg : decode cc pc = .ok (.invokevirtual index, 3)) (hf : cells ≤ R.cells ∧ slots ≤ R.slots)
    {st : List Value} (hst : st = As.reverse ++ .ref b :: rest)
    (kk : ∀ (H1 : Heap) (locs1 : List Loc), jv_Rep D dA G L xs h H1 → va_S (fun q => G.1 ≤ q) s.heap H1 locs1 → W p l e R s m args below meth c H1 locs1 cells slots Q (F0 m (pc + 3) ls ((r.map (jv_vl (jv_ad G))).toList ++ rest))) : W p l e R s m args below meth c H locs cells slots Q (F0 m pc ls st) := by
  have hts := S.2.2.2.2
  exact jv_back (va_runV S hM ⟨callB_of n hts (jv_good w1) rfl rfl rfl (hts _ w2) (hts _ w3) hd hRm, hts _ w4, hts _ w5⟩ ⟨jv_blindR, hrv, fun U hU hW => ⟨rfl, by rw [hU]; exact hR, hK.next (by rw [hU]; exact hS) hW⟩⟩ rfl hn hsz hst (by show 2 * 0 + _ ≤ 8; unfold jv_wd at hWd; omega) hdg ⟨hf.1, hf.2⟩) hS kk
set_option maxRecDepth 100000 in
/-- Preconditions.checkIndex -/
theorem jv_metC3 (i n : Int32) (w : Value) (hw : w.category = 1) (h0 : ¬ i < 0) (h1 : i < n) (h : jv_H) : Met l yJ3_checkIndex_8e157 (Cond.code yJ3_checkIndex_8e157 cJ3_checkIndex_8e157 3 (some .int) :: jv_T) ({ frames := 0, cells := 0, slots := 0, locals := 0 } : Room) (jv_Pr D dA G adV L xs [.int i, .int n, w] h) (jv_Qc D dA G L xs (some (.int i)) h) 0 0 (fun q => G.1 ≤ q) := by
  refine va_MetF (cc := cJ3_checkIndex_8e157) (maxL := 3) (ret := some .int) (ws' := jv_T) (by decide +kernel) rfl ?_
  intro p e s m args below meth c s₁ B hml hP
  obtain ⟨rfl, hR, hK⟩ := hP
  have hx := B.exec
  have hb := B.bytes
  have hr := B.returns
  have hlocks := B.notSynchronized
  rw [lg_entry_eq]
  have hl := lv_entry [.int i, .int n, w] (n := 3) (by rw [jv_sl _ (by intro v hv; simp at hv; rcases hv with rfl | rfl | rfl <;> first | rfl | exact hw)]; exact Nat.le_refl 3)
  generalize ((lg_sl [.int i, .int n, w] ++ List.replicate (3 - (lg_sl [.int i, .int n, w]).length) Slot.unset).toArray) = ls at hl ⊢
  have l0 : ls[0]? = some (.val (.int i)) := hl.2.2 (0, .int i) (by simp [lv_args])
  have l1 : ls[1]? = some (.val (.int n)) := hl.2.2 (1, .int n) (by simp [lv_args, Value.category])
  refine lv_iload_n hx hb dJ3_checkIndex_8e157_0 rfl l0 ?_
  refine lv_if_lt (tgt := 9) hx hb dJ3_checkIndex_8e157_1 (by decide) (fun q => absurd q h0) (fun _ => ?_)
  refine lv_iload_n hx hb dJ3_checkIndex_8e157_4 rfl l0 ?_
  refine lv_iload_n hx hb dJ3_checkIndex_8e157_5 rfl l1 ?_
  refine lv_icmp_lt (tgt := 16) hx hb dJ3_checkIndex_8e157_6 (by decide) (fun _ => ?_) (fun q => absurd h1 q)
  refine lv_iload_n hx hb dJ3_checkIndex_8e157_16 rfl l0 ?_
  exact W.iret hx hb hr (fun t ht _ => ⟨rfl, by rw [ht]; exact hR, (va_S.rf (A := fun q => G.1 ≤ q)).F ht⟩) (fun q hq => by cases hq) dJ3_checkIndex_8e157_17
set_option maxRecDepth 100000 in
/-- String.checkIndex -/
theorem jv_metCI (i n : Int32) (h0 : ¬ i < 0) (h1 : i < n) (h : jv_H) : Met l yJ0_checkIndex_df160 (Cond.code yJ0_checkIndex_df160 cJ0_checkIndex_df160 2 none :: jv_T) ({ frames := 1, cells := 0, slots := 0, locals := 22 } : Room) (jv_Pr D dA G adV L xs [.int i, .int n] h) (jv_Qc D dA G L xs none h) 0 0 (fun q => G.1 ≤ q) := by
  refine va_MetF (cc := cJ0_checkIndex_df160) (maxL := 2) (ret := none) (ws' := jv_T) (by decide +kernel) rfl ?_
  intro p e s m args below meth c s₁ B hml hP
  obtain ⟨rfl, hR, hK⟩ := hP
  have hx := B.exec
  have hb := B.bytes
  have hr := B.returns
  have hlocks := B.notSynchronized
  have hts : ∀ w ∈ jv_T, w.before [Value.int i, .int n].toArray s = true := fun w hw => atoms_spec (ws := Cond.code yJ0_checkIndex_df160 cJ0_checkIndex_df160 2 none :: jv_T) B.pre w (List.mem_cons_of_mem _ hw)
  have hown : s.vm.findClass RJ0 = some m.cls := findClass_of_methodNamed B.named
  rw [lg_entry_eq]
  have hl := lv_entry [.int i, .int n] (n := 2) (Nat.le_of_ble_eq_true rfl)
  generalize ((lg_sl [.int i, .int n] ++ List.replicate (2 - (lg_sl [.int i, .int n]).length) Slot.unset).toArray) = ls at hl ⊢
  have l0 : ls[0]? = some (.val (.int i)) := hl.2.2 (0, .int i) (by simp [lv_args])
  have l1 : ls[1]? = some (.val (.int n)) := hl.2.2 (1, .int n) (by simp [lv_args, Value.category])
  have hS : va_S (fun q => G.1 ≤ q) s.heap s.heap [] := va_S.rf
  obtain ⟨v, hv, hZ⟩ := hK.2.2.2.2.2.2.2.2.2.2.2
  have hvc : v.category = 1 := by rcases hv with rfl | ⟨a, rfl⟩ <;> rfl
  refine lv_iload_n hx hb dJ0_checkIndex_df160_0 rfl l0 ?_
  refine lv_iload_n hx hb dJ0_checkIndex_df160_1 rfl l1 ?_
  refine va_gets hx hb hZ hS hown (hts _ jw_fF) (fun _ q => q) dJ0_checkIndex_df160_2 ?_
  refine jv_jS (n := 3) (As := [.int i, .int n, v]) (rest := []) ⟨hx, hb, hml, hown, hts⟩ hK hR hS (jv_metC3 i n v hvc h0 h1 h) jw_codeC3 jw_ini3 jw_lC3 jw_staC3 (by decide +kernel) ⟨Nat.le_refl _, Nat.le_refl _⟩ rfl hl.1 (by decide) dJ0_checkIndex_df160_5 ⟨Nat.le_refl _, Nat.le_refl _⟩ rfl (fun H1 locs1 hR1 hS1 => ?_)
  refine lv_pop (va := .int i) hx hb dJ0_checkIndex_df160_8 rfl ?_
  exact W.vret hx hb hr (fun t ht _ => ⟨rfl, by rw [ht]; exact hR1, hS1.F ht⟩) hS1.2.2 dJ0_checkIndex_df160_9
/-- bytes are copied from a row whose cells are known, into a new one; nothing is made -/
theorem jv_copyW {rest : List Value} {H0 : Heap} {A : Nat → Prop} {cl : List vw_C} {tys : List (ClassId × FieldType)} {ws : va_W} {a : Nat} (hexec : p.tables.exec = Jvm.exec) (hb : c.code = cc) (hml : c.maxLocals = ls.size) {own : String} {index : Nat} (hown : s.vm.findClass own = some m.cls) (hts : ∀ w ∈ jv_T, w.before args s = true) (hlink : Cond.methodLink own index arraycopyName ∈ jv_T)
    (hK : va_K D cl tys s) (hP : va_P D cl ws H) (hD : va_D A ws) (hS : va_S A H0 H locs) {b0 n0 : Nat} {f : Nat → Int32} {scr : Cell} {k0 : Class} {cm0 : ClassId} (hc0 : H[b0]? = some scr) (hv1 : ∀ k, scr.vm ≠ .statics k) (hv2 : scr.vm ≠ .unknown) (hk0 : s.vm.classes[scr.cls]? = some k0) (hkk0 : k0.kind = .array cm0 .byte) (hsz : n0 ≤ scr.slots.size) (hel : ∀ j, j < n0 → scr.slots[j]? = some (.int (f j)))
    (q1 t1 : Nat) {c1 : ClassId} {n1 : Nat} {g : Nat → Int32} (ha1 : ws[q1]? = some (a, .inl (c1, n1, .inl g))) (ht1 : tys[t1]? = some (c1, .byte))
    {sp dp n : Int32} (h1 : ¬ sp < 0) (h2 : ¬ dp < 0) (h3 : ¬ n < 0) (h4 : sp.toNatClampNeg + n.toNatClampNeg ≤ n0) (h5 : dp.toNatClampNeg + n.toNatClampNeg ≤ n1) (hfit : ∀ i : Nat, i < n.toNatClampNeg → fits .byte (.int (f (sp.toNatClampNeg + i))) = true)
    (hframes : 1 ≤ R.frames) (hlocals : (rest.map fun v => v.category).sum + (nativeFrameWords "java/lang/System" "arraycopy" 5 + 11) ≤ R.locals) (hdg : decode cc pc = .ok (.invokestatic index, 3))
    (kk : ∀ (H1 : Heap) (locs1 : List Loc), H1.size = H.size → va_P D cl (ws.set q1 (a, .inl (c1, n1, .inl (va_cpy f g sp.toNatClampNeg dp.toNatClampNeg n.toNatClampNeg)))) H1 → va_S A H0 H1 locs1 → W p l e R s m args below meth c H1 locs1 cells slots Q (F0 m (pc + 3) ls rest)) : W p l e R s m args below meth c H locs cells slots Q (F0 m pc ls (.int n :: .int dp :: .ref a :: .int sp :: .ref b0 :: rest)) := by
  have nn : ∀ z : Int32, ¬ z < 0 → z.toInt = (z.toNatClampNeg : Int) := by
    intro z hz
    have hz0 : (0 : Int) ≤ z.toInt := by simpa using Int32.le_iff_toInt_le.mp (Int32.not_lt.mp hz)
    show z.toInt = ((z.toInt.toNat : Nat) : Int)
    omega
  intro T hT X
  have hc1 : H[a]? = some (vp_cell c1 (n1, .inl g)) := hP q1 _ ha1
  obtain ⟨-, k1, hk1, cm1, hkk1⟩ := (hK.2 t1 _ ht1).1 n1 (fun j => .int (g j))
  obtain ⟨vm', X', step⟩ := X.arraycopy hexec hown (hts _ hlink) (hts _ jw_acN) (hts _ jw_acS) (hts _ jw_acI) (src := b0) (dst := a) (cs := scr) (cd := vp_cell c1 (n1, .inl g)) (srcPos := sp) (destPos := dp) (n := n) (by rw [hT]; exact hc0) (by rw [hT]; exact hc1)
    hv1 (fun _ h => by cases h) hv2 (fun h => by cases h) hk0 hk1 hkk0 hkk1 (by simp [refKind]) h1 h2 h3
    (by rw [nn sp h1, nn n h3]; omega)
    (by rw [nn dp h2, nn n h3]; show ¬ _ > ((arrV c1 n1 (fun j => .int (g j))).slots.size : Int); rw [arrV_size]; omega)
    (fun vm₁ _ i hi => by
      have e : scr.slots.getD (sp.toNatClampNeg + i) .null = .int (f (sp.toNatClampNeg + i)) := by
        rw [Array.getD_eq_getD_getElem?, hel _ (by omega)]
        rfl
      rw [e]
      exact ⟨hfit i hi, trivial⟩)
    (g := F0 m pc ls (.int n :: .int dp :: .ref a :: .int sp :: .ref b0 :: rest)) rfl (by rw [hml]) (rest := rest) rfl (by rw [hb]; exact hdg) hframes (by show 2 * 0 + _ + _ ≤ _; omega)
  have e1 : copied scr (vp_cell c1 (n1, .inl g)) sp dp n = vp_cell c1 (n1, .inl (va_cpy f g sp.toNatClampNeg dp.toNatClampNeg n.toNatClampNeg)) := va_copiedX (fun z => .int z) scr c1 f g hel h4
  obtain ⟨w, hw⟩ : ∃ w, w = vp_cell c1 (n1, .inl (va_cpy f g sp.toNatClampNeg dp.toNatClampNeg n.toNatClampNeg)) := ⟨_, rfl⟩
  rw [e1, ← hw] at X' step
  have hl : a < H.size := (Array.getElem?_eq_some_iff.mp hc1).1
  have hA : A a := hD.2 q1 _ ha1
  have oq : ∀ q : Nat, q ≠ a → (H.setIfInBounds a w)[q]? = H[q]? := fun q hq => by simp [Array.getElem?_setIfInBounds, Ne.symm hq]
  have eq1 : (H.setIfInBounds a w)[a]? = some (vp_cell c1 (n1, .inl (va_cpy f g sp.toNatClampNeg dp.toNatClampNeg n.toNatClampNeg))) := by simp [Array.getElem?_setIfInBounds, hl, hw]
  have hS1 : va_S A H0 (H.setIfInBounds a w) (locs ++ (scr.stretch sp.toNatClampNeg n.toNatClampNeg).zipIdx.map fun q => ⟨a, dp.toNatClampNeg + q.2⟩) := by
    refine ⟨by simp; exact hS.1, fun q g1 g2 => ?_, fun q hq => ?_⟩
    · rw [oq q (fun e => g2 (by rw [e]; exact hA))]
      exact hS.2.1 q g1 g2
    · rcases List.mem_append.mp hq with h | h
      · exact hS.2.2 q h
      · obtain ⟨z, -, hz⟩ := List.mem_map.mp h
        rw [← hz]
        exact hA
  obtain ⟨t, a1, b1⟩ := kk _ _ (by simp) (hP.set hD ha1 eq1 oq) hS1 ((T.setVm vm').setCell a w) (by rw [← hT]; rfl) X'
  exact ⟨t, step t a1, b1⟩
/-- a row of bytes is cloned: one cell more -/
theorem jv_cloneW {rest : List Value} {cl : List vw_C} {tys : List (ClassId × FieldType)} {ws : va_W} {a : Nat} (hexec : p.tables.exec = Jvm.exec) (hb : c.code = cc) (hml : c.maxLocals = ls.size) {own : String} {index : Nat} (hown : s.vm.findClass own = some m.cls) (hts : ∀ w ∈ jv_T, w.before args s = true) (hlink : Cond.methodLink own index ⟨"[B", "clone", "()Ljava/lang/Object;"⟩ ∈ jv_T) (hcl : va_Nw (.castable "[B" "java/lang/Cloneable") s)
    (hK : va_K D cl tys s) (hP : va_P D cl ws H) (q0 t0 : Nat) {cA : ClassId} {n : Nat} {f : Nat → Int32} (ha : ws[q0]? = some (a, .inl (cA, n, .inl f))) (ht : tys[t0]? = some (cA, .byte)) (hnm : s.vm.findClass "[B" = some cA) (hfit : ∀ i, i < n → fits .byte (.int (f i)) = true)
    (hframes : 1 ≤ R.frames) (hlocals : (rest.map fun v => v.category).sum + 14 ≤ R.locals) (hcells : cells + 1 ≤ R.cells) (hslots : slots + n ≤ R.slots) (hdg : decode cc pc = .ok (.invokevirtual index, 3))
    (kk : ∀ H1 : Heap, H1.size = H.size + 1 → (∀ q : Nat, q < H.size → H1[q]? = H[q]?) → H1[H.size]? = some (vp_cell cA (n, .inl f)) → W p l e R s m args below meth c H1 locs (cells + 1) (slots + n) Q (F0 m (pc + 3) ls (.ref H.size :: rest))) : W p l e R s m args below meth c H locs cells slots Q (F0 m pc ls (.ref a :: rest)) := by
  obtain ⟨c0, t0', f1, f2, f3⟩ := Cond.castable_spec (va_Nw.use (A := args) rfl hcl)
  cases hnm.symm.trans f1
  intro T hT X
  have hcell : H[a]? = some (vp_cell cA (n, .inl f)) := hP q0 _ ha
  obtain ⟨-, kA, hkA, comp, hkind⟩ := State.isArrayOf_alike X.warmed.alike ((hK.2 t0 _ ht).1 0 (fun _ => .null))
  obtain ⟨-, kS, hkS, compS, hkindS⟩ := (hK.2 t0 _ ht).1 0 (fun _ => .null)
  have hsz : (vp_cell cA (n, .inl f)).slots.size = n := by
    show (arrV _ _ _).slots.size = n
    exact arrV_size ..
  obtain ⟨vm', X', st⟩ := X.cloneArray hexec hown (hts _ hlink) (hts _ jw_clM) (hts _ jw_clN) (hts _ jw_clI) (hts _ jw_clS) (a := a) (cell := vp_cell cA (n, .inl f)) (by rw [hT]; exact hcell) (fun k h => by cases h) (fun h => by cases h) hnm f2 f3
    (fun i v hv => by
      have hk' : T.vm.classes[cA]? = some kA := hkA
      have hi : i < n := by
        have := (Array.getElem?_eq_some_iff.mp hv).1
        rw [hsz] at this
        exact this
      have hv2 : (arrV cA n (fun j => Value.int (f j))).slots[i]? = some v := hv
      rw [arrV_read _ _ hi] at hv2
      cases hv2
      show T.fitsSlot cA _ i (.int (f i)) = true
      simpa [State.fitsSlot, State.slotType?, hk', hkind] using hfit i hi)
    (g := F0 m pc ls (.ref a :: rest)) rfl (by rw [hml]) rfl (by rw [hb]; exact hdg) hframes (by show 2 * 0 + _ + 14 ≤ _; omega) hcells (by rw [hsz]; exact hslots) (hloader := Vm.clonesLoader_of_array hkS hkindS)
  rw [hsz] at X'
  obtain ⟨t, b1, b2⟩ := kk (H.push (vp_cell cA (n, .inl f))) (Array.size_push _) (fun q hq => by rw [Array.getElem?_push, if_neg (Nat.ne_of_lt hq)]) Array.getElem?_push_size ((T.setVm vm').pushCell (vp_cell cA (n, .inl f))) (by rw [← hT]; rfl) X'
  refine ⟨t, st t ?_, b2⟩
  rw [hT]
  exact b1
end JST
end
section
/-! THE J MACHINE IS RIGHT: the whole -/
theorem jw_lStr {ow idx z na ne : Nat} (h : jv_cal ow idx = some (z, na, ne)) : (z = 900 → Cond.methodLink (jv_own ow) idx Lib.objectInit ∈ jv_T) ∧ (z = 903 → Cond.methodLink (jv_own ow) idx yJ0_checkIndex_df160 ∈ jv_T) ∧ (z = 904 → Cond.methodLink (jv_own ow) idx arraycopyName ∈ jv_T) ∧ (z = 905 → Cond.methodLink (jv_own ow) idx ⟨"[B", "clone", "()Ljava/lang/Object;"⟩ ∈ jv_T) ∧ (z ≠ 900 → z ≠ 903 → z ≠ 904 → z ≠ 905 → z < 271) := by
  have hck := jv_ckc_ok h
  unfold jv_ckc1 at hck
  refine ⟨fun hz => ?_, fun hz => ?_, fun hz => ?_, fun hz => ?_, fun h0 h1 h2 h3 => ?_⟩
  · subst hz
    exact jv_in_ok hck
  · subst hz
    exact jv_in_ok hck
  · subst hz
    exact jv_in_ok hck
  · subst hz
    exact jv_in_ok hck
  · rw [if_neg h0, if_neg h1, if_neg h2, if_neg h3] at hck
    split at hck
    · simp only [Bool.and_eq_true, decide_eq_true_eq] at hck
      exact hck.1.2
    · cases hck
section JSS
variable {l : Launch} {D : va_G} {dA : Nat → ClassId} {G : jv_G} {adV : Nat → Nat} {L : Nat} {xs : Nat → Int32}
set_option maxHeartbeats 8000000 in
set_option maxRecDepth 100000 in
theorem jv_sound : ∀ (n y pc : Nat) (Lv : List (Option Value)) (st : List Value) (h h' : jv_H) (r : Option Value), jv_run n y pc Lv st h = some (r, h') → jv_OK l D dA G adV L xs y pc Lv st h r h'
  | 0, _, _, _, _, _, _, _, h0 => by cases h0
  | n + 1, y, pc, Lv, st, h, h', r, h0 => by
    intro p e R s m args below meth c H locs cells slots tc ts Q ls ow kd na mL fr lo hinf S hini hK hR hS hLv hm hfr hlo htc hts2 htcR htsR hend
    obtain ⟨ow1, kd1, na1, mL1, fr1, lo1, i, len, hinf1, hcode, hcase⟩ := jv_run_inv h0
    have he := Option.some.inj (hinf.symm.trans hinf1)
    cases he
    obtain ⟨hdg, hl⟩ := jv_code_ok hcode
    have S0 := S
    obtain ⟨hx, hb, hml, hown, hts⟩ := S0
    have hmono := jv_run_mono (n + 1) h0
    rcases hcase with ⟨hret, rfl⟩ | ⟨pc', L', st', h1, hs, hr⟩ | ⟨ck, idx, z, na', ne, hci, hcal, hz⟩
    · have e1 : tc = cells := by omega
      have e2 : ts = slots := by omega
      subst e1
      subst e2
      exact hend H locs pc ls st i len hdg hl hret hR hS
    · have m1 := jv_step_mono hs
      have m2 := jv_run_mono n hr
      refine jv_step_ok hx hb hown hts hK hR hS (fun q => hini (by simpa using q)) hLv hdg hl hs (by omega) (by omega) (by omega) ?_
      intro H' locs' ls' cells' slots' e1 e2 hR' hS' hL'
      exact jv_sound n y pc' L' st' h1 h' r hr p e R s m args below meth c H' locs' cells' slots' tc ts Q ls' ow kd na mL fr lo hinf S hini hK hR' hS' hL' hm hfr hlo (by omega) (by omega) htcR htsR hend
    · obtain ⟨q900, q903, q904, q905, qz⟩ := jw_lStr hcal
      rcases hz with ⟨hz, a, rst, rfl, hck, hf1, hl1, hr⟩ | ⟨hz, st', hst, hck, hf1, hl1, hl2, hr⟩ | ⟨hz, st', h1, hst, hck, hf1, hl1, hl2, hr⟩ | ⟨hz, st', h1, hst, hck, hf1, hl1, hl2, hr⟩ | ⟨hz0, hz1, hz2, hz3, q, r1, h1, hq, hmay, hr1, hr⟩
      · subst hck
        have hi : i = .invokespecial idx := by
          rcases jv_isC_eq hci with ⟨hk, -⟩ | ⟨hk, -⟩ | ⟨-, hi⟩
          · cases hk
          · cases hk
          · exact hi
        subst hi
        have e := jv_len1 hl rfl
        subst e
        refine W.objInit (a := jv_ad G a) (rest := rst.map (jv_vl (jv_ad G))) hx hb hown (hts _ (q900 hz)) (hts _ (jv_in_ok jv_obI)) (hts _ (jv_in_ok jv_obC)) rfl (hLv.1.trans hml.symm) rfl hdg (by omega) ?_ ?_
        · show 2 * 0 + _ + 12 ≤ R.locals
          rw [jv_wd_map]
          omega
        · exact jv_sound n y (pc + 3) Lv rst h h' r hr p e R s m args below meth c H locs cells slots tc ts Q ls ow kd na mL fr lo hinf S hini hK hR hS hLv hm hfr hlo htc hts2 htcR htsR hend
      · subst hck
        have hi : i = .invokestatic idx := by
          rcases jv_isC_eq hci with ⟨-, hi⟩ | ⟨hk, -⟩ | ⟨hk, -⟩
          · exact hi
          · cases hk
          · cases hk
        subst hi
        have e := jv_len1 hl rfl
        subst e
        obtain ⟨n2, i2, rfl, hi0, hi1⟩ := jv_cidx_eq hst
        have hWd : jv_wd (st'.map (jv_vl (jv_ad G))) ≤ 8 := by
          have h9 : jv_wd st' ≤ 8 := hl2
          unfold jv_wd
          rw [jv_wd_map]
          exact h9
        refine jv_jS (As := [.int i2, .int n2]) (n := 2) (rest := st'.map (jv_vl (jv_ad G))) S hK hR hS (jv_metCI i2 n2 (Int32.not_lt.mpr hi0) hi1 h) jw_codeCI jw_ini0 (q903 hz) jw_staCI (by decide +kernel) ⟨by show 1 + 1 ≤ R.frames; omega, by show 8 + (2 + 11) + 22 ≤ R.locals; omega⟩ rfl hLv.1 hWd hdg ⟨by omega, by omega⟩ rfl (fun H1 locs1 hR1 hS1 => ?_)
        exact jv_sound n y (pc + 3) Lv _ h h' r hr p e R s m args below meth c H1 locs1 cells slots tc ts Q ls ow kd na mL fr lo hinf S hini hK hR1 hS1 hLv hm hfr hlo htc hts2 htcR htsR hend
      · subst hck
        have hi : i = .invokestatic idx := by
          rcases jv_isC_eq hci with ⟨-, hi⟩ | ⟨hk, -⟩ | ⟨hk, -⟩
          · exact hi
          · cases hk
          · cases hk
        subst hi
        have e := jv_len1 hl rfl
        subst e
        obtain ⟨n2, dp, sp, d, sr, m0, k0, f, g, rfl, hsr, hd, hne, hesr, hed, ⟨hn0, hdp0, hsp0⟩, hb1, hb2, hfit, rfl⟩ := jv_acpy_eq hst
        have hWd : ((st'.map (jv_vl (jv_ad G))).map fun v => v.category).sum ≤ 8 := by
          rw [jv_wd_map]
          exact hl2
        have hnf : nativeFrameWords "java/lang/System" "arraycopy" 5 ≤ 21 := by decide
        have key : ∀ (scr : Cell) (k1 : Class) (cm : ClassId), H[jv_ad G sr]? = some scr → (∀ k, scr.vm ≠ .statics k) → scr.vm ≠ .unknown → s.vm.classes[scr.cls]? = some k1 → k1.kind = .array cm .byte → m0 ≤ scr.slots.size → (∀ j, j < m0 → scr.slots[j]? = some (.int (f j))) → W p l e R s m args below meth c H locs cells slots Q (F0 m pc ls ((.int n2 :: .int dp :: .ref d :: .int sp :: .ref sr :: st').map (jv_vl (jv_ad G)))) := by
          intro scr k1 cm c1 c2 c3 c4 c5 c6 c7
          refine jv_copyW (D := D) (a := jv_ad G d) (b0 := jv_ad G sr) (rest := st'.map (jv_vl (jv_ad G))) hx hb (hml.trans hLv.1.symm) hown hts (q904 hz) hK.1 hR.2.2.1 jv_ws_D hS c1 c2 c3 c4 c5 c6 c7 d 4 (hR.at hd hed) rfl hsp0 hdp0 hn0 hb1 hb2 hfit (by omega) (by omega) hdg (fun H1 locs1 z hP1 hS1 => ?_)
          exact jv_sound n y (pc + 3) Lv _ _ h' r hr p e R s m args below meth c H1 locs1 cells slots tc ts Q ls ow kd na mL fr lo hinf S hini hK (hR.put hd z hP1) hS1 hLv hm hfr hlo htc hts2 htcR htsR hend
        rcases hsr with hsr | hsr
        · have h9 := hR.2.2.1 sr _ (hR.at hsr hesr)
          obtain ⟨c2, k1, hk1, cm1, hkk1⟩ := (hK.1.2 4 _ rfl).1 m0 (fun j => .int (f j))
          exact key _ k1 cm1 h9 (fun _ h => by cases h) (fun h => by cases h) hk1 hkk1 (by show m0 ≤ (arrV _ _ _).slots.size; rw [arrV_size]; exact Nat.le_refl _) (fun j hj => by show (arrV _ _ _).slots[j]? = _; rw [arrV_read _ _ hj])
        · obtain ⟨scr, c1, ⟨c2, k1, c4, cm, c5⟩, c3, c6, -, c7, c8⟩ := (hK.oldT hsr ((hR.2.2.2.2 sr hsr).symm.trans hesr)).2
          exact key scr k1 cm (by rw [hS.2.1 _ (Array.getElem?_eq_some_iff.mp c1).1 c8]; exact c1) c2 c3 c4 c5 c6 c7
      · subst hck
        have hi : i = .invokevirtual idx := by
          rcases jv_isC_eq hci with ⟨hk, -⟩ | ⟨-, hi⟩ | ⟨hk, -⟩
          · cases hk
          · exact hi
          · cases hk
        subst hi
        have e := jv_len1 hl rfl
        subst e
        obtain ⟨a, n2, f, rst, rfl, ha, hea, hfit, rfl, rfl⟩ := jv_cln_eq hst
        have m2 := jv_run_mono n hr
        have m21 : h.2.1 + 1 ≤ h'.2.1 := m2.1
        have m22 : h.2.2 + n2 ≤ h'.2.2 := m2.2
        have hWd : ((rst.map (jv_vl (jv_ad G))).map fun v => v.category).sum ≤ 8 := by
          rw [jv_wd_map]
          exact hl2
        have hsz := hR.1
        have hadr : jv_ad G h.2.1 = H.size := by rw [hsz]; exact jv_ad_lt (by omega)
        refine jv_cloneW (D := D) (a := jv_ad G a) (rest := rst.map (jv_vl (jv_ad G))) hx hb (hml.trans hLv.1.symm) hown hts (q905 hz) hK.k3.2.2.2.2.1 hK.1 hR.2.2.1 a 4 (hR.at ha hea) rfl (hK.1.2 4 _ rfl).2 hfit (by omega) (by omega) (by omega) (by omega) hdg (fun H1 z1 o1 e1 => ?_)
        have kk := jv_sound n y (pc + 3) Lv _ _ h' r hr p e R s m args below meth c H1 locs (cells + 1) (slots + n2) tc ts Q ls ow kd na mL fr lo hinf S hini hK (hR.add (by omega) z1 o1 (by rw [← hsz]; exact e1)) (jv_grow hS z1 o1) hLv hm hfr hlo (by show tc = cells + 1 + (h'.2.1 - (h.2.1 + 1)); omega) (by show ts = slots + n2 + (h'.2.2 - (h.2.2 + n2)); omega) htcR htsR hend
        have kk2 : W p l e R s m args below meth c H1 locs (cells + 1) (slots + n2) Q (F0 m (pc + 3) ls (.ref (jv_ad G h.2.1) :: rst.map (jv_vl (jv_ad G)))) := kk
        rw [hadr] at kk2
        exact kk2
      · obtain ⟨ow2, kd2, na2, mL2, fr2, lo2⟩ := q
        have m1 := jv_run_mono n hr1
        have m2 := jv_run_mono n hr
        have hmay2 := hmay
        unfold jv_may at hmay2
        simp only [Bool.and_eq_true, decide_eq_true_eq] at hmay2
        obtain ⟨⟨-, -, hn2, hn3, -, -, -, hw2⟩, -⟩ := hmay2
        have hlen : (st.take na').reverse.length = na' := by rw [List.length_reverse, List.length_take]; omega
        have hcat : ∀ v ∈ (st.take na').reverse, v.category = 1 := by
          intro v hv
          exact jv_wd_one (st.take na') (by rw [hw2, List.length_take]; omega) v (List.mem_reverse.mp hv)
        have hok := jv_sound n z 0 _ [] h h1 r1 hr1
        have hM := jv_met (qz hz0 hz1 hz2 hz3) hq hcat (by omega) (h := h) (h' := h1) (r := r1) (by rw [hlen]; exact hok) (by omega)
        refine jv_call_ok S hK hR hS hq hcal hz0 hz1 hz2 hz3 hdg hci hl hmay hfr hlo hLv.1 hM ⟨by omega, by omega⟩ ?_
        intro H1 locs1 hR1 hS1
        exact jv_sound n y (pc + 3) Lv _ h1 h' r hr p e R s m args below meth c H1 locs1 _ _ tc ts Q ls ow kd na mL fr lo hinf S hini hK hR1 hS1 hLv hm hfr hlo (by omega) (by omega) htcR htsR hend
end JSS
end
section
/-! THE START: what the Statement gives of it, as the J machine's knowledge; printed by wip/p42/start42.py -/
def jv_flat : List Cond := flatC (Jvm.Cond.and given_1 narrow_1)
def jv_tm (i : Nat) : Term := Term.string (jv_str.getD i ("", 0, "")).1 (jv_str.getD i ("", 0, "")).2.1
def jv_pf : List Nat := [233, 242, 251, 259, 269, 279, 289, 298, 305, 315, 323, 333, 344, 353, 364, 376, 388, 399, 408, 420, 430, 441, 453, 460, 466, 472, 479, 486, 496, 508, 512, 525, 538, 550, 560, 573, 584]
theorem jv_fm1 : ∀ i, i < 37 → jv_flat[jv_pf.getD i 0]? = some (Cond.exactly (jv_tm i) "java/lang/String") := by decide +kernel
theorem jv_fl1 : ∀ i, i < 37 → Cond.exactly (jv_tm i) "java/lang/String" ∈ jv_flat := fun i hi => List.mem_of_getElem? (jv_fm1 i hi)
theorem jv_fm2 : ∀ i, i < 37 → jv_flat[jv_pf.getD i 0 + 1]? = some (Cond.eq (.field (jv_tm i) "java/lang/String" "coder" "B") (.int 0)) := by decide +kernel
theorem jv_fl2 : ∀ i, i < 37 → Cond.eq (.field (jv_tm i) "java/lang/String" "coder" "B") (.int 0) ∈ jv_flat := fun i hi => List.mem_of_getElem? (jv_fm2 i hi)
theorem jv_fm3 : ∀ i, i < 37 → jv_flat[jv_pf.getD i 0 + 2]? = some (Cond.arrayOf (.field (jv_tm i) "java/lang/String" "value" "[B") .byte) := by decide +kernel
theorem jv_fl3 : ∀ i, i < 37 → Cond.arrayOf (.field (jv_tm i) "java/lang/String" "value" "[B") .byte ∈ jv_flat := fun i hi => List.mem_of_getElem? (jv_fm3 i hi)
theorem jv_fm4 : ∀ i, i < 37 → jv_flat[jv_pf.getD i 0 + 3]? = some (Cond.eq (.length (.field (jv_tm i) "java/lang/String" "value" "[B")) (.int (Int32.ofNat (jv_lens.getD i 0)))) := by decide +kernel
theorem jv_fl4 : ∀ i, i < 37 → Cond.eq (.length (.field (jv_tm i) "java/lang/String" "value" "[B")) (.int (Int32.ofNat (jv_lens.getD i 0))) ∈ jv_flat := fun i hi => List.mem_of_getElem? (jv_fm4 i hi)
theorem jv_fm5 : ∀ i, i < 37 → ∀ j, j < jv_lens.getD i 0 → jv_flat[jv_pf.getD i 0 + 4 + j]? = some (Cond.eq (.elem (.field (jv_tm i) "java/lang/String" "value" "[B") (.int (Int32.ofNat j))) (.int ((jv_byt.getD i []).getD j 0))) := by decide +kernel
theorem jv_fl5 : ∀ i, i < 37 → ∀ j, j < jv_lens.getD i 0 → Cond.eq (.elem (.field (jv_tm i) "java/lang/String" "value" "[B") (.int (Int32.ofNat j))) (.int ((jv_byt.getD i []).getD j 0)) ∈ jv_flat := fun i hi j hj => List.mem_of_getElem? (jv_fm5 i hi j hj)
theorem jv_fl7 : Cond.eq (.static "java/lang/String" "COMPACT_STRINGS" "Z") (.int 1) ∈ jv_flat := List.mem_of_getElem? (i := 4) (by decide +kernel)
theorem jv_fl8 : Cond.isRef (.static "jdk/internal/util/Preconditions" "SIOOBE_FORMATTER" "Ljava/util/function/BiFunction;") ∈ jv_flat := List.mem_of_getElem? (i := 5) (by decide +kernel)
theorem jv_dg11 : Cond.arrayOf (.static "java/lang/Integer" "DigitOnes" "[B") .byte ∈ jv_flat := List.mem_of_getElem? (i := 10) (by decide +kernel)
theorem jv_dg12 : Cond.eq (.length (.static "java/lang/Integer" "DigitOnes" "[B")) (.int (Int32.ofNat 100)) ∈ jv_flat := List.mem_of_getElem? (i := 11) (by decide +kernel)
theorem jv_dg13 : ∀ j, j < 100 → jv_flat[12 + j]? = some (Cond.eq (.elem (.static "java/lang/Integer" "DigitOnes" "[B") (.int (Int32.ofNat j))) (.int (Int32.ofNat (48 + j % 10)))) := by decide +kernel
theorem jv_dgt1 : Cond.laysStatic "java/lang/Integer" "DigitOnes" "[B" ∈ lw_tbl := by decide +kernel
theorem jv_dg21 : Cond.arrayOf (.static "java/lang/Integer" "DigitTens" "[B") .byte ∈ jv_flat := List.mem_of_getElem? (i := 113) (by decide +kernel)
theorem jv_dg22 : Cond.eq (.length (.static "java/lang/Integer" "DigitTens" "[B")) (.int (Int32.ofNat 100)) ∈ jv_flat := List.mem_of_getElem? (i := 114) (by decide +kernel)
theorem jv_dg23 : ∀ j, j < 100 → jv_flat[115 + j]? = some (Cond.eq (.elem (.static "java/lang/Integer" "DigitTens" "[B") (.int (Int32.ofNat j))) (.int (Int32.ofNat (48 + j / 10)))) := by decide +kernel
theorem jv_dgt2 : Cond.laysStatic "java/lang/Integer" "DigitTens" "[B" ∈ lw_tbl := by decide +kernel
theorem jv_tb1 : Cond.laysStatic "java/lang/String" "COMPACT_STRINGS" "Z" ∈ lw_tbl := by decide +kernel
theorem jv_tb2 : Cond.laysStatic "jdk/internal/util/Preconditions" "SIOOBE_FORMATTER" "Ljava/util/function/BiFunction;" ∈ lw_tbl := by decide +kernel
theorem jv_tb3 : ∀ i, i < 37 → Cond.stringRef (jv_str.getD i ("", 0, "")).1 (jv_str.getD i ("", 0, "")).2.1 (jv_str.getD i ("", 0, "")).2.2 ∈ lw_tbl := by decide +kernel
theorem jv_tb4 : Cond.castable "[B" "java/lang/Cloneable" ∈ lw_tbl := by decide +kernel
theorem jv_ini6 : Cond.initialized "java/lang/Integer" ∈ jv_T := jv_in_ok (i := 1043) (by decide +kernel)
theorem jv_arrTA_spec {args : Array Value} {s : State} (h : (Cond.arrayOver (.array .int)).before args s = true) : ∃ comp c k, s.vm.findClass (FieldType.array .int).toString = some comp ∧ s.vm.classes[c]? = some k ∧ k.kind = .array comp (.array .int) ∧ s.vm.findClass ("[" ++ (FieldType.array .int).toString) = some c := by
  sorry
theorem jv_lens_lt : ∀ i, i < 37 → jv_lens.getD i 0 < 2 ^ 31 := by decide +kernel
/-- an object's text by its words: nothing is said of two being apart -/
theorem jv_Sof {args : Array Value} {s : State} {tm : Nat → Term} {A : Nat → Prop} (hex : ∀ i : Nat, i < 37 → (Cond.exactly (tm i) "java/lang/String").before args s = true) (hco : ∀ i : Nat, i < 37 → (Cond.eq (.field (tm i) "java/lang/String" "coder" "B") (.int 0)).before args s = true)
    (har : ∀ i : Nat, i < 37 → (Cond.arrayOf (.field (tm i) "java/lang/String" "value" "[B") .byte).before args s = true) (hle : ∀ i : Nat, i < 37 → (Cond.eq (.length (.field (tm i) "java/lang/String" "value" "[B")) (.int (Int32.ofNat (jv_lens.getD i 0)))).before args s = true)
    (hel : ∀ i : Nat, i < 37 → ∀ j : Nat, j < jv_lens.getD i 0 → (Cond.eq (.elem (.field (tm i) "java/lang/String" "value" "[B") (.int (Int32.ofNat j))) (.int ((jv_byt.getD i []).getD j 0))).before args s = true) (hA : ∀ a : Nat, a < s.heap.size → ¬ A a) :
    ∃ adK adV : Nat → Nat, jv_S adK adV A s s.heap ∧ ∀ i : Nat, i < 37 → (tm i).eval args s none [] s = some (.ref (adK i)) := by
  have h0 : ∀ i : Nat, ∃ q : Nat × Nat, i < 37 → (tm i).eval args s none [] s = some (.ref q.1) ∧ va_O "java/lang/String" q.1 A s s.heap ∧ va_OF "java/lang/String" "coder" "B" (.int 0) q.1 A s s.heap ∧ va_OF "java/lang/String" "value" "[B" (.ref q.2) q.1 A s s.heap ∧ va_T .byte q.2 (jv_lens.getD i 0) (fun j => .int ((jv_byt.getD i []).getD j 0)) A s s.heap := by
    intro i
    by_cases hi : i < 37
    · obtain ⟨a, c, cA, kA, q1, q2, q3, q4, q5, q6, -⟩ := Cond.exactly_spec (args := args) (first := s) (o := none) (s := s) (idx := []) (t := tm i) (cls := "java/lang/String") (hex i hi)
      obtain ⟨t, ht, hT⟩ := va_Tof (f := fun j => .int ((jv_byt.getD i []).getD j 0)) (A := A) (jv_lens_lt i hi) (har i hi) (va_eqt (hle i hi)) (fun j hj => va_eqt (hel i hi j hj)) hA
      exact ⟨(a, t), fun _ => ⟨q1, ⟨cA, q3, q5, by rw [q6]; exact q2, hA a (Array.getElem?_eq_some_iff.mp q3).1⟩, vk_OFof q1 (va_eqt (hco i hi)) hA, vk_OFof q1 ht hA, hT⟩⟩
    · exact ⟨(0, 0), fun h => absurd h hi⟩
  obtain ⟨ad, had⟩ := Classical.axiomOfChoice h0
  exact ⟨fun i => (ad i).1, fun i => (ad i).2, fun i hi => (had i hi).2, fun i hi => (had i hi).1⟩
/-- the addresses of what is old -/
def jv_adO (adK adV : Nat → Nat) (a1 a2 : Nat) (k : Nat) : Nat := if k < 100 then adK k else if k < 200 then adV (k - 100) else if k = 200 then a1 else a2
theorem jv_adO_K {adK adV : Nat → Nat} {a1 a2 i : Nat} (hi : i < 37) : jv_adO adK adV a1 a2 i = adK i := by unfold jv_adO; rw [if_pos (by omega)]
theorem jv_adO_V {adK adV : Nat → Nat} {a1 a2 i : Nat} (hi : i < 37) : jv_adO adK adV a1 a2 (100 + i) = adV i := by unfold jv_adO; rw [if_neg (by omega), if_pos (by omega), show 100 + i - 100 = i by omega]
set_option maxHeartbeats 4000000 in
set_option maxRecDepth 100000 in
theorem jv_begin {s : State} {b L : Nat} {xs : Nat → Int32} (hmo : ∀ w ∈ jv_more, w.before #[Value.ref b] s = true) (hts : ∀ w ∈ lw_tbl, w.before #[Value.ref b] s = true) (hX : va_X b L xs s s.heap) (hbl : b < s.heap.size) (hgv : (Jvm.Cond.and given_1 narrow_1).before #[Value.ref b] s = true) :
    ∃ (D : va_G) (dA : Nat → ClassId) (adK adV : Nat → Nat), jv_Kn D dA (s.heap.size, b, adK) adV L xs s := by
  have hg : ∀ w ∈ jv_flat, w.before #[Value.ref b] s = true := flat_of_before _ hgv
  have hT : ∀ w ∈ jv_T, w.before #[Value.ref b] s = true := fun w hw => (List.mem_append.mp (List.mem_filter.mp hw).1).elim (hmo w) (hts w)
  have hA : ∀ a : Nat, a < s.heap.size → ¬ (fun q : Nat => s.heap.size ≤ q) a := fun a h => Nat.not_le.mpr h
  have kn : ∀ c : Nat, c < 10 → ∃ (cC : ClassId) (iS : Nat → Nat), u_Kn s (jv_own c) (jv_fT c) (jv_fn c) cC iS := fun c h => u_known (n := jv_fn c) hT (jv_ws_in c h) (hT _ (jv_in_ok (jv_inst_ok c h).1))
  obtain ⟨c0, f0, -⟩ := kn 0 (by decide)
  have hcl : ∀ c : Nat, ∃ q : ClassId × (Nat → Nat), c < 10 → u_Kn s (jv_own c) (jv_fT c) (jv_fn c) q.1 q.2 := by
    intro c
    by_cases h : c < 10
    · obtain ⟨cC, iS, hk⟩ := kn c h
      exact ⟨(cC, iS), fun _ => hk⟩
    · exact ⟨(c0, f0), fun q => absurd q h⟩
  obtain ⟨F, hF⟩ := Classical.axiomOfChoice hcl
  obtain ⟨cI, kI, coI, i1, i2, i3⟩ := Cond.arrayClass_spec (args := #[Value.ref b]) (first := s) (o := none) (s := s) (idx := []) (hT _ (jv_in_ok jv_arrI))
  obtain ⟨cZ, kZ, coZ, z1, z2, z3⟩ := Cond.arrayClass_spec (args := #[Value.ref b]) (first := s) (o := none) (s := s) (idx := []) (hT _ (jv_in_ok jv_arrZ))
  obtain ⟨coT, cT, kT, t1, t2, t3, t4, t5⟩ := Cond.arrayOver_spec (args := #[Value.ref b]) (first := s) (o := none) (s := s) (idx := []) (hts _ jv_arrT6)
  obtain ⟨coR, cR, kR, r1, r2, r3, r4, r5⟩ := Cond.arrayOver_spec (args := #[Value.ref b]) (first := s) (o := none) (s := s) (idx := []) (hts _ jv_arrT5)
  obtain ⟨cB, kB, coB, b1, b2, b3⟩ := Cond.arrayClass_spec (args := #[Value.ref b]) (first := s) (o := none) (s := s) (idx := []) (hT _ (jv_in_ok jv_arrB))
  obtain ⟨coS, cS, kS, s1, s2, s3, s4, s5⟩ := Cond.arrayOver_spec (args := #[Value.ref b]) (first := s) (o := none) (s := s) (idx := []) (hts _ jv_arrT8)
  obtain ⟨coA, cA, kA, a1, a3, a4, a5⟩ := jv_arrTA_spec (hts _ jv_arrTA)
  obtain ⟨adK, adV, hS, hev⟩ := jv_Sof (args := #[Value.ref b]) (s := s) (tm := jv_tm) (A := fun q => s.heap.size ≤ q) (fun i hi => hg _ (jv_fl1 i hi)) (fun i hi => hg _ (jv_fl2 i hi)) (fun i hi => hg _ (jv_fl3 i hi)) (fun i hi => hg _ (jv_fl4 i hi)) (fun i hi j hj => hg _ (jv_fl5 i hi j hj)) hA
  obtain ⟨p1, hp1, hP1⟩ := va_Tof (f := fun j => .int (Int32.ofNat (48 + j % 10))) (N := 100) (A := fun q => s.heap.size ≤ q) (by decide) (hg _ jv_dg11) (va_eqt (hg _ jv_dg12)) (fun j hj => va_eqt (hg _ (List.mem_of_getElem? (jv_dg13 j hj)))) hA
  obtain ⟨p2, hp2, hP2⟩ := va_Tof (f := fun j => .int (Int32.ofNat (48 + j / 10))) (N := 100) (A := fun q => s.heap.size ≤ q) (by decide) (hg _ jv_dg21) (va_eqt (hg _ jv_dg22)) (fun j hj => va_eqt (hg _ (List.mem_of_getElem? (jv_dg23 j hj)))) hA
  refine ⟨(fun c => (F c).1, fun c => (F c).2), fun k => match k with
    | 0 => cI
    | 1 => cZ
    | 2 => cT
    | 3 => cR
    | 4 => cB
    | 5 => cS
    | _ => cA, jv_adO adK adV p1 p2, adV, ⟨?_, ?_⟩, hX, hbl, Nat.le_refl _, ?_, ?_, va_AO.of (hts _ jv_arrT6), va_AO.of (hts _ jv_arrT5), ?_, ?_, ⟨va_AO.of (hts _ jv_arrT8), fun i hi => jv_adO_V hi, ⟨?_, hP1⟩, ⟨?_, hP2⟩, va_Nw.of rfl (hts _ jv_tb4), hts _ jv_arrTA⟩, ?_⟩
  · intro c q hq
    have hc10 : c < 10 := (List.getElem?_eq_some_iff.mp hq).1
    have hq2 := (jv_cls_ok c hc10).symm.trans hq
    cases hq2
    exact hF c hc10
  · intro k q hq
    match k, hq with
    | 0, hq => cases hq; exact ⟨fun n z => ⟨fun k h => (by cases h), kI, i2, coI, i3⟩, i1⟩
    | 1, hq => cases hq; exact ⟨fun n z => ⟨fun k h => (by cases h), kZ, z2, coZ, z3⟩, z1⟩
    | 2, hq => cases hq; exact ⟨fun n z => ⟨fun k h => (by cases h), kT, t3, coT, t4⟩, kT, coT, t3, t4, t1, t5⟩
    | 3, hq => cases hq; exact ⟨fun n z => ⟨fun k h => (by cases h), kR, r3, coR, r4⟩, kR, coR, r3, r4, r1, r5⟩
    | 4, hq => cases hq; exact ⟨fun n z => ⟨fun k h => (by cases h), kB, b2, coB, b3⟩, b1⟩
    | 5, hq => cases hq; exact ⟨fun n z => ⟨fun k h => (by cases h), kS, s3, coS, s4⟩, kS, coS, s3, s4, s1, s5⟩
    | 6, hq => cases hq; exact ⟨fun n z => ⟨fun k h => (by cases h), kA, a3, coA, a4⟩, a5⟩
    | k + 7, hq => simp at hq
  · intro i hi
    have h := hS i hi
    rw [← jv_adO_K (adK := adK) (adV := adV) (a1 := p1) (a2 := p2) hi] at h
    exact h
  · intro i q hq
    have hi : i < 37 := (List.getElem?_eq_some_iff.mp hq).1
    have hd : jv_str.getD i ("", 0, "") = q := by rw [List.getD_eq_getElem?_getD, hq]; rfl
    have h1 := hts _ (jv_tb3 i hi)
    have h2 := hev i hi
    unfold jv_tm at h2
    rw [hd] at h1 h2
    show vk_R q.1 q.2.1 q.2.2 (jv_adO adK adV p1 p2 i) s
    rw [jv_adO_K hi]
    exact vk_R.of h1 h2
  · intro w hw
    have hw2 := hts w (jv_nests_in w hw)
    simp only [jv_nests, List.mem_cons, List.not_mem_nil, or_false] at hw
    rcases hw with rfl | rfl | rfl | rfl | rfl <;> exact va_Nw.of rfl hw2
  · exact va_Zof (hts _ jv_tb1) (hT _ jw_ini0) (va_eqi (hg _ jv_fl7)) hA
  · exact va_Zof (hts _ jv_dgt1) (hT _ jv_ini6) hp1 hA
  · exact va_Zof (hts _ jv_dgt2) (hT _ jv_ini6) hp2 hA
  · obtain ⟨v, hv, hr⟩ := Cond.isRef_spec (args := #[Value.ref b]) (first := s) (o := none) (s := s) (idx := []) (hg _ jv_fl8)
    refine ⟨v, ?_, va_Zof (hts _ jv_tb2) (hT _ jw_ini3) hv hA⟩
    cases v <;> first | exact Or.inl rfl | exact Or.inr ⟨_, rfl⟩ | cases hr
/-- the J machine's start -/
def jv_L0 : List (Option Value) := [some (.ref 1000000)] ++ List.replicate 10 none
def jv_h0 (L : Nat) (xs : Nat → Int32) : jv_H := (fun a => if a = 1000000 then .inl (9, L, xs) else jv_oldc a, 0, 0)
theorem jv_fix0 (L : Nat) (xs : Nat → Int32) : jv_fix L xs (jv_h0 L xs) := by
  refine ⟨rfl, fun a ha => ?_⟩
  have := jv_old_eq ha
  show (if a = 1000000 then _ else jv_oldc a) = _
  rw [if_neg (by omega)]
/-- the law's run in the J machine answers 1, within the room -/
def jv_law (N : Nat) : Prop := ∀ (L : Nat) (xs : Nat → Int32), L ≤ N → ∃ (n : Nat) (h' : jv_H), jv_run n 271 0 jv_L0 [] (jv_h0 L xs) = some (some (.int 1), h') ∧ h'.2.1 ≤ 600000 ∧ h'.2.2 ≤ 7302250
end
section
/-! THE J MACHINE, MOVED: a run over places 0, 1 .. is a run over places B 0, B 1 .. (apart from each other), with other cells beside; new ones come on top -/
def jm_p (B : Nat → Nat) (a : Nat) : Nat := if a < 1000000 then B a else a
def jm_v (B : Nat → Nat) (v : Value) : Value := match v with
  | .ref a => .ref (jm_p B a)
  | w => w
def jm_c (B : Nat → Nat) (x : jv_E) : jv_E := match x with
  | .inl q => .inl q
  | .inr (.inl (ty, n, f)) => .inr (.inl (ty, n, fun j => (f j).map (jm_p B)))
  | .inr (.inr (c, fs)) => .inr (.inr (c, fs.map (jm_v B)))
/-- the heap H holds h's cells at places B 0, B 1 .., and the same old ones -/
def jm_S (B : Nat → Nat) (h H : jv_H) : Prop := (∀ a, a < h.2.1 ∨ 1000000 ≤ a → H.1 (jm_p B a) = jm_c B (h.1 a)) ∧ (h.2.1 ≤ H.2.1 ∧ (∀ a, a < h.2.1 → B a < H.2.1) ∧ ∀ a b, a < h.2.1 → b < h.2.1 → B a = B b → a = b) ∧ H.2.1 ≤ 1000000
/-- new cells: B counts on from b as h does from a -/
def jm_A (B : Nat → Nat) (a b : Nat) : Prop := ∀ i, B (a + i) = b + i
theorem jm_A.next {B : Nat → Nat} {a b a1 b1 : Nat} (h : jm_A B a b) (h1 : a ≤ a1) (h2 : b1 = b + (a1 - a)) : jm_A B a1 b1 := by
  intro i
  have h3 := h (a1 - a + i)
  rw [show a + (a1 - a + i) = a1 + i by omega] at h3
  omega
theorem jm_hal1 {B : Nat → Nat} {h h1 h' H : jv_H} (hal : h'.2.1 = h.2.1 ∨ jm_A B h.2.1 H.2.1) (m1 : h.2.1 ≤ h1.2.1) (m2 : h1.2.1 ≤ h'.2.1) : h1.2.1 = h.2.1 ∨ jm_A B h.2.1 H.2.1 := hal.imp (fun q => by omega) id
theorem jm_hal2 {B : Nat → Nat} {h h1 h' H H1 : jv_H} (hal : h'.2.1 = h.2.1 ∨ jm_A B h.2.1 H.2.1) (m1 : h.2.1 ≤ h1.2.1) (m2 : h1.2.1 ≤ h'.2.1) (f : H1.2.1 = H.2.1 + (h1.2.1 - h.2.1)) : h'.2.1 = h1.2.1 ∨ jm_A B h1.2.1 H1.2.1 := hal.imp (fun q => by omega) (fun q => q.next m1 f)
theorem jm_v_ref (B : Nat → Nat) (a : Nat) : jm_v B (.ref a) = .ref (jm_p B a) := rfl
theorem jm_v_int (B : Nat → Nat) (a : Int32) : jm_v B (.int a) = .int a := rfl
theorem jm_v_long (B : Nat → Nat) (a : Int64) : jm_v B (.long a) = .long a := rfl
theorem jm_v_double (B : Nat → Nat) (a : UInt64) : jm_v B (.double a) = .double a := rfl
theorem jm_v_null (B : Nat → Nat) : jm_v B .null = .null := rfl
theorem jm_cat (B : Nat → Nat) (v : Value) : (jm_v B v).category = v.category := by cases v <;> rfl
theorem jm_lt {B : Nat → Nat} {a : Nat} {h H : jv_H} (hS : jm_S B h H) (ha : a < h.2.1) : jm_p B a = B a ∧ B a < H.2.1 := by
  have h1 := hS.2.1.1
  have h2 := hS.2.2
  unfold jm_p
  rw [if_pos (by omega)]
  exact ⟨rfl, hS.2.1.2.1 a ha⟩
theorem jm_big {B : Nat → Nat} {a : Nat} (ha : 1000000 ≤ a) : jm_p B a = a := by
  unfold jm_p
  rw [if_neg (by omega)]
theorem jm_inj {B : Nat → Nat} {a b : Nat} {h H : jv_H} (hS : jm_S B h H) (ha : a < h.2.1) (hb : b < h.2.1 ∨ 1000000 ≤ b) (e : jm_p B a = jm_p B b) : a = b := by
  obtain ⟨e1, h1⟩ := jm_lt hS ha
  have h2 := hS.2.2
  rw [e1] at e
  rcases hb with hb | hb
  · rw [(jm_lt hS hb).1] at e
    exact hS.2.1.2.2 a b ha hb e
  · rw [jm_big hb] at e
    omega
theorem jm_pure {B : Nat → Nat} {i : Instr} {st st' : List Value} (h : jv_pure i st = some st') : jv_pure i (st.map (jm_v B)) = some (st'.map (jm_v B)) := by
  unfold jv_pure at h ⊢
  split at h
  all_goals first
    | (cases h; done)
    | (cases h; rfl)
    | (obtain ⟨y, x, r, rfl, rfl⟩ := jv_two_eq h; rfl)
    | (split at h
       all_goals first
         | (cases h; done)
         | (cases h; rfl)
         | (rename_i hq
            cases h
            first
              | (exact if_pos hq)
              | (exact if_neg hq))
         | (split at h
            all_goals first
              | (cases h; done)
              | (rename_i hq
                 cases h
                 first
                   | (exact if_neg hq)
                   | (exact if_pos hq))))
theorem jm_get {B : Nat → Nat} {L : List (Option Value)} {i : Nat} {v : Value} (h : L[i]? = some (some v)) : (L.map (Option.map (jm_v B)))[i]? = some (some (jm_v B v)) := by
  rw [List.getElem?_map, h]
  rfl
theorem jm_ldI {B : Nat → Nat} {L : List (Option Value)} {i : Nat} {st st' : List Value} (h : jv_ldI L i st = some st') : jv_ldI (L.map (Option.map (jm_v B))) i (st.map (jm_v B)) = some (st'.map (jm_v B)) := by
  obtain ⟨x, h1, rfl⟩ := jv_ldI_eq h
  unfold jv_ldI
  rw [jm_get h1]
  rfl
theorem jm_ldA {B : Nat → Nat} {L : List (Option Value)} {i : Nat} {st st' : List Value} (h : jv_ldA L i st = some st') : jv_ldA (L.map (Option.map (jm_v B))) i (st.map (jm_v B)) = some (st'.map (jm_v B)) := by
  obtain ⟨x, h1, rfl⟩ := jv_ldA_eq h
  unfold jv_ldA
  rw [jm_get h1]
  rfl
theorem jm_ldD {B : Nat → Nat} {L : List (Option Value)} {i : Nat} {st st' : List Value} (h : jv_ldD L i st = some st') : jv_ldD (L.map (Option.map (jm_v B))) i (st.map (jm_v B)) = some (st'.map (jm_v B)) := by
  obtain ⟨x, h1, rfl⟩ := jv_ldD_eq h
  unfold jv_ldD
  rw [jm_get h1]
  rfl
theorem jm_ldL {B : Nat → Nat} {L : List (Option Value)} {i : Nat} {st st' : List Value} (h : jv_ldL L i st = some st') : jv_ldL (L.map (Option.map (jm_v B))) i (st.map (jm_v B)) = some (st'.map (jm_v B)) := by
  obtain ⟨x, h1, rfl⟩ := jv_ldL_eq h
  unfold jv_ldL
  rw [jm_get h1]
  rfl
theorem jm_ld {B : Nat → Nat} {i : Instr} {L : List (Option Value)} {st st' : List Value} (h : jv_ld i L st = some st') : jv_ld i (L.map (Option.map (jm_v B))) (st.map (jm_v B)) = some (st'.map (jm_v B)) := by
  unfold jv_ld at h ⊢
  split at h
  all_goals first
    | exact jm_ldI h
    | exact jm_ldA h
    | exact jm_ldD h
    | exact jm_ldL h
    | cases h
theorem jm_jmp {B : Nat → Nat} {pc : Nat} {off : Int} {st : List Value} {t : Nat × List Value} (h : jv_jmp pc off st = some t) : jv_jmp pc off (st.map (jm_v B)) = some (t.1, t.2.map (jm_v B)) := by
  unfold jv_jmp at h ⊢
  split at h
  · rename_i hq
    cases h
    exact if_pos hq
  · cases h
theorem jm_br {B : Nat → Nat} {i : Instr} {pc : Nat} {st : List Value} {t : Nat × List Value} (h : jv_br i pc st = some t) : jv_br i pc (st.map (jm_v B)) = some (t.1, t.2.map (jm_v B)) := by
  unfold jv_br at h ⊢
  split at h
  · split at h
    · exact jm_jmp h
    · cases h
  · exact jm_jmp h
  · split at h
    · split at h
      · rename_i u hj
        have hj2 := jm_jmp (B := B) hj
        simp only [List.map_cons, jm_v_ref, jm_v_int, jm_v_long, jm_v_null, jm_v_double, hj2]
        rcases jv_if_eq h with ⟨hc, rfl⟩ | ⟨hc, rfl⟩
        · rw [if_pos hc]
        · rw [hc]; rfl
      · cases h
    · cases h
  · split at h
    · split at h
      · rename_i u hj
        have hj2 := jm_jmp (B := B) hj
        simp only [List.map_cons, jm_v_ref, jm_v_int, jm_v_long, jm_v_null, jm_v_double, hj2]
        rcases jv_if_eq h with ⟨hc, rfl⟩ | ⟨hc, rfl⟩
        · rw [if_pos hc]
        · rw [hc]; rfl
      · cases h
    · cases h
  · split at h
    · simp only [List.map_cons, jm_v_ref, jm_v_int, jm_v_long, jm_v_null, jm_v_double]
      split at h
      · rename_i hq
        rw [if_pos hq]
        exact jm_jmp h
      · rename_i hq
        rw [if_neg hq]
        split at h
        · rename_i off ho
          first
            | (rw [ho]; exact jm_jmp h)
            | exact jm_jmp h
        · cases h
    · cases h
  · split at h
    · simp only [List.map_cons, jm_v_ref, jm_v_int, jm_v_long, jm_v_null, jm_v_double]
      split at h
      · rename_i hq
        rw [if_pos hq]
        exact jm_jmp h
      · cases h
    · cases h
  · cases h
theorem jm_cat2 (B : Nat → Nat) (L : List (Option Value)) (i : Nat) : jv_cat2 (L.map (Option.map (jm_v B))) i = jv_cat2 L i := by
  unfold jv_cat2
  rw [List.getElem?_map]
  cases L[i]? with
  | none => rfl
  | some v => cases v with
    | none => rfl
    | some v => cases v <;> rfl
theorem jm_set1 {B : Nat → Nat} {L L' : List (Option Value)} {i : Nat} {v : Value} (h : jv_set1 L i v = some L') : jv_set1 (L.map (Option.map (jm_v B))) i (jm_v B v) = some (L'.map (Option.map (jm_v B))) := by
  unfold jv_set1 at h ⊢
  rw [List.length_map]
  split at h
  · rename_i hi
    rw [if_pos hi]
    split at h
    · cases h
      simp [List.map_set]
    · rw [jm_cat2]
      split at h
      · cases h
      · rename_i hc
        rw [if_neg hc]
        cases h
        simp [List.map_set]
  · cases h
theorem jm_set2 {B : Nat → Nat} {L L' : List (Option Value)} {i : Nat} {v : Value} (h : jv_set2 L i v = some L') : jv_set2 (L.map (Option.map (jm_v B))) i (jm_v B v) = some (L'.map (Option.map (jm_v B))) := by
  unfold jv_set2 at h ⊢
  rw [List.length_map]
  split at h
  · rename_i hi
    rw [if_pos hi]
    split at h
    · cases h
      simp [List.map_set]
    · rw [jm_cat2]
      split at h
      · cases h
      · rename_i hc
        rw [if_neg hc]
        cases h
        simp [List.map_set]
  · cases h
theorem jm_sto {B : Nat → Nat} {i : Instr} {L L' : List (Option Value)} {st st' : List Value} (h : jv_sto i L st = some (L', st')) : jv_sto i (L.map (Option.map (jm_v B))) (st.map (jm_v B)) = some (L'.map (Option.map (jm_v B)), st'.map (jm_v B)) := by
  have kI : ∀ {k : Nat}, jv_stI L k st = some (L', st') → jv_stI (L.map (Option.map (jm_v B))) k (st.map (jm_v B)) = some (L'.map (Option.map (jm_v B)), st'.map (jm_v B)) := by
    intro k h
    obtain ⟨x, rfl, h1⟩ := jv_stI_eq h
    have h2 := jm_set1 (B := B) h1
    unfold jv_stI
    simp only [List.map_cons, jm_v_ref, jm_v_int, jm_v_long, jm_v_null, jm_v_double] at h2 ⊢
    rw [h2]
  have kA : ∀ {k : Nat}, jv_stA L k st = some (L', st') → jv_stA (L.map (Option.map (jm_v B))) k (st.map (jm_v B)) = some (L'.map (Option.map (jm_v B)), st'.map (jm_v B)) := by
    intro k h
    obtain ⟨x, rfl, h1⟩ := jv_stA_eq h
    have h2 := jm_set1 (B := B) h1
    unfold jv_stA
    simp only [List.map_cons, jm_v_ref, jm_v_int, jm_v_long, jm_v_null, jm_v_double] at h2 ⊢
    rw [h2]
  have kD : ∀ {k : Nat}, jv_stD L k st = some (L', st') → jv_stD (L.map (Option.map (jm_v B))) k (st.map (jm_v B)) = some (L'.map (Option.map (jm_v B)), st'.map (jm_v B)) := by
    intro k h
    obtain ⟨x, rfl, h1⟩ := jv_stD_eq h
    have h2 := jm_set2 (B := B) h1
    unfold jv_stD
    simp only [List.map_cons, jm_v_ref, jm_v_int, jm_v_long, jm_v_null, jm_v_double] at h2 ⊢
    rw [h2]
  have kL : ∀ {k : Nat}, jv_stL L k st = some (L', st') → jv_stL (L.map (Option.map (jm_v B))) k (st.map (jm_v B)) = some (L'.map (Option.map (jm_v B)), st'.map (jm_v B)) := by
    intro k h
    obtain ⟨x, rfl, h1⟩ := jv_stL_eq h
    have h2 := jm_set2 (B := B) h1
    unfold jv_stL
    simp only [List.map_cons, jm_v_ref, jm_v_int, jm_v_long, jm_v_null, jm_v_double] at h2 ⊢
    rw [h2]
  unfold jv_sto at h ⊢
  split at h
  · exact kI h
  · exact kI h
  · exact kA h
  · exact kA h
  · exact kD h
  · exact kD h
  · exact kL h
  · exact kL h
  · split at h
    · rename_i x hx1
      rw [jm_get hx1]
      dsimp only [jm_v_ref, jm_v_int, jm_v_long, jm_v_null, jm_v_double]
      split at h
      · rename_i h1
        cases h
        have h2 := jm_set1 (B := B) h1
        simp only [jm_v_ref, jm_v_int, jm_v_long, jm_v_null, jm_v_double] at h2
        rw [h2]
      · cases h
    · cases h
  · cases h
/-- what else: the counts, and the cells beside -/
def jm_F (B : Nat → Nat) (h h' H H' : jv_H) : Prop := H'.2.1 = H.2.1 + (h'.2.1 - h.2.1) ∧ H'.2.2 = H.2.2 + (h'.2.2 - h.2.2) ∧ ∀ a, a < 1000000 → (∀ b, b < h'.2.1 → B b ≠ a) → H'.1 a = H.1 a
theorem jm_F.rf {B : Nat → Nat} {h H : jv_H} : jm_F B h h H H := ⟨by omega, by omega, fun _ _ _ => rfl⟩
theorem jm_S.put {B : Nat → Nat} {h H : jv_H} (hS : jm_S B h H) {a : Nat} (ha : a < h.2.1) (x : jv_E) : jm_S B (jv_put h a x) (jv_put H (jm_p B a) (jm_c B x)) := by
  refine ⟨fun b hb => ?_, hS.2⟩
  show jv_up H.1 (jm_p B a) (jm_c B x) (jm_p B b) = jm_c B (jv_up h.1 a x b)
  unfold jv_up
  by_cases e : b = a
  · subst e
    rw [if_pos rfl, if_pos rfl]
  · rw [if_neg e, if_neg (fun q => e (jm_inj hS ha hb q.symm).symm)]
    exact hS.1 b hb
theorem jm_F.put {B : Nat → Nat} {h H : jv_H} (hS : jm_S B h H) {a : Nat} (ha : a < h.2.1) (x y : jv_E) : jm_F B h (jv_put h a x) H (jv_put H (jm_p B a) y) := by
  refine ⟨by show H.2.1 = H.2.1 + (h.2.1 - h.2.1); omega, by show H.2.2 = H.2.2 + (h.2.2 - h.2.2); omega, fun b h1 h2 => ?_⟩
  show jv_up H.1 (jm_p B a) y b = H.1 b
  unfold jv_up
  rw [(jm_lt hS ha).1, if_neg (fun e => h2 a ha e.symm)]
theorem jm_S.add {B : Nat → Nat} {h H : jv_H} (hS : jm_S B h H) (he : jm_A B h.2.1 H.2.1) (hm : H.2.1 + 1 ≤ 1000000) (x : jv_E) (n : Nat) : jm_S B (jv_add h x n) (jv_add H (jm_c B x) n) := by
  have h0 : B h.2.1 = H.2.1 := he 0
  obtain ⟨s1, ⟨s2, s3, s4⟩, s5⟩ := hS
  refine ⟨fun b hb => ?_, ⟨Nat.succ_le_succ s2, fun a ha => ?_, fun a b ha hb e => ?_⟩, hm⟩
  · have hb2 : b < h.2.1 + 1 ∨ 1000000 ≤ b := hb
    show jv_up H.1 H.2.1 (jm_c B x) (jm_p B b) = jm_c B (jv_up h.1 h.2.1 x b)
    unfold jv_up
    by_cases e : b = h.2.1
    · subst e
      have : jm_p B h.2.1 = H.2.1 := by
        unfold jm_p
        rw [if_pos (by omega)]
        exact h0
      rw [this, if_pos rfl, if_pos rfl]
    · have : ¬ jm_p B b = H.2.1 := by
        unfold jm_p
        split
        · have := s3 b (by omega)
          omega
        · omega
      rw [if_neg e, if_neg this]
      exact s1 b (by omega)
  · have ha2 : a < h.2.1 + 1 := ha
    show B a < H.2.1 + 1
    by_cases e : a = h.2.1
    · subst e; omega
    · have := s3 a (by omega)
      omega
  · have ha2 : a < h.2.1 + 1 := ha
    have hb2 : b < h.2.1 + 1 := hb
    by_cases e1 : a = h.2.1
    · by_cases e2 : b = h.2.1
      · omega
      · have := s3 b (by omega)
        subst e1
        omega
    · by_cases e2 : b = h.2.1
      · have := s3 a (by omega)
        subst e2
        omega
      · exact s4 a b (by omega) (by omega) e
theorem jm_F.add {B : Nat → Nat} {h H : jv_H} (he : jm_A B h.2.1 H.2.1) (x y : jv_E) (n : Nat) : jm_F B h (jv_add h x n) H (jv_add H y n) := by
  refine ⟨by show H.2.1 + 1 = H.2.1 + (h.2.1 + 1 - h.2.1); omega, by show H.2.2 + n = H.2.2 + (h.2.2 + n - h.2.2); omega, fun b h1 h2 => ?_⟩
  have h3 : B h.2.1 ≠ b := h2 h.2.1 (Nat.lt_succ_self _)
  have h0 : B h.2.1 = H.2.1 := he 0
  show jv_up H.1 H.2.1 y b = H.1 b
  unfold jv_up
  rw [if_neg (by omega)]
theorem jm_F.trans {B : Nat → Nat} {h h1 h2 H H1 H2 : jv_H} (a : jm_F B h h1 H H1) (b : jm_F B h1 h2 H1 H2) (m1 : h.2.1 ≤ h1.2.1 ∧ h.2.2 ≤ h1.2.2) (m2 : h1.2.1 ≤ h2.2.1 ∧ h1.2.2 ≤ h2.2.2) : jm_F B h h2 H H2 := by
  obtain ⟨a1, a2, a3⟩ := a
  obtain ⟨b1, b2, b3⟩ := b
  exact ⟨by omega, by omega, fun q h3 h4 => (b3 q h3 h4).trans (a3 q h3 (fun b hb => h4 b (by omega)))⟩
theorem jm_addn {B : Nat → Nat} : ∀ (k m : Nat) (h H : jv_H), jm_S B h H → jm_A B h.2.1 H.2.1 → H.2.1 + k ≤ 1000000 → jm_S B (jv_addn h k m) (jv_addn H k m) ∧ jm_F B h (jv_addn h k m) H (jv_addn H k m)
  | 0, m, h, H, hS, he, hm => ⟨hS, jm_F.rf⟩
  | k + 1, m, h, H, hS, he, hm => by
    have h1 := hS.add he (by omega) (.inl (0, m, fun _ => 0)) m
    have h2 := jm_addn k m _ _ h1 (he.next (a1 := h.2.1 + 1) (b1 := H.2.1 + 1) (by omega) (by omega)) (by show H.2.1 + 1 + k ≤ 1000000; omega)
    have e := jv_addn_eq k m (jv_add h (.inl (0, m, fun _ => 0)) m)
    have e2 := jv_addn_eq (k + 1) m h
    refine ⟨h2.1, (jm_F.add he (.inl (0, m, fun _ => 0)) _ m).trans h2.2 ⟨Nat.le_succ _, Nat.le_add_right _ _⟩ ⟨?_, ?_⟩⟩
    · show (jv_add h (.inl (0, m, fun _ => 0)) m).2.1 ≤ (jv_addn (jv_add h (.inl (0, m, fun _ => 0)) m) k m).2.1
      rw [e.1]
      exact Nat.le_add_right _ _
    · show (jv_add h (.inl (0, m, fun _ => 0)) m).2.2 ≤ (jv_addn (jv_add h (.inl (0, m, fun _ => 0)) m) k m).2.2
      rw [e.2]
      exact Nat.le_add_right _ _
theorem jm_acc {B : Nat → Nat} {a : Nat} {h H : jv_H} (hS : jm_S B h H) (ha : a < h.2.1 ∨ jv_old a = true) : (jm_p B a < H.2.1 ∨ jv_old (jm_p B a) = true) ∧ H.1 (jm_p B a) = jm_c B (h.1 a) := by
  rcases ha with ha | ha
  · exact ⟨Or.inl (by rw [(jm_lt hS ha).1]; exact (jm_lt hS ha).2), hS.1 a (Or.inl ha)⟩
  · have h1 := jv_old_eq ha
    exact ⟨Or.inr (by rw [jm_big (by omega)]; exact ha), hS.1 a (Or.inr (by omega))⟩
theorem jm_accN {B : Nat → Nat} {a : Nat} {h H : jv_H} (hS : jm_S B h H) (ha : a < h.2.1) : jm_p B a < H.2.1 ∧ H.1 (jm_p B a) = jm_c B (h.1 a) := ⟨by rw [(jm_lt hS ha).1]; exact (jm_lt hS ha).2, hS.1 a (Or.inl ha)⟩
/-- what an instruction on cells comes to, moved -/
def jm_R (B : Nat → Nat) (ow : Nat) (ini : Bool) (i : Instr) (st st' : List Value) (h h' H : jv_H) : Prop := ∃ H', jv_heap ow ini i (st.map (jm_v B)) H = some (st'.map (jm_v B), H') ∧ jm_S B h' H' ∧ jm_F B h h' H H'
theorem jm_fits (B : Nat → Nat) (ty : FieldType) (v : Value) : fits ty (jm_v B v) = fits ty v := by
  cases v <;> first | rfl | (cases ty <;> rfl)
theorem jm_narrow (B : Nat → Nat) (ty : FieldType) (v : Value) (h : narrow ty v = v) : narrow ty (jm_v B v) = jm_v B v := by
  cases v <;> first | exact h | (cases ty <;> rfl)
theorem jm_default (B : Nat → Nat) (ty : FieldType) : jm_v B (defaultValue ty) = defaultValue ty := by
  cases ty <;> rfl
section JMH
variable {B : Nat → Nat} {ow : Nat} {ini : Bool} {st st' : List Value} {h h' H : jv_H}
theorem jm_getfield (hS : jm_S B h H) {idx : Nat} (h0 : jv_heap ow ini (.getfield idx) st h = some (st', h')) : jm_R B ow ini (.getfield idx) st st' h h' H := by
  unfold jv_heap at h0
  dsimp only at h0
  split at h0
  · rename_i st1 hg
    cases h0
    obtain ⟨a, r, cx, k, fs, v, rfl, hf, ha, he, hv, rfl⟩ := jv_get_eq hg
    obtain ⟨c1, c2⟩ := jm_acc hS ha
    refine ⟨H, ?_, hS, jm_F.rf⟩
    unfold jv_heap jv_get
    simp only [List.map_cons, jm_v_ref, jm_v_int, jm_v_long, jm_v_null, jm_v_double, hf]
    rw [if_pos c1, c2, he]
    simp only [jm_c, List.getElem?_map, hv, if_true, Option.map_some]
  · cases h0
theorem jm_putfield (hS : jm_S B h H) {idx : Nat} (h0 : jv_heap ow ini (.putfield idx) st h = some (st', h')) : jm_R B ow ini (.putfield idx) st st' h h' H := by
  unfold jv_heap at h0
  dsimp only at h0
  obtain ⟨v, a, cx, k, fs, rfl, hf, ha, he, hkl, hn, hfi, hfin, rfl⟩ := jv_set_eq h0
  obtain ⟨c1, c2⟩ := jm_accN hS ha
  refine ⟨jv_put H (jm_p B a) (jm_c B (.inr (.inr (cx, fs.set k v)))), ?_, hS.put ha _, jm_F.put hS ha _ _⟩
  unfold jv_heap jv_set
  simp only [List.map_cons]
  show (match jv_fld ow idx with
    | some (c, k) => _
    | none => none) = _
  rw [hf]
  dsimp only [jm_v_ref, jm_v_int, jm_v_long, jm_v_null, jm_v_double]
  rw [if_pos ⟨c1, jm_narrow B _ _ hn, by rw [jm_fits]; exact hfi, hfin⟩, c2, he]
  simp only [jm_c, List.length_map, List.map_set]
  rw [if_pos ⟨by first | rfl | trivial, hkl⟩]
theorem jm_iaload (hS : jm_S B h H) (h0 : jv_heap ow ini .iaload st h = some (st', h')) : jm_R B ow ini .iaload st st' h h' H := by
  unfold jv_heap at h0
  dsimp only at h0
  split at h0
  · rename_i j a r
    split at h0
    · rename_i ha
      split at h0
      · rename_i ty n f he
        split at h0
        · rename_i hq
          cases h0
          refine ⟨H, ?_, hS, jm_F.rf⟩
          unfold jv_heap
          simp only [List.map_cons, jm_v_ref, jm_v_int, jm_v_long, jm_v_null, jm_v_double]
          rcases ha with ha | ⟨rfl, how⟩
          · obtain ⟨c1, c2⟩ := jm_accN hS ha
            rw [if_pos (Or.inl c1), c2, he]
            simp only [jm_c]
            have h6 := hS.2.1.1
            have h7 := hS.2.2
            have t0 : ty = 0 := by
              rcases hq.1 with ⟨q, -⟩ | ⟨-, q⟩
              · exact q
              · exact absurd q (Nat.ne_of_lt (Nat.lt_of_lt_of_le ha (Nat.le_trans h6 h7)))
            rw [if_pos ⟨Or.inl ⟨t0, c1⟩, hq.2⟩]
          · rw [jm_big (B := B) (a := 1000000) (by omega), if_pos (Or.inr ⟨rfl, how⟩)]
            have c2 := hS.1 1000000 (Or.inr (by omega))
            rw [jm_big (B := B) (a := 1000000) (by omega)] at c2
            have h6 := hS.2.1.1
            have h7 := hS.2.2
            have t9 : ty = 9 := by
              rcases hq.1 with ⟨-, q⟩ | ⟨q, -⟩
              · exact absurd (Nat.lt_of_lt_of_le q (Nat.le_trans h6 h7)) (Nat.lt_irrefl _)
              · exact q
            rw [c2, he]
            simp only [jm_c]
            rw [if_pos ⟨Or.inr ⟨t9, by first | rfl | trivial⟩, hq.2⟩]
        · cases h0
      · cases h0
    · cases h0
  · cases h0
theorem jm_baload (hS : jm_S B h H) (h0 : jv_heap ow ini .baload st h = some (st', h')) : jm_R B ow ini .baload st st' h h' H := by
  unfold jv_heap at h0
  dsimp only at h0
  split at h0
  · rename_i j a r
    split at h0
    · rename_i ha
      split at h0
      · rename_i ty n f he
        split at h0
        · rename_i hq
          cases h0
          obtain ⟨c1, c2⟩ := jm_acc hS ha
          refine ⟨H, ?_, hS, jm_F.rf⟩
          unfold jv_heap
          simp only [List.map_cons, jm_v_ref, jm_v_int, jm_v_long, jm_v_null, jm_v_double]
          rw [if_pos c1, c2, he]
          simp only [jm_c]
          rw [if_pos ⟨hq.1.imp (fun q => ⟨q.1, (jm_accN hS q.2).1⟩) id, hq.2⟩]
        · cases h0
      · cases h0
    · cases h0
  · cases h0
theorem jm_aaload (hS : jm_S B h H) (h0 : jv_heap ow ini .aaload st h = some (st', h')) : jm_R B ow ini .aaload st st' h h' H := by
  unfold jv_heap at h0
  dsimp only at h0
  split at h0
  · rename_i j a r
    split at h0
    · rename_i ha
      split at h0
      · rename_i ty n f he
        split at h0
        · rename_i hq
          split at h0
          · rename_i b hb
            cases h0
            obtain ⟨c1, c2⟩ := jm_accN hS ha
            refine ⟨H, ?_, hS, jm_F.rf⟩
            unfold jv_heap
            simp only [List.map_cons, jm_v_ref, jm_v_int, jm_v_long, jm_v_null, jm_v_double]
            rw [if_pos c1, c2, he]
            simp only [jm_c]
            rw [if_pos hq, hb]
            rfl
          · cases h0
        · cases h0
      · cases h0
    · cases h0
  · cases h0
theorem jm_iastore (hS : jm_S B h H) (h0 : jv_heap ow ini .iastore st h = some (st', h')) : jm_R B ow ini .iastore st st' h h' H := by
  unfold jv_heap at h0
  dsimp only at h0
  split at h0
  · rename_i x j a r
    split at h0
    · rename_i ha
      split at h0
      · rename_i ty n f he
        split at h0
        · rename_i hq
          cases h0
          obtain ⟨c1, c2⟩ := jm_accN hS ha
          refine ⟨_, ?_, hS.put ha _, jm_F.put hS ha _ _⟩
          unfold jv_heap
          simp only [List.map_cons, jm_v_ref, jm_v_int, jm_v_long, jm_v_null, jm_v_double]
          rw [if_pos c1, c2, he]
          simp only [jm_c]
          rw [if_pos hq]
        · cases h0
      · cases h0
    · cases h0
  · cases h0
theorem jm_bastore (hS : jm_S B h H) (h0 : jv_heap ow ini .bastore st h = some (st', h')) : jm_R B ow ini .bastore st st' h h' H := by
  unfold jv_heap at h0
  dsimp only at h0
  split at h0
  · rename_i x j a r
    split at h0
    · rename_i ha
      split at h0
      · rename_i ty n f he
        split at h0
        · rename_i hq
          cases h0
          obtain ⟨c1, c2⟩ := jm_accN hS ha
          refine ⟨_, ?_, hS.put ha _, jm_F.put hS ha _ _⟩
          unfold jv_heap
          simp only [List.map_cons, jm_v_ref, jm_v_int, jm_v_long, jm_v_null, jm_v_double]
          rw [if_pos c1, c2, he]
          simp only [jm_c]
          rw [if_pos hq]
        · cases h0
      · cases h0
    · cases h0
  · cases h0
theorem jm_aastore (hS : jm_S B h H) (h0 : jv_heap ow ini .aastore st h = some (st', h')) : jm_R B ow ini .aastore st st' h h' H := by
  unfold jv_heap at h0
  dsimp only at h0
  split at h0
  · rename_i b j a r
    split at h0
    · rename_i ha
      obtain ⟨ha, hb⟩ := ha
      split at h0
      · rename_i ty n f d vs he heb
        split at h0
        · rename_i hq
          cases h0
          obtain ⟨c1, c2⟩ := jm_accN hS ha
          obtain ⟨d1, d2⟩ := jm_acc hS hb
          refine ⟨_, ?_, hS.put ha _, jm_F.put hS ha _ _⟩
          unfold jv_heap
          simp only [List.map_cons, jm_v_ref, jm_v_int, jm_v_long, jm_v_null, jm_v_double]
          rw [if_pos ⟨c1, d1⟩, c2, d2, he, heb]
          simp only [jm_c]
          have hup : (fun q => ((va_up f j.toNatClampNeg (some b)) q).map (jm_p B)) = va_up (fun q => (f q).map (jm_p B)) j.toNatClampNeg (some (jm_p B b)) := by
            funext q
            unfold va_up
            split <;> rfl
          rw [hup, if_pos]
          refine ⟨?_, hq.2⟩
          rcases hq.1 with ⟨q1, q2, q3⟩ | ⟨q1, q2, q3⟩ | ⟨q1, q2, q3⟩
          · exact Or.inl ⟨q1, q2, (jm_accN hS q3).1⟩
          · exact Or.inr (Or.inl ⟨q1, q2, (jm_accN hS q3).1⟩)
          · have h9 := jv_old_eq q3
            exact Or.inr (Or.inr ⟨q1, q2, by rw [jm_big (by omega)]; exact q3⟩)
        · cases h0
      · cases h0
    · cases h0
  · cases h0
theorem jm_arraylength (hS : jm_S B h H) (h0 : jv_heap ow ini .arraylength st h = some (st', h')) : jm_R B ow ini .arraylength st st' h h' H := by
  unfold jv_heap at h0
  dsimp only at h0
  split at h0
  · rename_i a r
    split at h0
    · rename_i ha
      have hac : (jm_p B a < H.2.1 ∨ (jm_p B a = 1000000 ∧ ow = 10) ∨ jv_old (jm_p B a) = true) ∧ H.1 (jm_p B a) = jm_c B (h.1 a) := by
        rcases ha with ha | ⟨rfl, how⟩ | ha
        · exact ⟨Or.inl (jm_accN hS ha).1, (jm_accN hS ha).2⟩
        · exact ⟨Or.inr (Or.inl ⟨jm_big (by omega), how⟩), hS.1 _ (Or.inr (by omega))⟩
        · obtain ⟨c1, c2⟩ := jm_acc hS (Or.inr ha)
          exact ⟨c1.imp id Or.inr, c2⟩
      split at h0
      · rename_i ty n f he
        split at h0
        · rename_i hq
          cases h0
          refine ⟨H, ?_, hS, jm_F.rf⟩
          unfold jv_heap
          simp only [List.map_cons, jm_v_ref, jm_v_int, jm_v_long, jm_v_null, jm_v_double]
          rw [if_pos hac.1, hac.2, he]
          simp only [jm_c]
          rw [if_pos]
          rcases hq with ⟨q1, q2⟩ | ⟨q1, q2⟩ | ⟨q1, q2⟩
          · exact Or.inl ⟨q1, (jm_accN hS q2).1⟩
          · exact Or.inr (Or.inl ⟨q1, by rw [q2]; exact jm_big (by omega)⟩)
          · have h9 := jv_old_eq q2
            exact Or.inr (Or.inr ⟨q1, by rw [jm_big (by omega)]; exact q2⟩)
        · cases h0
      · rename_i ty n f he
        split at h0
        · rename_i hq
          cases h0
          refine ⟨H, ?_, hS, jm_F.rf⟩
          unfold jv_heap
          simp only [List.map_cons, jm_v_ref, jm_v_int, jm_v_long, jm_v_null, jm_v_double]
          rw [if_pos hac.1, hac.2, he]
          simp only [jm_c]
          rw [if_pos ⟨hq.1, (jm_accN hS hq.2).1⟩]
        · cases h0
      · cases h0
    · cases h0
  · cases h0
theorem jm_ref {n : Nat} (hS : jm_S B h H) (he : jm_A B h.2.1 H.2.1) (hm : H.2.1 + (h.2.1 + 1 + n - h.2.1) ≤ 1000000) : jm_p B h.2.1 = H.2.1 := by
  have := hS.2.1.1
  unfold jm_p
  rw [if_pos (by omega)]
  exact he 0
theorem jm_new (hS : jm_S B h H) {idx : Nat} (h0 : jv_heap ow ini (.new idx) st h = some (st', h')) (hal : h'.2.1 = h.2.1 ∨ jm_A B h.2.1 H.2.1) (hm : H.2.1 + (h'.2.1 - h.2.1) ≤ 1000000) : jm_R B ow ini (.new idx) st st' h h' H := by
  unfold jv_heap at h0
  dsimp only at h0
  split at h0
  · rename_i c hn
    cases h0
    have he : jm_A B h.2.1 H.2.1 := hal.elim (fun q => absurd q (by show ¬ h.2.1 + 1 = h.2.1; omega)) id
    have hm2 : H.2.1 + (h.2.1 + 1 + 0 - h.2.1) ≤ 1000000 := hm
    have hr := jm_ref (n := 0) hS he hm2
    have ec : jm_c B (.inr (.inr (c, (List.range (jv_fn c)).map (fun k => defaultValue (jv_fty c k))))) = .inr (.inr (c, (List.range (jv_fn c)).map (fun k => defaultValue (jv_fty c k)))) := by
      show (Sum.inr (Sum.inr (c, _)) : jv_E) = _
      rw [List.map_map]
      congr 3
      apply List.map_congr_left
      intro k _
      exact jm_default B _
    refine ⟨_, ?_, hS.add he (by omega) _ _, jm_F.add he _ _ _⟩
    rw [ec]
    unfold jv_heap
    simp only [List.map_cons, jm_v_ref, jm_v_int, jm_v_long, jm_v_null, jm_v_double, hn, hr]
  · cases h0
theorem jm_newarray (hS : jm_S B h H) {t : ArrayType} (h0 : jv_heap ow ini (.newarray t) st h = some (st', h')) (hal : h'.2.1 = h.2.1 ∨ jm_A B h.2.1 H.2.1) (hm : H.2.1 + (h'.2.1 - h.2.1) ≤ 1000000) : jm_R B ow ini (.newarray t) st st' h h' H := by
  unfold jv_heap at h0
  dsimp only at h0
  split at h0
  · rename_i n r
    split at h0
    · rename_i hn
      have key : ∀ ty : Nat, some (Value.ref h.2.1 :: r, jv_add h (.inl (ty, n.toNatClampNeg, fun _ => 0)) n.toNatClampNeg) = some (st', h') → jm_S B h' (jv_add H (.inl (ty, n.toNatClampNeg, fun _ => 0)) n.toNatClampNeg) ∧ jm_F B h h' H (jv_add H (.inl (ty, n.toNatClampNeg, fun _ => 0)) n.toNatClampNeg) ∧ st'.map (jm_v B) = .ref H.2.1 :: r.map (jm_v B) := by
        intro ty h0
        cases h0
        have he : jm_A B h.2.1 H.2.1 := hal.elim (fun q => absurd q (by show ¬ h.2.1 + 1 = h.2.1; omega)) id
        have hm2 : H.2.1 + (h.2.1 + 1 + 0 - h.2.1) ≤ 1000000 := hm
        have hr := jm_ref (n := 0) hS he hm2
        refine ⟨hS.add he (by omega) _ _, jm_F.add he _ _ _, ?_⟩
        simp only [List.map_cons, jm_v_ref, jm_v_int, jm_v_long, jm_v_null, jm_v_double, hr]
      split at h0
      · obtain ⟨k1, k2, k3⟩ := key 0 h0
        refine ⟨_, ?_, k1, k2⟩
        rw [k3]
        unfold jv_heap
        simp only [List.map_cons, jm_v_ref, jm_v_int, jm_v_long, jm_v_null, jm_v_double]
        rw [if_pos hn]
      · obtain ⟨k1, k2, k3⟩ := key 1 h0
        refine ⟨_, ?_, k1, k2⟩
        rw [k3]
        unfold jv_heap
        simp only [List.map_cons, jm_v_ref, jm_v_int, jm_v_long, jm_v_null, jm_v_double]
        rw [if_pos hn]
      · obtain ⟨k1, k2, k3⟩ := key 4 h0
        refine ⟨_, ?_, k1, k2⟩
        rw [k3]
        unfold jv_heap
        simp only [List.map_cons, jm_v_ref, jm_v_int, jm_v_long, jm_v_null, jm_v_double]
        rw [if_pos hn]
      · cases h0
    · cases h0
  · cases h0
theorem jm_anewarray (hS : jm_S B h H) {idx : Nat} (h0 : jv_heap ow ini (.anewarray idx) st h = some (st', h')) (hal : h'.2.1 = h.2.1 ∨ jm_A B h.2.1 H.2.1) (hm : H.2.1 + (h'.2.1 - h.2.1) ≤ 1000000) : jm_R B ow ini (.anewarray idx) st st' h h' H := by
  unfold jv_heap at h0
  dsimp only at h0
  split at h0
  · rename_i n r
    split at h0
    · rename_i hn
      have key : ∀ ty : Nat, some (Value.ref h.2.1 :: r, jv_add h (.inr (.inl (ty, n.toNatClampNeg, fun _ => none))) n.toNatClampNeg) = some (st', h') → jm_S B h' (jv_add H (.inr (.inl (ty, n.toNatClampNeg, fun _ => none))) n.toNatClampNeg) ∧ jm_F B h h' H (jv_add H (.inr (.inl (ty, n.toNatClampNeg, fun _ => none))) n.toNatClampNeg) ∧ st'.map (jm_v B) = .ref H.2.1 :: r.map (jm_v B) := by
        intro ty h0
        cases h0
        have he : jm_A B h.2.1 H.2.1 := hal.elim (fun q => absurd q (by show ¬ h.2.1 + 1 = h.2.1; omega)) id
        have hm2 : H.2.1 + (h.2.1 + 1 + 0 - h.2.1) ≤ 1000000 := hm
        have hr := jm_ref (n := 0) hS he hm2
        refine ⟨hS.add he (by omega) _ _, jm_F.add he _ _ _, ?_⟩
        simp only [List.map_cons, jm_v_ref, jm_v_int, jm_v_long, jm_v_null, jm_v_double, hr]
      split at h0
      · rename_i c hnw
        split at h0
        · rename_i h6
          obtain ⟨k1, k2, k3⟩ := key 2 h0
          refine ⟨_, ?_, k1, k2⟩
          rw [k3]
          unfold jv_heap
          simp only [List.map_cons, jm_v_ref, jm_v_int, jm_v_long, jm_v_null, jm_v_double]
          rw [if_pos hn, hnw]
          dsimp only
          rw [if_pos h6]
        · rename_i h6
          split at h0
          · rename_i h5
            obtain ⟨k1, k2, k3⟩ := key 3 h0
            refine ⟨_, ?_, k1, k2⟩
            rw [k3]
            unfold jv_heap
            simp only [List.map_cons, jm_v_ref, jm_v_int, jm_v_long, jm_v_null, jm_v_double]
            rw [if_pos hn, hnw]
            dsimp only
            rw [if_neg h6, if_pos h5]
          · rename_i h5
            split at h0
            · rename_i h8
              obtain ⟨k1, k2, k3⟩ := key 5 h0
              refine ⟨_, ?_, k1, k2⟩
              rw [k3]
              unfold jv_heap
              simp only [List.map_cons, jm_v_ref, jm_v_int, jm_v_long, jm_v_null, jm_v_double]
              rw [if_pos hn, hnw]
              dsimp only
              rw [if_neg h6, if_neg h5, if_pos h8]
            · cases h0
      · cases h0
    · cases h0
  · cases h0
theorem jm_ldcv {idx : Nat} {v : Value} (hv : jv_ldc ow idx = some v) : jm_v B v = v := by
  have hck := jv_ckl_ok hv
  cases v with
  | ref a =>
    unfold jv_ckl1 at hck
    dsimp only at hck
    cases htx : jv_tix a with
    | none => rw [htx] at hck; cases hck
    | some ix =>
      obtain ⟨hi, rfl⟩ := jv_tix_eq htx
      show Value.ref (jm_p B (1000001 + ix)) = _
      rw [jm_big (by omega)]
  | int x => rfl
  | long x => rfl
  | float x => rfl
  | double x => rfl
  | null => rfl
  | retAddr x => rfl
theorem jm_ldc (hS : jm_S B h H) {idx : Nat} (h0 : jv_heap ow ini (.ldc idx) st h = some (st', h')) : jm_R B ow ini (.ldc idx) st st' h h' H := by
  unfold jv_heap at h0
  dsimp only at h0
  split at h0
  · rename_i v hv
    cases h0
    refine ⟨H, ?_, hS, jm_F.rf⟩
    unfold jv_heap
    simp only [List.map_cons, hv, jm_ldcv (B := B) hv]
  · cases h0
theorem jm_ldc2 (hS : jm_S B h H) {idx : Nat} (h0 : jv_heap ow ini (.ldc2_w idx) st h = some (st', h')) : jm_R B ow ini (.ldc2_w idx) st st' h h' H := by
  unfold jv_heap at h0
  dsimp only at h0
  split at h0
  · rename_i v hv
    cases h0
    refine ⟨H, ?_, hS, jm_F.rf⟩
    unfold jv_heap
    simp only [List.map_cons, hv, jm_v_ref, jm_v_int, jm_v_long, jm_v_null, jm_v_double]
  · cases h0
theorem jm_getstatic (hS : jm_S B h H) {idx : Nat} (h0 : jv_heap ow ini (.getstatic idx) st h = some (st', h')) : jm_R B ow ini (.getstatic idx) st st' h h' H := by
  unfold jv_heap at h0
  dsimp only at h0
  split at h0
  · rename_i v hv
    cases h0
    have e : jm_v B v = v := by
      unfold jv_sta at hv
      split at hv
      · cases hv; rfl
      · split at hv
        · cases hv
          show Value.ref (jm_p B 1000201) = _
          rw [jm_big (by omega)]
        · split at hv
          · cases hv
            show Value.ref (jm_p B 1000202) = _
            rw [jm_big (by omega)]
          · cases hv
    refine ⟨H, ?_, hS, jm_F.rf⟩
    unfold jv_heap
    simp only [List.map_cons, hv, e]
  · cases h0
theorem jm_checkcast (hS : jm_S B h H) {idx : Nat} (h0 : jv_heap ow ini (.checkcast idx) st h = some (st', h')) : jm_R B ow ini (.checkcast idx) st st' h h' H := by
  unfold jv_heap at h0
  dsimp only at h0
  split at h0
  · rename_i a r
    split at h0
    · rename_i ha
      split at h0
      · rename_i ty n f he
        split at h0
        · rename_i hty
          cases h0
          obtain ⟨c1, c2⟩ := jm_accN hS ha.1
          refine ⟨H, ?_, hS, jm_F.rf⟩
          unfold jv_heap
          simp only [List.map_cons, jm_v_ref, jm_v_int, jm_v_long, jm_v_null, jm_v_double]
          rw [if_pos ⟨c1, ha.2⟩, c2, he]
          simp only [jm_c]
          rw [if_pos hty]
        · cases h0
      · cases h0
    · cases h0
  · cases h0
theorem jm_multi (hS : jm_S B h H) {idx d : Nat} (h0 : jv_heap ow ini (.multianewarray idx d) st h = some (st', h')) (hal : h'.2.1 = h.2.1 ∨ jm_A B h.2.1 H.2.1) (hm : H.2.1 + (h'.2.1 - h.2.1) ≤ 1000000) : jm_R B ow ini (.multianewarray idx d) st st' h h' H := by
  unfold jv_heap at h0
  dsimp only at h0
  split at h0
  · rename_i how
    split at h0
    · rename_i mm nn r
      split at h0
      · rename_i hq
        cases h0
        generalize hx0 : (Sum.inr (Sum.inl (6, nn.toNatClampNeg, fun i => if i < nn.toNatClampNeg then some (h.2.1 + 1 + i) else none)) : jv_E) = x0 at *
        have ea := jv_addn_eq nn.toNatClampNeg mm.toNatClampNeg (jv_add h x0 nn.toNatClampNeg)
        have ea1 : (jv_addn (jv_add h x0 nn.toNatClampNeg) nn.toNatClampNeg mm.toNatClampNeg).2.1 = h.2.1 + 1 + nn.toNatClampNeg := ea.1
        rw [ea1] at hm hal
        have he : jm_A B h.2.1 H.2.1 := hal.elim (fun q => absurd q (by omega)) id
        have hr := jm_ref hS he hm
        have ec : jm_c B x0 = .inr (.inl (6, nn.toNatClampNeg, fun i => if i < nn.toNatClampNeg then some (H.2.1 + 1 + i) else none)) := by
          rw [← hx0]
          show (Sum.inr (Sum.inl (6, nn.toNatClampNeg, fun j => (if j < nn.toNatClampNeg then some (h.2.1 + 1 + j) else none : Option Nat).map (jm_p B))) : jv_E) = _
          congr 4
          funext j
          by_cases hj : j < nn.toNatClampNeg
          · rw [if_pos hj, if_pos hj]
            show some (jm_p B (h.2.1 + 1 + j)) = _
            have h9 := hS.2.1.1
            have h8 := he (1 + j)
            unfold jm_p
            rw [if_pos (by omega), show h.2.1 + 1 + j = h.2.1 + (1 + j) by omega, h8]
            congr 1
            omega
          · rw [if_neg hj, if_neg hj]
            rfl
        have h1 := hS.add he (by omega) x0 nn.toNatClampNeg
        have h2 := jm_addn nn.toNatClampNeg mm.toNatClampNeg _ _ h1 (he.next (a1 := h.2.1 + 1) (b1 := H.2.1 + 1) (by omega) (by omega)) (by show H.2.1 + 1 + nn.toNatClampNeg ≤ 1000000; omega)
        refine ⟨_, ?_, h2.1, (jm_F.add he x0 _ _).trans h2.2 ⟨Nat.le_succ _, Nat.le_add_right _ _⟩ ⟨by rw [ea.1]; omega, by rw [ea.2]; omega⟩⟩
        rw [ec]
        unfold jv_heap
        simp only [List.map_cons, jm_v_ref, jm_v_int, jm_v_long, jm_v_null, jm_v_double, hr]
        rw [if_pos how, if_pos hq]
      · cases h0
    · cases h0
  · cases h0
theorem jm_heap (hS : jm_S B h H) {i : Instr} (h0 : jv_heap ow ini i st h = some (st', h')) (hal : h'.2.1 = h.2.1 ∨ jm_A B h.2.1 H.2.1) (hm : H.2.1 + (h'.2.1 - h.2.1) ≤ 1000000) : jm_R B ow ini i st st' h h' H := by
  have h00 := h0
  unfold jv_heap at h0
  split at h0
  · exact jm_getfield hS h00
  · exact jm_putfield hS h00
  · exact jm_iaload hS h00
  · exact jm_baload hS h00
  · exact jm_aaload hS h00
  · exact jm_iastore hS h00
  · exact jm_bastore hS h00
  · exact jm_aastore hS h00
  · exact jm_arraylength hS h00
  · exact jm_new hS h00 hal hm
  · exact jm_newarray hS h00 hal hm
  · exact jm_anewarray hS h00 hal hm
  · exact jm_ldc hS h00
  · exact jm_ldc2 hS h00
  · exact jm_getstatic hS h00
  · exact jm_checkcast hS h00
  · exact jm_multi hS h00 hal hm
  · cases h0
end JMH
theorem jm_ld_np {i : Instr} {L : List (Option Value)} {st st' : List Value} (h : jv_ld i L st = some st') : ∀ s, jv_pure i s = none := by
  unfold jv_ld at h
  split at h
  all_goals first
    | (intro s; rfl)
    | cases h
theorem jm_br_np {i : Instr} {pc : Nat} {st : List Value} {t : Nat × List Value} (h : jv_br i pc st = some t) : (∀ s, jv_pure i s = none) ∧ ∀ L s, jv_ld i L s = none := by
  unfold jv_br at h
  split at h
  all_goals first
    | exact ⟨fun s => rfl, fun L s => rfl⟩
    | cases h
theorem jm_sto_np {i : Instr} {L L' : List (Option Value)} {st st' : List Value} (h : jv_sto i L st = some (L', st')) : (∀ s, jv_pure i s = none) ∧ (∀ L s, jv_ld i L s = none) ∧ ∀ pc s, jv_br i pc s = none := by
  unfold jv_sto at h
  split at h
  all_goals first
    | exact ⟨fun s => rfl, fun L s => rfl, fun pc s => rfl⟩
    | cases h
theorem jm_heap_np {ow : Nat} {ini : Bool} {i : Instr} {st st' : List Value} {h h' : jv_H} (h0 : jv_heap ow ini i st h = some (st', h')) : (∀ s, jv_pure i s = none) ∧ (∀ L s, jv_ld i L s = none) ∧ (∀ pc s, jv_br i pc s = none) ∧ ∀ L s, jv_sto i L s = none := by
  unfold jv_heap at h0
  split at h0
  all_goals first
    | exact ⟨fun s => rfl, fun L s => rfl, fun pc s => rfl, fun L s => rfl⟩
    | cases h0
theorem jm_step {B : Nat → Nat} {ow : Nat} {ini : Bool} {i : Instr} {len pc pc' : Nat} {L L' : List (Option Value)} {st st' : List Value} {h h' H : jv_H} (hS : jm_S B h H) (h0 : jv_step ow ini i len pc L st h = some (pc', L', st', h')) (hal : h'.2.1 = h.2.1 ∨ jm_A B h.2.1 H.2.1) (hm : H.2.1 + (h'.2.1 - h.2.1) ≤ 1000000) :
    ∃ H', jv_step ow ini i len pc (L.map (Option.map (jm_v B))) (st.map (jm_v B)) H = some (pc', L'.map (Option.map (jm_v B)), st'.map (jm_v B), H') ∧ jm_S B h' H' ∧ jm_F B h h' H H' := by
  unfold jv_step at h0
  split at h0
  · rename_i h1
    cases h0
    refine ⟨H, ?_, hS, jm_F.rf⟩
    unfold jv_step
    rw [jm_pure h1]
  · split at h0
    · rename_i h1
      cases h0
      refine ⟨H, ?_, hS, jm_F.rf⟩
      unfold jv_step
      rw [jm_ld_np h1, jm_ld h1]
    · split at h0
      · rename_i h1
        cases h0
        refine ⟨H, ?_, hS, jm_F.rf⟩
        unfold jv_step
        rw [(jm_br_np h1).1, (jm_br_np h1).2, jm_br h1]
      · split at h0
        · rename_i h1
          cases h0
          refine ⟨H, ?_, hS, jm_F.rf⟩
          unfold jv_step
          rw [(jm_sto_np h1).1, (jm_sto_np h1).2.1, (jm_sto_np h1).2.2, jm_sto h1]
        · split at h0
          · rename_i h1
            cases h0
            obtain ⟨H', e1, e2, e3⟩ := jm_heap hS h1 hal hm
            refine ⟨H', ?_, e2, e3⟩
            unfold jv_step
            rw [(jm_heap_np h1).1, (jm_heap_np h1).2.1, (jm_heap_np h1).2.2.1, (jm_heap_np h1).2.2.2, e1]
          · cases h0
theorem jm_ret {B : Nat → Nat} {ret : Option FieldType} {i : Instr} {st : List Value} : jv_ret ret i (st.map (jm_v B)) = (jv_ret ret i st).map (Option.map (jm_v B)) := by
  cases i
  case return_ => rcases ret with _ | ty <;> rcases st with _ | ⟨v, r⟩ <;> rfl
  case ireturn =>
    rcases ret with _ | ty
    · rcases st with _ | ⟨v, _ | ⟨w, r⟩⟩ <;> try rfl
      all_goals (cases v <;> rfl)
    · rcases st with _ | ⟨v, _ | ⟨w, r⟩⟩
      · rfl
      · cases v
        case int x =>
          show (if _ then _ else none) = Option.map _ (if _ then _ else none)
          split <;> rfl
        all_goals rfl
      · cases v <;> rfl
  case areturn =>
    rcases ret with _ | ty
    · rcases st with _ | ⟨v, _ | ⟨w, r⟩⟩ <;> try rfl
      all_goals (cases v <;> rfl)
    · rcases st with _ | ⟨v, _ | ⟨w, r⟩⟩
      · cases ty <;> rfl
      · cases ty <;> cases v <;> rfl
      · cases ty <;> cases v <;> rfl
  case freturn =>
    rcases ret with _ | ty
    · rcases st with _ | ⟨v, _ | ⟨w, r⟩⟩ <;> try rfl
      all_goals (cases v <;> rfl)
    · rcases st with _ | ⟨v, _ | ⟨w, r⟩⟩
      · cases ty <;> rfl
      · cases ty <;> cases v <;> rfl
      · cases ty <;> cases v <;> rfl
  case dreturn =>
    rcases ret with _ | ty
    · rcases st with _ | ⟨v, _ | ⟨w, r⟩⟩ <;> try rfl
      all_goals (cases v <;> rfl)
    · rcases st with _ | ⟨v, _ | ⟨w, r⟩⟩
      · cases ty <;> rfl
      · cases ty <;> cases v <;> rfl
      · cases ty <;> cases v <;> rfl
  case lreturn =>
    rcases ret with _ | ty
    · rcases st with _ | ⟨v, _ | ⟨w, r⟩⟩ <;> try rfl
      all_goals (cases v <;> rfl)
    · rcases st with _ | ⟨v, _ | ⟨w, r⟩⟩
      · cases ty <;> rfl
      · cases ty <;> cases v <;> rfl
      · cases ty <;> cases v <;> rfl
  all_goals rfl
theorem jm_wd (B : Nat → Nat) (st : List Value) : jv_wd (st.map (jm_v B)) = jv_wd st := by
  unfold jv_wd
  rw [List.map_map]
  congr 1
  apply List.map_congr_left
  intro v _
  exact jm_cat B v
theorem jm_may {B : Nat → Nat} {kd fr lo na : Nat} {q : Nat × Nat × Nat × Nat × Nat × Nat} {st : List Value} {h H : jv_H} (hS : jm_S B h H) (h0 : jv_may kd fr lo q na st h = true) : jv_may kd fr lo q na (st.map (jm_v B)) H = true := by
  unfold jv_may at h0 ⊢
  rw [Bool.and_eq_true] at h0 ⊢
  obtain ⟨h1, h2⟩ := h0
  refine ⟨?_, ?_⟩
  · rw [List.length_map, ← List.map_drop, ← List.map_take, jm_wd, jm_wd]
    exact h1
  · split at h2
    · rfl
    · rw [← List.map_take, List.getLast?_map]
      split at h2
      · rename_i a hl
        rw [hl]
        simp only [Option.map_some, jm_v_ref, jm_v_int, jm_v_long, jm_v_null, jm_v_double]
        rw [Bool.and_eq_true, Bool.or_eq_true, Bool.and_eq_true] at h2
        obtain ⟨h3, h4⟩ := h2
        have hac : a < h.2.1 ∨ jv_old a = true := h3.imp of_decide_eq_true (fun q => q.1)
        have c2 := (jm_acc hS hac).2
        rw [c2, Bool.and_eq_true, Bool.or_eq_true, Bool.and_eq_true]
        refine ⟨h3.imp (fun q => decide_eq_true (jm_accN hS (of_decide_eq_true q)).1) (fun q => ⟨?_, q.2⟩), ?_⟩
        · have h9 := jv_old_eq q.1
          rw [jm_big (by omega)]
          exact q.1
        · split at h4
          · rename_i d fs he
            rw [he]
            exact h4
          · cases h4
      · cases h2
theorem jm_args {B : Nat → Nat} {na k : Nat} {st : List Value} : ((st.take na).reverse.map some ++ List.replicate k none).map (Option.map (jm_v B)) = (((st.map (jm_v B)).take na).reverse.map some ++ List.replicate k none : List (Option Value)) := by
  rw [List.map_append, List.map_replicate, List.map_map, ← List.map_take, ← List.map_reverse, List.map_map]
  rfl
theorem jm_acpy {B : Nat → Nat} {st st' : List Value} {h h1 H : jv_H} (hS : jm_S B h H) (h0 : jv_acpy st h = some (st', h1)) : ∃ H1, jv_acpy (st.map (jm_v B)) H = some (st'.map (jm_v B), H1) ∧ jm_S B h1 H1 ∧ jm_F B h h1 H H1 := by
  obtain ⟨n, dp, sp, d, s, m, k, f, g, rfl, hs, hd, hne, es, ed, hq, hb1, hb2, hfit, rfl⟩ := jv_acpy_eq h0
  obtain ⟨c1, c2⟩ := jm_acc hS hs
  obtain ⟨d1, d2⟩ := jm_accN hS hd
  refine ⟨_, ?_, hS.put hd _, jm_F.put hS hd _ _⟩
  unfold jv_acpy
  simp only [List.map_cons, jm_v_ref, jm_v_int, jm_v_long, jm_v_null, jm_v_double]
  have hne2 : jm_p B s ≠ jm_p B d := fun e => hne (jm_inj hS hd (hs.imp id (fun q => by have := jv_old_eq q; omega)) e.symm).symm
  rw [if_pos ⟨c1, d1, hne2⟩, c2, d2, es, ed]
  simp only [jm_c]
  rw [if_pos ⟨hq, hb1, hb2, List.all_eq_true.mpr (fun i hi => hfit i (List.mem_range.mp hi))⟩]
theorem jm_cln {B : Nat → Nat} {st st' : List Value} {h h1 H : jv_H} (hS : jm_S B h H) (h0 : jv_cln st h = some (st', h1)) (hal : h1.2.1 = h.2.1 ∨ jm_A B h.2.1 H.2.1) (hm : H.2.1 + (h1.2.1 - h.2.1) ≤ 1000000) : ∃ H1, jv_cln (st.map (jm_v B)) H = some (st'.map (jm_v B), H1) ∧ jm_S B h1 H1 ∧ jm_F B h h1 H H1 := by
  obtain ⟨a, n, f, r, rfl, ha, ea, hfit, rfl, rfl⟩ := jv_cln_eq h0
  obtain ⟨c1, c2⟩ := jm_accN hS ha
  have he : jm_A B h.2.1 H.2.1 := hal.elim (fun q => absurd q (by show ¬ h.2.1 + 1 = h.2.1; omega)) id
  have hm2 : H.2.1 + (h.2.1 + 1 + 0 - h.2.1) ≤ 1000000 := hm
  have hr := jm_ref (n := 0) hS he hm2
  refine ⟨_, ?_, hS.add he (by omega) _ _, jm_F.add he _ _ _⟩
  unfold jv_cln
  simp only [List.map_cons, jm_v_ref, jm_v_int, jm_v_long, jm_v_null, jm_v_double, hr]
  rw [if_pos c1, c2, ea]
  simp only [jm_c]
  rw [if_pos (List.all_eq_true.mpr (fun i hi => hfit i (List.mem_range.mp hi)))]
theorem jm_cidx {B : Nat → Nat} {st st' : List Value} (h0 : jv_cidx st = some st') : jv_cidx (st.map (jm_v B)) = some (st'.map (jm_v B)) := by
  obtain ⟨n, i, rfl, h1, h2⟩ := jv_cidx_eq h0
  unfold jv_cidx
  simp only [List.map_cons, jm_v_ref, jm_v_int, jm_v_long, jm_v_null, jm_v_double]
  rw [if_pos ⟨h1, h2⟩]
set_option maxHeartbeats 4000000 in
/-- a run, moved -/
theorem jm_run {B : Nat → Nat} : ∀ (n y pc : Nat) (L : List (Option Value)) (st : List Value) (h h' H : jv_H) (r : Option Value), jv_run n y pc L st h = some (r, h') → jm_S B h H → (h'.2.1 = h.2.1 ∨ jm_A B h.2.1 H.2.1) → H.2.1 + (h'.2.1 - h.2.1) ≤ 1000000 →
    ∃ H', jv_run n y pc (L.map (Option.map (jm_v B))) (st.map (jm_v B)) H = some (r.map (jm_v B), H') ∧ jm_S B h' H' ∧ jm_F B h h' H H'
  | 0, _, _, _, _, _, _, _, _, h0, _, _, _ => by cases h0
  | n + 1, y, pc, L, st, h, h', H, r, h0, hS, hal, hm => by
    have hmono := jv_run_mono (n + 1) h0
    unfold jv_run at h0
    split at h0
    · cases h0
    · rename_i ow kd na0 mL fr lo hinf
      split at h0
      · cases h0
      · rename_i i len hcode
        have hret := jm_ret (B := B) (ret := (jv_ym y).2.2) (i := i) (st := st)
        split at h0
        · rename_i r0 hr
          cases h0
          refine ⟨H, ?_, hS, jm_F.rf⟩
          unfold jv_run
          simp only [hinf, hcode]
          rw [hret, hr]
          rfl
        · rename_i hr
          rw [hr] at hret
          split at h0
          · rename_i hc
            split at h0
            · rename_i pc' L' st' h1 hs
              have m1 := jv_step_mono hs
              have m2 := jv_run_mono n h0
              obtain ⟨H1, e1, s1, f1⟩ := jm_step hS hs (jm_hal1 hal m1.1 m2.1) (by omega)
              have f10 := f1.1
              obtain ⟨H2, e2, s2, f2⟩ := jm_run n y pc' L' st' h1 h' H1 r h0 s1 (jm_hal2 hal m1.1 m2.1 f10) (by omega)
              refine ⟨H2, ?_, s2, f1.trans f2 m1 m2⟩
              unfold jv_run
              simp only [hinf, hcode]
              rw [hret]
              simp only [Option.map_none, hc]
              rw [e1]
              exact e2
            · cases h0
          · rename_i ck idx hc
            split at h0
            · cases h0
            · rename_i z na ne hcal
              split at h0
              · rename_i hz
                split at h0
                · rename_i a rst
                  split at h0
                  · rename_i hq
                    obtain ⟨H2, e2, s2, f2⟩ := jm_run n y (pc + 3) L rst h h' H r h0 hS hal hm
                    refine ⟨H2, ?_, s2, f2⟩
                    unfold jv_run
                    simp only [hinf, hcode]
                    rw [hret]
                    simp only [Option.map_none, hc, hcal]
                    rw [if_pos hz]
                    simp only [List.map_cons, jm_v_ref, jm_v_int, jm_v_long, jm_v_null, jm_v_double]
                    rw [if_pos (by rw [jm_wd]; exact hq)]
                    exact e2
                  · cases h0
                · cases h0
              · rename_i hz0
                split at h0
                · rename_i hz
                  split at h0
                  · rename_i st1 hst
                    split at h0
                    · rename_i hq
                      obtain ⟨H2, e2, s2, f2⟩ := jm_run n y (pc + 3) L st1 h h' H r h0 hS hal hm
                      refine ⟨H2, ?_, s2, f2⟩
                      unfold jv_run
                      simp only [hinf, hcode]
                      rw [hret]
                      simp only [Option.map_none, hc, hcal]
                      rw [if_neg hz0, if_pos hz, jm_cidx hst]
                      dsimp only
                      rw [if_pos (by rw [← List.map_drop, jm_wd]; exact hq)]
                      exact e2
                    · cases h0
                  · cases h0
                · rename_i hz1
                  split at h0
                  · rename_i hz
                    split at h0
                    · rename_i st1 h1 hst
                      split at h0
                      · rename_i hq
                        have m1 : h.2.1 ≤ h1.2.1 ∧ h.2.2 ≤ h1.2.2 := by
                          obtain ⟨_, _, _, _, _, _, _, _, _, -, -, -, -, -, -, -, -, -, -, rfl⟩ := jv_acpy_eq hst
                          exact ⟨Nat.le_refl _, Nat.le_refl _⟩
                        have m2 := jv_run_mono n h0
                        obtain ⟨H1, e1, s1, f1⟩ := jm_acpy hS hst
                        have f10 := f1.1
                        obtain ⟨H2, e2, s2, f2⟩ := jm_run n y (pc + 3) L st1 h1 h' H1 r h0 s1 (jm_hal2 hal m1.1 m2.1 f10) (by omega)
                        refine ⟨H2, ?_, s2, f1.trans f2 m1 m2⟩
                        unfold jv_run
                        simp only [hinf, hcode]
                        rw [hret]
                        simp only [Option.map_none, hc, hcal]
                        rw [if_neg hz0, if_neg hz1, if_pos hz, e1]
                        dsimp only
                        rw [if_pos (by rw [← List.map_drop, jm_wd]; exact hq)]
                        exact e2
                      · cases h0
                    · cases h0
                  · rename_i hz2
                    split at h0
                    · rename_i hz
                      split at h0
                      · rename_i st1 h1 hst
                        split at h0
                        · rename_i hq
                          have m1 : h.2.1 ≤ h1.2.1 ∧ h.2.2 ≤ h1.2.2 := by
                            obtain ⟨_, _, _, _, -, -, -, -, -, rfl⟩ := jv_cln_eq hst
                            exact ⟨Nat.le_succ _, Nat.le_add_right _ _⟩
                          have m2 := jv_run_mono n h0
                          obtain ⟨H1, e1, s1, f1⟩ := jm_cln hS hst (jm_hal1 hal m1.1 m2.1) (by omega)
                          have f10 := f1.1
                          obtain ⟨H2, e2, s2, f2⟩ := jm_run n y (pc + 3) L st1 h1 h' H1 r h0 s1 (jm_hal2 hal m1.1 m2.1 f10) (by omega)
                          refine ⟨H2, ?_, s2, f1.trans f2 m1 m2⟩
                          unfold jv_run
                          simp only [hinf, hcode]
                          rw [hret]
                          simp only [Option.map_none, hc, hcal]
                          rw [if_neg hz0, if_neg hz1, if_neg hz2, if_pos hz, e1]
                          dsimp only
                          rw [if_pos (by rw [← List.map_drop, jm_wd]; exact hq)]
                          exact e2
                        · cases h0
                      · cases h0
                    · rename_i hz3
                      split at h0
                      · cases h0
                      · rename_i q hq
                        split at h0
                        · rename_i hmay
                          split at h0
                          · rename_i r1 h1 hrun
                            have m1 := jv_run_mono n hrun
                            have m2 := jv_run_mono n h0
                            obtain ⟨H1, e1, s1, f1⟩ := jm_run n z 0 _ [] h h1 H r1 hrun hS (jm_hal1 hal m1.1 m2.1) (by omega)
                            have f10 := f1.1
                            obtain ⟨H2, e2, s2, f2⟩ := jm_run n y (pc + 3) L _ h1 h' H1 r h0 s1 (jm_hal2 hal m1.1 m2.1 f10) (by omega)
                            refine ⟨H2, ?_, s2, f1.trans f2 m1 m2⟩
                            have e3 : (r1.toList ++ st.drop na).map (jm_v B) = (r1.map (jm_v B)).toList ++ (st.map (jm_v B)).drop na := by
                              rw [List.map_append, List.map_drop]
                              cases r1 <;> rfl
                            rw [e3] at e2
                            rw [jm_args] at e1
                            unfold jv_run
                            simp only [hinf, hcode]
                            rw [hret]
                            simp only [Option.map_none, hc, hcal]
                            rw [if_neg hz0, if_neg hz1, if_neg hz2, if_neg hz3, hq]
                            dsimp only
                            rw [if_pos (jm_may hS hmay)]
                            have e4 : jv_run n z 0 (((st.map (jm_v B)).take na).reverse.map some ++ List.replicate (q.2.2.2.1 - na) none) [] H = some (r1.map (jm_v B), H1) := e1
                            rw [e4]
                            exact e2
                          · cases h0
                        · cases h0
end
