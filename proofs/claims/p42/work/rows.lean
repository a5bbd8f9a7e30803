section
-- ===== PART A: goes FIRST, ahead of the names: the tables' words, and 'selects' of the private methods out of them =====
/-- a private method of a class that the tables say can be made, by its rows of tables_1 -/
def lw_okq (q : MethodName × Nat) : Prop := (q.1.cls ≠ "java/lang/invoke/MethodHandle" ∧ q.1.cls ≠ "java/lang/invoke/VarHandle") ∧ Cond.instantiable q.1.cls q.2 ∈ tables_1 ∧ Cond.privateMethod q.1 ∈ tables_1 ∧ Cond.instanceMethod q.1 ∈ tables_1
theorem lw_p0 : lw_okq (⟨"SeatSwap$SetupReader", "begin", "()V"⟩, 6) := ⟨⟨by decide +kernel, by decide +kernel⟩, List.mem_of_getElem? (i := 29) (by decide +kernel), List.mem_of_getElem? (i := 316) (by decide +kernel), List.mem_of_getElem? (i := 317) (by decide +kernel)⟩
theorem lw_p1 : lw_okq (⟨"SeatSwap$SetupReader", "nextToken", "()V"⟩, 6) := ⟨⟨by decide +kernel, by decide +kernel⟩, List.mem_of_getElem? (i := 29) (by decide +kernel), List.mem_of_getElem? (i := 320) (by decide +kernel), List.mem_of_getElem? (i := 321) (by decide +kernel)⟩
theorem lw_p2 : lw_okq (⟨"SeatSwap$SetupReader", "take", "(Ljava/lang/String;)V"⟩, 6) := ⟨⟨by decide +kernel, by decide +kernel⟩, List.mem_of_getElem? (i := 29) (by decide +kernel), List.mem_of_getElem? (i := 332) (by decide +kernel), List.mem_of_getElem? (i := 333) (by decide +kernel)⟩
theorem lw_p3 : lw_okq (⟨"SeatSwap$SetupReader", "isWord", "(Ljava/lang/String;)Z"⟩, 6) := ⟨⟨by decide +kernel, by decide +kernel⟩, List.mem_of_getElem? (i := 29) (by decide +kernel), List.mem_of_getElem? (i := 336) (by decide +kernel), List.mem_of_getElem? (i := 337) (by decide +kernel)⟩
theorem lw_p4 : lw_okq (⟨"SeatSwap$SetupReader", "pass", "(Z)V"⟩, 6) := ⟨⟨by decide +kernel, by decide +kernel⟩, List.mem_of_getElem? (i := 29) (by decide +kernel), List.mem_of_getElem? (i := 388) (by decide +kernel), List.mem_of_getElem? (i := 389) (by decide +kernel)⟩
theorem lw_p5 : lw_okq (⟨"SeatSwap$SetupReader", "takeInt", "(II)I"⟩, 6) := ⟨⟨by decide +kernel, by decide +kernel⟩, List.mem_of_getElem? (i := 29) (by decide +kernel), List.mem_of_getElem? (i := 392) (by decide +kernel), List.mem_of_getElem? (i := 393) (by decide +kernel)⟩
theorem lw_p6 : lw_okq (⟨"SeatSwap$SetupReader", "number", "()I"⟩, 6) := ⟨⟨by decide +kernel, by decide +kernel⟩, List.mem_of_getElem? (i := 29) (by decide +kernel), List.mem_of_getElem? (i := 396) (by decide +kernel), List.mem_of_getElem? (i := 397) (by decide +kernel)⟩
theorem lw_p7 : lw_okq (⟨"SeatSwap$SetupReader", "isSign", "(C)Z"⟩, 6) := ⟨⟨by decide +kernel, by decide +kernel⟩, List.mem_of_getElem? (i := 29) (by decide +kernel), List.mem_of_getElem? (i := 401) (by decide +kernel), List.mem_of_getElem? (i := 402) (by decide +kernel)⟩
theorem lw_p8 : lw_okq (⟨"SeatSwap$SetupReader", "readTraveller", "(LSeatSwap$Train;)V"⟩, 6) := ⟨⟨by decide +kernel, by decide +kernel⟩, List.mem_of_getElem? (i := 29) (by decide +kernel), List.mem_of_getElem? (i := 405) (by decide +kernel), List.mem_of_getElem? (i := 406) (by decide +kernel)⟩
theorem lw_p9 : lw_okq (⟨"SeatSwap$SetupReader", "takeFreeSeat", "(LSeatSwap$Train;)I"⟩, 6) := ⟨⟨by decide +kernel, by decide +kernel⟩, List.mem_of_getElem? (i := 29) (by decide +kernel), List.mem_of_getElem? (i := 414) (by decide +kernel), List.mem_of_getElem? (i := 415) (by decide +kernel)⟩
theorem lw_p10 : lw_okq (⟨"SeatSwap$SetupReader", "takeName", "()I"⟩, 6) := ⟨⟨by decide +kernel, by decide +kernel⟩, List.mem_of_getElem? (i := 29) (by decide +kernel), List.mem_of_getElem? (i := 434) (by decide +kernel), List.mem_of_getElem? (i := 435) (by decide +kernel)⟩
theorem lw_p11 : lw_okq (⟨"SeatSwap$SetupReader", "packedName", "()I"⟩, 6) := ⟨⟨by decide +kernel, by decide +kernel⟩, List.mem_of_getElem? (i := 29) (by decide +kernel), List.mem_of_getElem? (i := 438) (by decide +kernel), List.mem_of_getElem? (i := 439) (by decide +kernel)⟩
theorem lw_p12 : lw_okq (⟨"SeatSwap$SetupReader", "isName", "()Z"⟩, 6) := ⟨⟨by decide +kernel, by decide +kernel⟩, List.mem_of_getElem? (i := 29) (by decide +kernel), List.mem_of_getElem? (i := 442) (by decide +kernel), List.mem_of_getElem? (i := 443) (by decide +kernel)⟩
theorem lw_p13 : lw_okq (⟨"SeatSwap$SetupReader", "isKeyword", "()Z"⟩, 6) := ⟨⟨by decide +kernel, by decide +kernel⟩, List.mem_of_getElem? (i := 29) (by decide +kernel), List.mem_of_getElem? (i := 446) (by decide +kernel), List.mem_of_getElem? (i := 447) (by decide +kernel)⟩
theorem lw_p14 : lw_okq (⟨"SeatSwap$SetupReader", "takeIfThere", "(Ljava/lang/String;)Z"⟩, 6) := ⟨⟨by decide +kernel, by decide +kernel⟩, List.mem_of_getElem? (i := 29) (by decide +kernel), List.mem_of_getElem? (i := 457) (by decide +kernel), List.mem_of_getElem? (i := 458) (by decide +kernel)⟩
theorem lw_p15 : lw_okq (⟨"SeatSwap$SetupReader", "takeLike", "()I"⟩, 6) := ⟨⟨by decide +kernel, by decide +kernel⟩, List.mem_of_getElem? (i := 29) (by decide +kernel), List.mem_of_getElem? (i := 461) (by decide +kernel), List.mem_of_getElem? (i := 462) (by decide +kernel)⟩
def lw_privs_1 : List (MethodName × Nat) := [(⟨"SeatSwap$SetupReader", "begin", "()V"⟩, 6), (⟨"SeatSwap$SetupReader", "nextToken", "()V"⟩, 6), (⟨"SeatSwap$SetupReader", "take", "(Ljava/lang/String;)V"⟩, 6), (⟨"SeatSwap$SetupReader", "isWord", "(Ljava/lang/String;)Z"⟩, 6), (⟨"SeatSwap$SetupReader", "pass", "(Z)V"⟩, 6), (⟨"SeatSwap$SetupReader", "takeInt", "(II)I"⟩, 6), (⟨"SeatSwap$SetupReader", "number", "()I"⟩, 6), (⟨"SeatSwap$SetupReader", "isSign", "(C)Z"⟩, 6), (⟨"SeatSwap$SetupReader", "readTraveller", "(LSeatSwap$Train;)V"⟩, 6), (⟨"SeatSwap$SetupReader", "takeFreeSeat", "(LSeatSwap$Train;)I"⟩, 6), (⟨"SeatSwap$SetupReader", "takeName", "()I"⟩, 6), (⟨"SeatSwap$SetupReader", "packedName", "()I"⟩, 6), (⟨"SeatSwap$SetupReader", "isName", "()Z"⟩, 6), (⟨"SeatSwap$SetupReader", "isKeyword", "()Z"⟩, 6), (⟨"SeatSwap$SetupReader", "takeIfThere", "(Ljava/lang/String;)Z"⟩, 6), (⟨"SeatSwap$SetupReader", "takeLike", "()I"⟩, 6)]
theorem lw_r1 : ∀ q ∈ lw_privs_1, lw_okq q := List.forall_mem_cons.mpr ⟨lw_p0, List.forall_mem_cons.mpr ⟨lw_p1, List.forall_mem_cons.mpr ⟨lw_p2, List.forall_mem_cons.mpr ⟨lw_p3, List.forall_mem_cons.mpr ⟨lw_p4, List.forall_mem_cons.mpr ⟨lw_p5, List.forall_mem_cons.mpr ⟨lw_p6, List.forall_mem_cons.mpr ⟨lw_p7, List.forall_mem_cons.mpr ⟨lw_p8, List.forall_mem_cons.mpr ⟨lw_p9, List.forall_mem_cons.mpr ⟨lw_p10, List.forall_mem_cons.mpr ⟨lw_p11, List.forall_mem_cons.mpr ⟨lw_p12, List.forall_mem_cons.mpr ⟨lw_p13, List.forall_mem_cons.mpr ⟨lw_p14, List.forall_mem_cons.mpr ⟨lw_p15, fun _ h => absurd h List.not_mem_nil⟩⟩⟩⟩⟩⟩⟩⟩⟩⟩⟩⟩⟩⟩⟩⟩
theorem lw_p16 : lw_okq (⟨"SeatSwap$Train", "countAtTable", "(LSeatSwap$Traveller;I)V"⟩, 13) := ⟨⟨by decide +kernel, by decide +kernel⟩, List.mem_of_getElem? (i := 165) (by decide +kernel), List.mem_of_getElem? (i := 477) (by decide +kernel), List.mem_of_getElem? (i := 478) (by decide +kernel)⟩
theorem lw_p17 : lw_okq (⟨"SeatSwap", "settleDraft", "()I"⟩, 10) := ⟨⟨by decide +kernel, by decide +kernel⟩, List.mem_of_getElem? (i := 21) (by decide +kernel), List.mem_of_getElem? (i := 502) (by decide +kernel), List.mem_of_getElem? (i := 503) (by decide +kernel)⟩
theorem lw_p18 : lw_okq (⟨"SeatSwap$Train", "membersAt", "(II)I"⟩, 13) := ⟨⟨by decide +kernel, by decide +kernel⟩, List.mem_of_getElem? (i := 165) (by decide +kernel), List.mem_of_getElem? (i := 526) (by decide +kernel), List.mem_of_getElem? (i := 527) (by decide +kernel)⟩
theorem lw_p19 : lw_okq (⟨"SeatSwap$Train", "exchangeSeats", "(II)V"⟩, 13) := ⟨⟨by decide +kernel, by decide +kernel⟩, List.mem_of_getElem? (i := 165) (by decide +kernel), List.mem_of_getElem? (i := 545) (by decide +kernel), List.mem_of_getElem? (i := 546) (by decide +kernel)⟩
theorem lw_p20 : lw_okq (⟨"SeatSwap$Train", "sitDown", "(II)V"⟩, 13) := ⟨⟨by decide +kernel, by decide +kernel⟩, List.mem_of_getElem? (i := 165) (by decide +kernel), List.mem_of_getElem? (i := 549) (by decide +kernel), List.mem_of_getElem? (i := 550) (by decide +kernel)⟩
theorem lw_p21 : lw_okq (⟨"SeatSwap$Past", "trainAt", "(I)LSeatSwap$Train;"⟩, 3) := ⟨⟨by decide +kernel, by decide +kernel⟩, List.mem_of_getElem? (i := 249) (by decide +kernel), List.mem_of_getElem? (i := 558) (by decide +kernel), List.mem_of_getElem? (i := 559) (by decide +kernel)⟩
theorem lw_p22 : lw_okq (⟨"SeatSwap$Log", "indexOf", "(II)I"⟩, 3) := ⟨⟨by decide +kernel, by decide +kernel⟩, List.mem_of_getElem? (i := 174) (by decide +kernel), List.mem_of_getElem? (i := 570) (by decide +kernel), List.mem_of_getElem? (i := 571) (by decide +kernel)⟩
theorem lw_p23 : lw_okq (⟨"SeatSwap$Log", "put", "(II)V"⟩, 3) := ⟨⟨by decide +kernel, by decide +kernel⟩, List.mem_of_getElem? (i := 174) (by decide +kernel), List.mem_of_getElem? (i := 575) (by decide +kernel), List.mem_of_getElem? (i := 576) (by decide +kernel)⟩
theorem lw_p24 : lw_okq (⟨"SeatSwap$Train", "passSeats", "(III)V"⟩, 13) := ⟨⟨by decide +kernel, by decide +kernel⟩, List.mem_of_getElem? (i := 165) (by decide +kernel), List.mem_of_getElem? (i := 642) (by decide +kernel), List.mem_of_getElem? (i := 643) (by decide +kernel)⟩
theorem lw_p25 : lw_okq (⟨"SeatSwap$SetupWriter", "putText", "(Ljava/lang/String;)V"⟩, 3) := ⟨⟨by decide +kernel, by decide +kernel⟩, List.mem_of_getElem? (i := 147) (by decide +kernel), List.mem_of_getElem? (i := 659) (by decide +kernel), List.mem_of_getElem? (i := 660) (by decide +kernel)⟩
theorem lw_p26 : lw_okq (⟨"SeatSwap$SetupWriter", "put", "(I)V"⟩, 3) := ⟨⟨by decide +kernel, by decide +kernel⟩, List.mem_of_getElem? (i := 147) (by decide +kernel), List.mem_of_getElem? (i := 665) (by decide +kernel), List.mem_of_getElem? (i := 666) (by decide +kernel)⟩
theorem lw_p27 : lw_okq (⟨"SeatSwap$SetupWriter", "putNumber", "(I)V"⟩, 3) := ⟨⟨by decide +kernel, by decide +kernel⟩, List.mem_of_getElem? (i := 147) (by decide +kernel), List.mem_of_getElem? (i := 669) (by decide +kernel), List.mem_of_getElem? (i := 670) (by decide +kernel)⟩
theorem lw_p28 : lw_okq (⟨"SeatSwap$SetupWriter", "putTraveller", "(LSeatSwap$Traveller;)V"⟩, 3) := ⟨⟨by decide +kernel, by decide +kernel⟩, List.mem_of_getElem? (i := 147) (by decide +kernel), List.mem_of_getElem? (i := 676) (by decide +kernel), List.mem_of_getElem? (i := 677) (by decide +kernel)⟩
theorem lw_p29 : lw_okq (⟨"SeatSwap$SetupWriter", "putPart", "(Ljava/lang/String;II)V"⟩, 3) := ⟨⟨by decide +kernel, by decide +kernel⟩, List.mem_of_getElem? (i := 147) (by decide +kernel), List.mem_of_getElem? (i := 687) (by decide +kernel), List.mem_of_getElem? (i := 688) (by decide +kernel)⟩
theorem lw_p30 : lw_okq (⟨"SeatSwap$SetupWriter", "putLike", "(Ljava/lang/String;I)V"⟩, 3) := ⟨⟨by decide +kernel, by decide +kernel⟩, List.mem_of_getElem? (i := 147) (by decide +kernel), List.mem_of_getElem? (i := 692) (by decide +kernel), List.mem_of_getElem? (i := 693) (by decide +kernel)⟩
theorem lw_p31 : lw_okq (⟨"SeatSwap$Tape", "put", "(I)V"⟩, 2) := ⟨⟨by decide +kernel, by decide +kernel⟩, List.mem_of_getElem? (i := 35) (by decide +kernel), List.mem_of_getElem? (i := 718) (by decide +kernel), List.mem_of_getElem? (i := 719) (by decide +kernel)⟩
def lw_privs_2 : List (MethodName × Nat) := [(⟨"SeatSwap$Train", "countAtTable", "(LSeatSwap$Traveller;I)V"⟩, 13), (⟨"SeatSwap", "settleDraft", "()I"⟩, 10), (⟨"SeatSwap$Train", "membersAt", "(II)I"⟩, 13), (⟨"SeatSwap$Train", "exchangeSeats", "(II)V"⟩, 13), (⟨"SeatSwap$Train", "sitDown", "(II)V"⟩, 13), (⟨"SeatSwap$Past", "trainAt", "(I)LSeatSwap$Train;"⟩, 3), (⟨"SeatSwap$Log", "indexOf", "(II)I"⟩, 3), (⟨"SeatSwap$Log", "put", "(II)V"⟩, 3), (⟨"SeatSwap$Train", "passSeats", "(III)V"⟩, 13), (⟨"SeatSwap$SetupWriter", "putText", "(Ljava/lang/String;)V"⟩, 3), (⟨"SeatSwap$SetupWriter", "put", "(I)V"⟩, 3), (⟨"SeatSwap$SetupWriter", "putNumber", "(I)V"⟩, 3), (⟨"SeatSwap$SetupWriter", "putTraveller", "(LSeatSwap$Traveller;)V"⟩, 3), (⟨"SeatSwap$SetupWriter", "putPart", "(Ljava/lang/String;II)V"⟩, 3), (⟨"SeatSwap$SetupWriter", "putLike", "(Ljava/lang/String;I)V"⟩, 3), (⟨"SeatSwap$Tape", "put", "(I)V"⟩, 2)]
theorem lw_r2 : ∀ q ∈ lw_privs_2, lw_okq q := List.forall_mem_cons.mpr ⟨lw_p16, List.forall_mem_cons.mpr ⟨lw_p17, List.forall_mem_cons.mpr ⟨lw_p18, List.forall_mem_cons.mpr ⟨lw_p19, List.forall_mem_cons.mpr ⟨lw_p20, List.forall_mem_cons.mpr ⟨lw_p21, List.forall_mem_cons.mpr ⟨lw_p22, List.forall_mem_cons.mpr ⟨lw_p23, List.forall_mem_cons.mpr ⟨lw_p24, List.forall_mem_cons.mpr ⟨lw_p25, List.forall_mem_cons.mpr ⟨lw_p26, List.forall_mem_cons.mpr ⟨lw_p27, List.forall_mem_cons.mpr ⟨lw_p28, List.forall_mem_cons.mpr ⟨lw_p29, List.forall_mem_cons.mpr ⟨lw_p30, List.forall_mem_cons.mpr ⟨lw_p31, fun _ h => absurd h List.not_mem_nil⟩⟩⟩⟩⟩⟩⟩⟩⟩⟩⟩⟩⟩⟩⟩⟩
theorem lw_p32 : lw_okq (⟨"SeatSwap$Train", "isAt", "(II)Z"⟩, 13) := ⟨⟨by decide +kernel, by decide +kernel⟩, List.mem_of_getElem? (i := 165) (by decide +kernel), List.mem_of_getElem? (i := 1061) (by decide +kernel), List.mem_of_getElem? (i := 1062) (by decide +kernel)⟩
theorem lw_p33 : lw_okq (⟨"SeatSwap", "arePair", "(II)Z"⟩, 10) := ⟨⟨by decide +kernel, by decide +kernel⟩, List.mem_of_getElem? (i := 21) (by decide +kernel), List.mem_of_getElem? (i := 1092) (by decide +kernel), List.mem_of_getElem? (i := 1093) (by decide +kernel)⟩
theorem lw_p34 : lw_okq (⟨"SeatSwap$Train", "letOff", "(I)V"⟩, 13) := ⟨⟨by decide +kernel, by decide +kernel⟩, List.mem_of_getElem? (i := 165) (by decide +kernel), List.mem_of_getElem? (i := 1185) (by decide +kernel), List.mem_of_getElem? (i := 1186) (by decide +kernel)⟩
def lw_privs_3 : List (MethodName × Nat) := [(⟨"SeatSwap$Train", "isAt", "(II)Z"⟩, 13), (⟨"SeatSwap", "arePair", "(II)Z"⟩, 10), (⟨"SeatSwap$Train", "letOff", "(I)V"⟩, 13)]
theorem lw_r3 : ∀ q ∈ lw_privs_3, lw_okq q := List.forall_mem_cons.mpr ⟨lw_p32, List.forall_mem_cons.mpr ⟨lw_p33, List.forall_mem_cons.mpr ⟨lw_p34, fun _ h => absurd h List.not_mem_nil⟩⟩⟩
def lw_privs : List (MethodName × Nat) := lw_privs_1 ++ (lw_privs_2 ++ (lw_privs_3))
def lw_tbl : List Cond := k2_sels lw_privs ++ tables_1
theorem lw_privs_ok : ∀ q ∈ lw_privs, lw_okq q := by
  show ∀ q ∈ lw_privs_1 ++ (lw_privs_2 ++ (lw_privs_3)), lw_okq q
  exact List.forall_mem_append.mpr ⟨lw_r1, List.forall_mem_append.mpr ⟨lw_r2, lw_r3⟩⟩
/-- the streams that the claim lets the run draw from -/
abbrev lw_cs : List Choice := [Jvm.Choice.named "NaN.bits"]
theorem lw_bits : nanBits ∈ lw_cs := by first | decide | exact List.mem_cons_self | simp [lw_cs, nanBits]
-- ===== end of PART A; names, as printed, trimmed =====
def RX0 : String := "SeatSwap$Log"
def TX0 : u_T := fun k => match k with
  | 0 => ("SeatSwap$Log", "parts", "[I", true)
  | 1 => ("SeatSwap$Log", "oldest", "I", false)
  | _ => ("SeatSwap$Log", "size", "I", false)
def tyX0 : Nat → FieldType := fun k => match k with
  | 0 => .array .int
  | 1 => .int
  | _ => .int
abbrev wsX00 : List Cond := u_ws RX0 TX0 3
theorem nmX0 : ∀ a, a < 3 → ∀ b, b < 3 → a ≠ b → (TX0 a).2.1 ≠ (TX0 b).2.1 := by decide +kernel
theorem tyX0_ok : ∀ k, k < 3 → parseFieldDescriptor (TX0 k).2.2.1 = some (tyX0 k) := by decide +kernel
abbrev cX0_init : ByteArray := prog_2_method_1_code
def yX0_init : MethodName := ⟨RX0, "<init>", "()V"⟩
abbrev cX0_clear : ByteArray := prog_2_method_2_code
def yX0_clear : MethodName := ⟨RX0, "clear", "()V"⟩
abbrev cX0_copyFrom : ByteArray := prog_2_method_3_code
def yX0_copyFrom : MethodName := ⟨RX0, "copyFrom", "(LSeatSwap$Log;)V"⟩
abbrev cX0_indexOf : ByteArray := prog_2_method_4_code
def yX0_indexOf : MethodName := ⟨RX0, "indexOf", "(II)I"⟩
abbrev cX0_put : ByteArray := prog_2_method_5_code
def yX0_put : MethodName := ⟨RX0, "put", "(II)V"⟩
abbrev cX0_add : ByteArray := prog_2_method_6_code
def yX0_add : MethodName := ⟨RX0, "add", "(III)V"⟩
def RX1 : String := "SeatSwap$Past"
def TX1 : u_T := fun k => match k with
  | 0 => ("SeatSwap$Past", "trains", "[LSeatSwap$Train;", true)
  | 1 => ("SeatSwap$Past", "oldest", "I", false)
  | _ => ("SeatSwap$Past", "count", "I", false)
def tyX1 : Nat → FieldType := fun k => match k with
  | 0 => .array (.object "SeatSwap$Train")
  | 1 => .int
  | _ => .int
abbrev wsX10 : List Cond := u_ws RX1 TX1 3
theorem nmX1 : ∀ a, a < 3 → ∀ b, b < 3 → a ≠ b → (TX1 a).2.1 ≠ (TX1 b).2.1 := by decide +kernel
theorem tyX1_ok : ∀ k, k < 3 → parseFieldDescriptor (TX1 k).2.2.1 = some (tyX1 k) := by decide +kernel
abbrev cX1_init : ByteArray := prog_3_method_1_code
def yX1_init : MethodName := ⟨RX1, "<init>", "()V"⟩
abbrev cX1_forget : ByteArray := prog_3_method_2_code
def yX1_forget : MethodName := ⟨RX1, "forget", "()V"⟩
abbrev cX1_trainAt : ByteArray := prog_3_method_3_code
def yX1_trainAt : MethodName := ⟨RX1, "trainAt", "(I)LSeatSwap$Train;"⟩
abbrev cX1_remember : ByteArray := prog_3_method_4_code
def yX1_remember : MethodName := ⟨RX1, "remember", "(LSeatSwap$Train;)V"⟩
abbrev cX1_bringBack : ByteArray := prog_3_method_5_code
def yX1_bringBack : MethodName := ⟨RX1, "bringBack", "(LSeatSwap$Train;)V"⟩
def RX2 : String := "SeatSwap$SetupReader"
def TX2 : u_T := fun k => match k with
  | 0 => ("SeatSwap$SetupReader", "tape", "LSeatSwap$Tape;", true)
  | 1 => ("SeatSwap$SetupReader", "who", "LSeatSwap$Traveller;", true)
  | 2 => ("SeatSwap$SetupReader", "start", "I", false)
  | 3 => ("SeatSwap$SetupReader", "end", "I", false)
  | 4 => ("SeatSwap$SetupReader", "kind", "I", false)
  | _ => ("SeatSwap$SetupReader", "wrong", "Z", false)
def tyX2 : Nat → FieldType := fun k => match k with
  | 0 => .object "SeatSwap$Tape"
  | 1 => .object "SeatSwap$Traveller"
  | 2 => .int
  | 3 => .int
  | 4 => .int
  | _ => .boolean
abbrev wsX20 : List Cond := u_ws RX2 TX2 6
theorem nmX2 : ∀ a, a < 6 → ∀ b, b < 6 → a ≠ b → (TX2 a).2.1 ≠ (TX2 b).2.1 := by decide +kernel
theorem tyX2_ok : ∀ k, k < 6 → parseFieldDescriptor (TX2 k).2.2.1 = some (tyX2 k) := by decide +kernel
abbrev cX2_init : ByteArray := prog_4_method_1_code
def yX2_init : MethodName := ⟨RX2, "<init>", "()V"⟩
abbrev cX2_kindOf : ByteArray := prog_4_method_2_code
def yX2_kindOf : MethodName := ⟨RX2, "kindOf", "(I)I"⟩
abbrev cX2_begin : ByteArray := prog_4_method_3_code
def yX2_begin : MethodName := ⟨RX2, "begin", "()V"⟩
abbrev cX2_nextToken : ByteArray := prog_4_method_4_code
def yX2_nextToken : MethodName := ⟨RX2, "nextToken", "()V"⟩
abbrev cX2_isSign : ByteArray := prog_4_method_5_code
def yX2_isSign : MethodName := ⟨RX2, "isSign", "(C)Z"⟩
abbrev cX2_isWord : ByteArray := prog_4_method_6_code
def yX2_isWord : MethodName := ⟨RX2, "isWord", "(Ljava/lang/String;)Z"⟩
abbrev cX2_isKeyword : ByteArray := prog_4_method_7_code
def yX2_isKeyword : MethodName := ⟨RX2, "isKeyword", "()Z"⟩
abbrev cX2_isName : ByteArray := prog_4_method_8_code
def yX2_isName : MethodName := ⟨RX2, "isName", "()Z"⟩
abbrev cX2_packedName : ByteArray := prog_4_method_9_code
def yX2_packedName : MethodName := ⟨RX2, "packedName", "()I"⟩
abbrev cX2_number : ByteArray := prog_4_method_10_code
def yX2_number : MethodName := ⟨RX2, "number", "()I"⟩
abbrev cX2_pass : ByteArray := prog_4_method_11_code
def yX2_pass : MethodName := ⟨RX2, "pass", "(Z)V"⟩
abbrev cX2_take : ByteArray := prog_4_method_12_code
def yX2_take : MethodName := ⟨RX2, "take", "(Ljava/lang/String;)V"⟩
abbrev cX2_takeIfThere : ByteArray := prog_4_method_13_code
def yX2_takeIfThere : MethodName := ⟨RX2, "takeIfThere", "(Ljava/lang/String;)Z"⟩
abbrev cX2_takeInt : ByteArray := prog_4_method_14_code
def yX2_takeInt : MethodName := ⟨RX2, "takeInt", "(II)I"⟩
abbrev cX2_takeLike : ByteArray := prog_4_method_15_code
def yX2_takeLike : MethodName := ⟨RX2, "takeLike", "()I"⟩
abbrev cX2_takeFreeSeat : ByteArray := prog_4_method_16_code
def yX2_takeFreeSeat : MethodName := ⟨RX2, "takeFreeSeat", "(LSeatSwap$Train;)I"⟩
abbrev cX2_takeName : ByteArray := prog_4_method_17_code
def yX2_takeName : MethodName := ⟨RX2, "takeName", "()I"⟩
abbrev cX2_tapeIsName : ByteArray := prog_4_method_18_code
def yX2_tapeIsName : MethodName := ⟨RX2, "tapeIsName", "()Z"⟩
abbrev cX2_nameOnTape : ByteArray := prog_4_method_19_code
def yX2_nameOnTape : MethodName := ⟨RX2, "nameOnTape", "()I"⟩
abbrev cX2_readSetup : ByteArray := prog_4_method_20_code
def yX2_readSetup : MethodName := ⟨RX2, "readSetup", "(LSeatSwap$Train;)Z"⟩
abbrev cX2_readTraveller : ByteArray := prog_4_method_21_code
def yX2_readTraveller : MethodName := ⟨RX2, "readTraveller", "(LSeatSwap$Train;)V"⟩
def RX3 : String := "SeatSwap$SetupWriter"
def TX3 : u_T := fun k => match k with
  | 0 => ("SeatSwap$SetupWriter", "length", "I", false)
  | 1 => ("SeatSwap$SetupWriter", "wanted", "I", false)
  | _ => ("SeatSwap$SetupWriter", "found", "I", false)
def tyX3 : Nat → FieldType := fun k => match k with
  | 0 => .int
  | 1 => .int
  | _ => .int
abbrev wsX30 : List Cond := u_ws RX3 TX3 3
theorem nmX3 : ∀ a, a < 3 → ∀ b, b < 3 → a ≠ b → (TX3 a).2.1 ≠ (TX3 b).2.1 := by decide +kernel
theorem tyX3_ok : ∀ k, k < 3 → parseFieldDescriptor (TX3 k).2.2.1 = some (tyX3 k) := by decide +kernel
abbrev cX3_init : ByteArray := prog_5_method_1_code
def yX3_init : MethodName := ⟨RX3, "<init>", "()V"⟩
abbrev cX3_write : ByteArray := prog_5_method_2_code
def yX3_write : MethodName := ⟨RX3, "write", "(LSeatSwap$Train;I)V"⟩
abbrev cX3_putTraveller : ByteArray := prog_5_method_3_code
def yX3_putTraveller : MethodName := ⟨RX3, "putTraveller", "(LSeatSwap$Traveller;)V"⟩
abbrev cX3_putPart : ByteArray := prog_5_method_4_code
def yX3_putPart : MethodName := ⟨RX3, "putPart", "(Ljava/lang/String;II)V"⟩
abbrev cX3_putLike : ByteArray := prog_5_method_5_code
def yX3_putLike : MethodName := ⟨RX3, "putLike", "(Ljava/lang/String;I)V"⟩
abbrev cX3_putNumber : ByteArray := prog_5_method_6_code
def yX3_putNumber : MethodName := ⟨RX3, "putNumber", "(I)V"⟩
abbrev cX3_putText : ByteArray := prog_5_method_7_code
def yX3_putText : MethodName := ⟨RX3, "putText", "(Ljava/lang/String;)V"⟩
abbrev cX3_put : ByteArray := prog_5_method_8_code
def yX3_put : MethodName := ⟨RX3, "put", "(I)V"⟩
def RX4 : String := "SeatSwap$Tape"
def TX4 : u_T := fun k => match k with
  | 0 => ("SeatSwap$Tape", "bytes", "[I", true)
  | _ => ("SeatSwap$Tape", "length", "I", false)
def tyX4 : Nat → FieldType := fun k => match k with
  | 0 => .array .int
  | _ => .int
abbrev wsX40 : List Cond := u_ws RX4 TX4 2
theorem nmX4 : ∀ a, a < 2 → ∀ b, b < 2 → a ≠ b → (TX4 a).2.1 ≠ (TX4 b).2.1 := by decide +kernel
theorem tyX4_ok : ∀ k, k < 2 → parseFieldDescriptor (TX4 k).2.2.1 = some (tyX4 k) := by decide +kernel
abbrev cX4_init : ByteArray := prog_6_method_1_code
def yX4_init : MethodName := ⟨RX4, "<init>", "()V"⟩
abbrev cX4_hasRoom : ByteArray := prog_6_method_2_code
def yX4_hasRoom : MethodName := ⟨RX4, "hasRoom", "()Z"⟩
abbrev cX4_putFour : ByteArray := prog_6_method_3_code
def yX4_putFour : MethodName := ⟨RX4, "putFour", "(I)V"⟩
abbrev cX4_put : ByteArray := prog_6_method_4_code
def yX4_put : MethodName := ⟨RX4, "put", "(I)V"⟩
abbrev cX4_byteAt : ByteArray := prog_6_method_5_code
def yX4_byteAt : MethodName := ⟨RX4, "byteAt", "(I)I"⟩
def RX5 : String := "SeatSwap$Train"
def TX5 : u_T := fun k => match k with
  | 0 => ("SeatSwap$Train", "travellers", "[LSeatSwap$Traveller;", true)
  | 1 => ("SeatSwap$Train", "nobody", "LSeatSwap$Traveller;", true)
  | 2 => ("SeatSwap$Train", "members", "[I", true)
  | 3 => ("SeatSwap$Train", "log", "LSeatSwap$Log;", true)
  | 4 => ("SeatSwap$Train", "rows", "I", false)
  | 5 => ("SeatSwap$Train", "first", "I", false)
  | 6 => ("SeatSwap$Train", "time", "I", false)
  | 7 => ("SeatSwap$Train", "count", "I", false)
  | 8 => ("SeatSwap$Train", "swaps", "I", false)
  | 9 => ("SeatSwap$Train", "moves", "I", false)
  | 10 => ("SeatSwap$Train", "rings", "I", false)
  | 11 => ("SeatSwap$Train", "paid", "I", false)
  | _ => ("SeatSwap$Train", "gone", "I", false)
def tyX5 : Nat → FieldType := fun k => match k with
  | 0 => .array (.object "SeatSwap$Traveller")
  | 1 => .object "SeatSwap$Traveller"
  | 2 => .array .int
  | 3 => .object "SeatSwap$Log"
  | 4 => .int
  | 5 => .int
  | 6 => .int
  | 7 => .int
  | 8 => .int
  | 9 => .int
  | 10 => .int
  | 11 => .int
  | _ => .int
abbrev wsX50 : List Cond := u_ws RX5 TX5 13
theorem nmX5 : ∀ a, a < 13 → ∀ b, b < 13 → a ≠ b → (TX5 a).2.1 ≠ (TX5 b).2.1 := by decide +kernel
theorem tyX5_ok : ∀ k, k < 13 → parseFieldDescriptor (TX5 k).2.2.1 = some (tyX5 k) := by decide +kernel
abbrev cX5_init : ByteArray := prog_7_method_1_code
def yX5_init : MethodName := ⟨RX5, "<init>", "()V"⟩
abbrev cX5_clear : ByteArray := prog_7_method_2_code
def yX5_clear : MethodName := ⟨RX5, "clear", "()V"⟩
abbrev cX5_copyFrom : ByteArray := prog_7_method_3_code
def yX5_copyFrom : MethodName := ⟨RX5, "copyFrom", "(LSeatSwap$Train;)V"⟩
abbrev cX5_traveller : ByteArray := prog_7_method_4_code
def yX5_traveller : MethodName := ⟨RX5, "traveller", "(I)LSeatSwap$Traveller;"⟩
abbrev cX5_seats : ByteArray := prog_7_method_5_code
def yX5_seats : MethodName := ⟨RX5, "seats", "()I"⟩
abbrev cX5_tables : ByteArray := prog_7_method_6_code
def yX5_tables : MethodName := ⟨RX5, "tables", "()I"⟩
abbrev cX5_isSeat : ByteArray := prog_7_method_7_code
def yX5_isSeat : MethodName := ⟨RX5, "isSeat", "(I)Z"⟩
abbrev cX5_isTraveller : ByteArray := prog_7_method_8_code
def yX5_isTraveller : MethodName := ⟨RX5, "isTraveller", "(I)Z"⟩
abbrev cX5_isInRange : ByteArray := prog_7_method_9_code
def yX5_isInRange : MethodName := ⟨RX5, "isInRange", "(II)Z"⟩
abbrev cX5_whoHas : ByteArray := prog_7_method_10_code
def yX5_whoHas : MethodName := ⟨RX5, "whoHas", "(I)I"⟩
abbrev cX5_isFree : ByteArray := prog_7_method_11_code
def yX5_isFree : MethodName := ⟨RX5, "isFree", "(I)Z"⟩
abbrev cX5_allows : ByteArray := prog_7_method_12_code
def yX5_allows : MethodName := ⟨RX5, "allows", "(II)Z"⟩
abbrev cX5_maySit : ByteArray := prog_7_method_13_code
def yX5_maySit : MethodName := ⟨RX5, "maySit", "(II)Z"⟩
abbrev cX5_barredBy : ByteArray := prog_7_method_14_code
def yX5_barredBy : MethodName := ⟨RX5, "barredBy", "(I)I"⟩
abbrev cX5_membersAt : ByteArray := prog_7_method_15_code
def yX5_membersAt : MethodName := ⟨RX5, "membersAt", "(II)I"⟩
abbrev cX5_countAtTable : ByteArray := prog_7_method_16_code
def yX5_countAtTable : MethodName := ⟨RX5, "countAtTable", "(LSeatSwap$Traveller;I)V"⟩
abbrev cX5_admit : ByteArray := prog_7_method_17_code
def yX5_admit : MethodName := ⟨RX5, "\x61dmit", "(LSeatSwap$Traveller;)V"⟩
abbrev cX5_letOff : ByteArray := prog_7_method_18_code
def yX5_letOff : MethodName := ⟨RX5, "letOff", "(I)V"⟩
abbrev cX5_goOn : ByteArray := prog_7_method_19_code
def yX5_goOn : MethodName := ⟨RX5, "goOn", "()V"⟩
abbrev cX5_joyIn : ByteArray := prog_7_method_20_code
def yX5_joyIn : MethodName := ⟨RX5, "joyIn", "(II)I"⟩
abbrev cX5_joyOf : ByteArray := prog_7_method_21_code
def yX5_joyOf : MethodName := ⟨RX5, "joyOf", "(I)I"⟩
abbrev cX5_relativesAt : ByteArray := prog_7_method_22_code
def yX5_relativesAt : MethodName := ⟨RX5, "relativesAt", "(LSeatSwap$Traveller;I)I"⟩
abbrev cX5_looksForward : ByteArray := prog_7_method_23_code
def yX5_looksForward : MethodName := ⟨RX5, "looksForward", "(I)Z"⟩
abbrev cX5_sumOfJoys : ByteArray := prog_7_method_24_code
def yX5_sumOfJoys : MethodName := ⟨RX5, "sumOfJoys", "()I"⟩
abbrev cX5_grumblers : ByteArray := prog_7_method_25_code
def yX5_grumblers : MethodName := ⟨RX5, "grumblers", "()I"⟩
abbrev cX5_placeOf : ByteArray := prog_7_method_26_code
def yX5_placeOf : MethodName := ⟨RX5, "placeOf", "(I)I"⟩
abbrev cX5_whoIsAtPlace : ByteArray := prog_7_method_27_code
def yX5_whoIsAtPlace : MethodName := ⟨RX5, "whoIsAtPlace", "(I)I"⟩
abbrev cX5_isAt : ByteArray := prog_7_method_28_code
def yX5_isAt : MethodName := ⟨RX5, "isAt", "(II)Z"⟩
abbrev cX5_travellersAt : ByteArray := prog_7_method_29_code
def yX5_travellersAt : MethodName := ⟨RX5, "travellersAt", "(I)I"⟩
abbrev cX5_grumblersAt : ByteArray := prog_7_method_30_code
def yX5_grumblersAt : MethodName := ⟨RX5, "grumblersAt", "(I)I"⟩
abbrev cX5_sumOfJoysAt : ByteArray := prog_7_method_31_code
def yX5_sumOfJoysAt : MethodName := ⟨RX5, "sumOfJoysAt", "(I)I"⟩
abbrev cX5_greatestFamilyAt : ByteArray := prog_7_method_32_code
def yX5_greatestFamilyAt : MethodName := ⟨RX5, "greatestFamilyAt", "(I)I"⟩
abbrev cX5_membersOf : ByteArray := prog_7_method_33_code
def yX5_membersOf : MethodName := ⟨RX5, "membersOf", "(I)I"⟩
abbrev cX5_tablesOf : ByteArray := prog_7_method_34_code
def yX5_tablesOf : MethodName := ⟨RX5, "tablesOf", "(I)I"⟩
abbrev cX5_sumOfJoysOf : ByteArray := prog_7_method_35_code
def yX5_sumOfJoysOf : MethodName := ⟨RX5, "sumOfJoysOf", "(I)I"⟩
abbrev cX5_families : ByteArray := prog_7_method_36_code
def yX5_families : MethodName := ⟨RX5, "families", "()I"⟩
abbrev cX5_sumOfSweets : ByteArray := prog_7_method_37_code
def yX5_sumOfSweets : MethodName := ⟨RX5, "sumOfSweets", "()I"⟩
abbrev cX5_sitDown : ByteArray := prog_7_method_38_code
def yX5_sitDown : MethodName := ⟨RX5, "sitDown", "(II)V"⟩
abbrev cX5_exchangeSeats : ByteArray := prog_7_method_39_code
def yX5_exchangeSeats : MethodName := ⟨RX5, "exchangeSeats", "(II)V"⟩
abbrev cX5_passSeats : ByteArray := prog_7_method_40_code
def yX5_passSeats : MethodName := ⟨RX5, "passSeats", "(III)V"⟩
abbrev cX5_riseBySwap : ByteArray := prog_7_method_41_code
def yX5_riseBySwap : MethodName := ⟨RX5, "riseBySwap", "(II)I"⟩
abbrev cX5_sumIfSwapped : ByteArray := prog_7_method_42_code
def yX5_sumIfSwapped : MethodName := ⟨RX5, "sumIfSwapped", "(II)I"⟩
abbrev cX5_swapReason : ByteArray := prog_7_method_43_code
def yX5_swapReason : MethodName := ⟨RX5, "swapReason", "(III)I"⟩
abbrev cX5_doSwap : ByteArray := prog_7_method_44_code
def yX5_doSwap : MethodName := ⟨RX5, "doSwap", "(III)V"⟩
abbrev cX5_moveReason : ByteArray := prog_7_method_45_code
def yX5_moveReason : MethodName := ⟨RX5, "moveReason", "(II)I"⟩
abbrev cX5_doMove : ByteArray := prog_7_method_46_code
def yX5_doMove : MethodName := ⟨RX5, "doMove", "(II)V"⟩
abbrev cX5_ringReason : ByteArray := prog_7_method_47_code
def yX5_ringReason : MethodName := ⟨RX5, "ringReason", "(III)I"⟩
abbrev cX5_riseByRing : ByteArray := prog_7_method_48_code
def yX5_riseByRing : MethodName := ⟨RX5, "riseByRing", "(III)I"⟩
abbrev cX5_doRing : ByteArray := prog_7_method_49_code
def yX5_doRing : MethodName := ⟨RX5, "doRing", "(III)V"⟩
abbrev cX5_risingRings : ByteArray := prog_7_method_50_code
def yX5_risingRings : MethodName := ⟨RX5, "risingRings", "()I"⟩
abbrev cX5_bestSeatFor : ByteArray := prog_7_method_51_code
def yX5_bestSeatFor : MethodName := ⟨RX5, "bestSeatFor", "(I)I"⟩
abbrev cX5_partnerFor : ByteArray := prog_7_method_52_code
def yX5_partnerFor : MethodName := ⟨RX5, "partnerFor", "(I)I"⟩
abbrev cX5_settleOnce : ByteArray := prog_7_method_53_code
def yX5_settleOnce : MethodName := ⟨RX5, "settleOnce", "()Z"⟩
def RX6 : String := "SeatSwap$Traveller"
def TX6 : u_T := fun k => match k with
  | 0 => ("SeatSwap$Traveller", "name", "I", false)
  | 1 => ("SeatSwap$Traveller", "seat", "I", false)
  | 2 => ("SeatSwap$Traveller", "ticket", "I", false)
  | 3 => ("SeatSwap$Traveller", "family", "I", false)
  | 4 => ("SeatSwap$Traveller", "window", "I", false)
  | 5 => ("SeatSwap$Traveller", "ahead", "I", false)
  | 6 => ("SeatSwap$Traveller", "row", "I", false)
  | 7 => ("SeatSwap$Traveller", "pulls", "I", false)
  | 8 => ("SeatSwap$Traveller", "sweets", "I", false)
  | _ => ("SeatSwap$Traveller", "stop", "I", false)
def tyX6 : Nat → FieldType := fun k => match k with
  | 0 => .int
  | 1 => .int
  | 2 => .int
  | 3 => .int
  | 4 => .int
  | 5 => .int
  | 6 => .int
  | 7 => .int
  | 8 => .int
  | _ => .int
abbrev wsX60 : List Cond := u_ws RX6 TX6 10
theorem nmX6 : ∀ a, a < 10 → ∀ b, b < 10 → a ≠ b → (TX6 a).2.1 ≠ (TX6 b).2.1 := by decide +kernel
theorem tyX6_ok : ∀ k, k < 10 → parseFieldDescriptor (TX6 k).2.2.1 = some (tyX6 k) := by decide +kernel
abbrev cX6_init : ByteArray := prog_8_method_1_code
def yX6_init : MethodName := ⟨RX6, "<init>", "()V"⟩
abbrev cX6_clear : ByteArray := prog_8_method_2_code
def yX6_clear : MethodName := ⟨RX6, "clear", "()V"⟩
abbrev cX6_copyFrom : ByteArray := prog_8_method_3_code
def yX6_copyFrom : MethodName := ⟨RX6, "copyFrom", "(LSeatSwap$Traveller;)V"⟩
abbrev cX6_settable : ByteArray := prog_8_method_4_code
def yX6_settable : MethodName := ⟨RX6, "settable", "(I)I"⟩
abbrev cX6_change : ByteArray := prog_8_method_5_code
def yX6_change : MethodName := ⟨RX6, "change", "(II)V"⟩
abbrev cX6_letterAt : ByteArray := prog_8_method_6_code
def yX6_letterAt : MethodName := ⟨RX6, "letterAt", "(I)I"⟩
def RX7 : String := "SeatSwap"
def TX7 : u_T := fun k => match k with
  | 0 => ("SeatSwap", "tape", "LSeatSwap$Tape;", true)
  | 1 => ("SeatSwap", "reader", "LSeatSwap$SetupReader;", true)
  | 2 => ("SeatSwap", "writer", "LSeatSwap$SetupWriter;", true)
  | 3 => ("SeatSwap", "train", "LSeatSwap$Train;", true)
  | 4 => ("SeatSwap", "draft", "LSeatSwap$Train;", true)
  | 5 => ("SeatSwap", "guest", "LSeatSwap$Traveller;", true)
  | 6 => ("SeatSwap", "slots", "[LSeatSwap$Train;", true)
  | 7 => ("SeatSwap", "filled", "[Z", true)
  | 8 => ("SeatSwap", "past", "LSeatSwap$Past;", true)
  | _ => ("SeatSwap", "errorAt", "I", false)
def tyX7 : Nat → FieldType := fun k => match k with
  | 0 => .object "SeatSwap$Tape"
  | 1 => .object "SeatSwap$SetupReader"
  | 2 => .object "SeatSwap$SetupWriter"
  | 3 => .object "SeatSwap$Train"
  | 4 => .object "SeatSwap$Train"
  | 5 => .object "SeatSwap$Traveller"
  | 6 => .array (.object "SeatSwap$Train")
  | 7 => .array .boolean
  | 8 => .object "SeatSwap$Past"
  | _ => .int
abbrev wsX70 : List Cond := u_ws RX7 TX7 10
theorem nmX7 : ∀ a, a < 10 → ∀ b, b < 10 → a ≠ b → (TX7 a).2.1 ≠ (TX7 b).2.1 := by decide +kernel
theorem tyX7_ok : ∀ k, k < 10 → parseFieldDescriptor (TX7 k).2.2.1 = some (tyX7 k) := by decide +kernel
abbrev cX7_init : ByteArray := prog_1_method_1_code
def yX7_init : MethodName := ⟨RX7, "<init>", "()V"⟩
abbrev cX7_append : ByteArray := prog_1_method_2_code
def yX7_append : MethodName := ⟨RX7, "append", "(IIIII)I"⟩
abbrev cX7_truncate : ByteArray := prog_1_method_3_code
def yX7_truncate : MethodName := ⟨RX7, "truncate", "(I)I"⟩
abbrev cX7_load : ByteArray := prog_1_method_4_code
def yX7_load : MethodName := ⟨RX7, "load", "()I"⟩
abbrev cX7_errorPosition : ByteArray := prog_1_method_5_code
def yX7_errorPosition : MethodName := ⟨RX7, "errorPosition", "()I"⟩
abbrev cX7_come : ByteArray := prog_1_method_6_code
def yX7_come : MethodName := ⟨RX7, "come", "(IIIII)I"⟩
abbrev cX7_set : ByteArray := prog_1_method_7_code
def yX7_set : MethodName := ⟨RX7, "set", "(III)I"⟩
abbrev cX7_first : ByteArray := prog_1_method_8_code
def yX7_first : MethodName := ⟨RX7, "first", "(I)I"⟩
abbrev cX7_swap : ByteArray := prog_1_method_9_code
def yX7_swap : MethodName := ⟨RX7, "swap", "(III)I"⟩
abbrev cX7_move : ByteArray := prog_1_method_10_code
def yX7_move : MethodName := ⟨RX7, "move", "(II)I"⟩
abbrev cX7_ring : ByteArray := prog_1_method_11_code
def yX7_ring : MethodName := ⟨RX7, "ring", "(III)I"⟩
abbrev cX7_settle : ByteArray := prog_1_method_12_code
def yX7_settle : MethodName := ⟨RX7, "settle", "()I"⟩
abbrev cX7_station : ByteArray := prog_1_method_13_code
def yX7_station : MethodName := ⟨RX7, "station", "(I)I"⟩
abbrev cX7_keep : ByteArray := prog_1_method_14_code
def yX7_keep : MethodName := ⟨RX7, "keep", "(I)I"⟩
abbrev cX7_restore : ByteArray := prog_1_method_15_code
def yX7_restore : MethodName := ⟨RX7, "restore", "(I)I"⟩
abbrev cX7_undo : ByteArray := prog_1_method_16_code
def yX7_undo : MethodName := ⟨RX7, "undo", "()I"⟩
abbrev cX7_value : ByteArray := prog_1_method_17_code
def yX7_value : MethodName := ⟨RX7, "value", "(I)I"⟩
abbrev cX7_of : ByteArray := prog_1_method_18_code
def yX7_of : MethodName := ⟨RX7, "of", "(II)I"⟩
abbrev cX7_at : ByteArray := prog_1_method_20_code
def yX7_at : MethodName := ⟨RX7, "at", "(I)I"⟩
abbrev cX7_table : ByteArray := prog_1_method_21_code
def yX7_table : MethodName := ⟨RX7, "table", "(II)I"⟩
abbrev cX7_family : ByteArray := prog_1_method_22_code
def yX7_family : MethodName := ⟨RX7, "family", "(II)I"⟩
abbrev cX7_ranked : ByteArray := prog_1_method_23_code
def yX7_ranked : MethodName := ⟨RX7, "ranked", "(I)I"⟩
abbrev cX7_why : ByteArray := prog_1_method_24_code
def yX7_why : MethodName := ⟨RX7, "why", "(III)I"⟩
abbrev cX7_whyMove : ByteArray := prog_1_method_25_code
def yX7_whyMove : MethodName := ⟨RX7, "whyMove", "(II)I"⟩
abbrev cX7_joyAt : ByteArray := prog_1_method_26_code
def yX7_joyAt : MethodName := ⟨RX7, "joyAt", "(II)I"⟩
abbrev cX7_ifSwapped : ByteArray := prog_1_method_27_code
def yX7_ifSwapped : MethodName := ⟨RX7, "ifSwapped", "(III)I"⟩
abbrev cX7_leastPrice : ByteArray := prog_1_method_28_code
def yX7_leastPrice : MethodName := ⟨RX7, "leastPrice", "(II)I"⟩
abbrev cX7_bestSeat : ByteArray := prog_1_method_29_code
def yX7_bestSeat : MethodName := ⟨RX7, "bestSeat", "(I)I"⟩
abbrev cX7_partner : ByteArray := prog_1_method_30_code
def yX7_partner : MethodName := ⟨RX7, "partner", "(I)I"⟩
abbrev cX7_rings : ByteArray := prog_1_method_31_code
def yX7_rings : MethodName := ⟨RX7, "rings", "()I"⟩
abbrev cX7_ifSettled : ByteArray := prog_1_method_32_code
def yX7_ifSettled : MethodName := ⟨RX7, "ifSettled", "(I)I"⟩
abbrev cX7_ifFirst : ByteArray := prog_1_method_33_code
def yX7_ifFirst : MethodName := ⟨RX7, "ifFirst", "(I)I"⟩
abbrev cX7_full : ByteArray := prog_1_method_35_code
def yX7_full : MethodName := ⟨RX7, "full", "()F"⟩
abbrev cX7_meanJoy : ByteArray := prog_1_method_36_code
def yX7_meanJoy : MethodName := ⟨RX7, "meanJoy", "()D"⟩
abbrev cX7_setupLength : ByteArray := prog_1_method_39_code
def yX7_setupLength : MethodName := ⟨RX7, "setupLength", "()I"⟩
abbrev cX7_setupByte : ByteArray := prog_1_method_40_code
def yX7_setupByte : MethodName := ⟨RX7, "setupByte", "(I)I"⟩
abbrev cX7_isIn : ByteArray := prog_1_method_41_code
def yX7_isIn : MethodName := ⟨RX7, "isIn", "(III)Z"⟩
abbrev cX7_refusal : ByteArray := prog_1_method_42_code
def yX7_refusal : MethodName := ⟨RX7, "refusal", "(I)I"⟩
abbrev cX7_arePair : ByteArray := prog_1_method_43_code
def yX7_arePair : MethodName := ⟨RX7, "arePair", "(II)Z"⟩
abbrev cX7_settleDraft : ByteArray := prog_1_method_44_code
def yX7_settleDraft : MethodName := ⟨RX7, "settleDraft", "()I"⟩
def RX8 : String := "SeatSwapModel"
def TX8 : u_T := fun k => match k with
  | _ => ("", "", "", false)
def tyX8 : Nat → FieldType := fun k => match k with
  | _ => .int
abbrev wsX80 : List Cond := u_ws RX8 TX8 0
theorem nmX8 : ∀ a, a < 0 → ∀ b, b < 0 → a ≠ b → (TX8 a).2.1 ≠ (TX8 b).2.1 := by decide +kernel
theorem tyX8_ok : ∀ k, k < 0 → parseFieldDescriptor (TX8 k).2.2.1 = some (tyX8 k) := by decide +kernel
def RJ5 : String := "java/lang/AbstractStringBuilder"
def TJ5 : u_T := fun k => match k with
  | _ => ("", "", "", false)
def tyJ5 : Nat → FieldType := fun k => match k with
  | _ => .int
abbrev wsJ50 : List Cond := u_ws RJ5 TJ5 0
theorem nmJ5 : ∀ a, a < 0 → ∀ b, b < 0 → a ≠ b → (TJ5 a).2.1 ≠ (TJ5 b).2.1 := by decide +kernel
theorem tyJ5_ok : ∀ k, k < 0 → parseFieldDescriptor (TJ5 k).2.2.1 = some (tyJ5 k) := by decide +kernel
abbrev cJ5_init_d00df : ByteArray := prog_11_method_2_code
def yJ5_init_d00df : MethodName := ⟨RJ5, "<init>", "(I)V"⟩
abbrev cJ5_init_a7421 : ByteArray := prog_11_method_3_code
def yJ5_init_a7421 : MethodName := ⟨RJ5, "<init>", "(Ljava/lang/String;)V"⟩
abbrev cJ5_length_8abf5 : ByteArray := prog_11_method_6_code
def yJ5_length_8abf5 : MethodName := ⟨RJ5, "length", "()I"⟩
abbrev cJ5_ensureCapacityInternal_d00df : ByteArray := prog_11_method_9_code
def yJ5_ensureCapacityInternal_d00df : MethodName := ⟨RJ5, "ensureCapacityInternal", "(I)V"⟩
abbrev cJ5_newCapacity_0f7a4 : ByteArray := prog_11_method_10_code
def yJ5_newCapacity_0f7a4 : MethodName := ⟨RJ5, "newCapacity", "(I)I"⟩
abbrev cJ5_inflate_da8c8 : ByteArray := prog_11_method_11_code
def yJ5_inflate_da8c8 : MethodName := ⟨RJ5, "inflate", "()V"⟩
abbrev cJ5_append_cf1ce : ByteArray := prog_11_method_22_code
def yJ5_append_cf1ce : MethodName := ⟨RJ5, "append", "(Ljava/lang/String;)Ljava/lang/AbstractStringBuilder;"⟩
abbrev cJ5_appendNull_278bc : ByteArray := prog_11_method_26_code
def yJ5_appendNull_278bc : MethodName := ⟨RJ5, "appendNull", "()Ljava/lang/AbstractStringBuilder;"⟩
abbrev cJ5_append_3fe6f : ByteArray := prog_11_method_31_code
def yJ5_append_3fe6f : MethodName := ⟨RJ5, "append", "(C)Ljava/lang/AbstractStringBuilder;"⟩
abbrev cJ5_append_c97b9 : ByteArray := prog_11_method_32_code
def yJ5_append_c97b9 : MethodName := ⟨RJ5, "append", "(I)Ljava/lang/AbstractStringBuilder;"⟩
abbrev cJ5_getValue_6d5f1 : ByteArray := prog_11_method_64_code
def yJ5_getValue_6d5f1 : MethodName := ⟨RJ5, "getValue", "()[B"⟩
abbrev cJ5_isLatin1_aae02 : ByteArray := prog_11_method_68_code
def yJ5_isLatin1_aae02 : MethodName := ⟨RJ5, "isLatin1", "()Z"⟩
abbrev cJ5_inflateIfNeededFor_a7421 : ByteArray := prog_11_method_71_code
def yJ5_inflateIfNeededFor_a7421 : MethodName := ⟨RJ5, "inflateIfNeededFor", "(Ljava/lang/String;)V"⟩
abbrev cJ5_putStringAt_47b60 : ByteArray := prog_11_method_73_code
def yJ5_putStringAt_47b60 : MethodName := ⟨RJ5, "putStringAt", "(ILjava/lang/String;)V"⟩
def RJx8e188 : String := "java/lang/Cloneable"
def TJx8e188 : u_T := fun k => match k with
  | _ => ("", "", "", false)
def tyJx8e188 : Nat → FieldType := fun k => match k with
  | _ => .int
abbrev wsJx8e1880 : List Cond := u_ws RJx8e188 TJx8e188 0
theorem nmJx8e188 : ∀ a, a < 0 → ∀ b, b < 0 → a ≠ b → (TJx8e188 a).2.1 ≠ (TJx8e188 b).2.1 := by decide +kernel
theorem tyJx8e188_ok : ∀ k, k < 0 → parseFieldDescriptor (TJx8e188 k).2.2.1 = some (tyJx8e188 k) := by decide +kernel
def RJ6 : String := "java/lang/Integer"
def TJ6 : u_T := fun k => match k with
  | _ => ("", "", "", false)
def tyJ6 : Nat → FieldType := fun k => match k with
  | _ => .int
abbrev wsJ60 : List Cond := u_ws RJ6 TJ6 0
theorem nmJ6 : ∀ a, a < 0 → ∀ b, b < 0 → a ≠ b → (TJ6 a).2.1 ≠ (TJ6 b).2.1 := by decide +kernel
theorem tyJ6_ok : ∀ k, k < 0 → parseFieldDescriptor (TJ6 k).2.2.1 = some (tyJ6 k) := by decide +kernel
abbrev cJ6_getChars_ba4f3 : ByteArray := prog_13_method_12_code
def yJ6_getChars_ba4f3 : MethodName := ⟨RJ6, "getChars", "(II[B)I"⟩
abbrev cJ6_stringSize_0f7a4 : ByteArray := prog_13_method_13_code
def yJ6_stringSize_0f7a4 : MethodName := ⟨RJ6, "stringSize", "(I)I"⟩
def RJ9 : String := "java/lang/Math"
def TJ9 : u_T := fun k => match k with
  | _ => ("", "", "", false)
def tyJ9 : Nat → FieldType := fun k => match k with
  | _ => .int
abbrev wsJ90 : List Cond := u_ws RJ9 TJ9 0
theorem nmJ9 : ∀ a, a < 0 → ∀ b, b < 0 → a ≠ b → (TJ9 a).2.1 ≠ (TJ9 b).2.1 := by decide +kernel
theorem tyJ9_ok : ∀ k, k < 0 → parseFieldDescriptor (TJ9 k).2.2.1 = some (tyJ9 k) := by decide +kernel
abbrev cJ9_floorMod_7cf53 : ByteArray := prog_14_method_50_code
def yJ9_floorMod_7cf53 : MethodName := ⟨RJ9, "floorMod", "(II)I"⟩
abbrev cJ9_abs_0f7a4 : ByteArray := prog_14_method_59_code
def yJ9_abs_0f7a4 : MethodName := ⟨RJ9, "abs", "(I)I"⟩
abbrev cJ9_max_7cf53 : ByteArray := prog_14_method_65_code
def yJ9_max_7cf53 : MethodName := ⟨RJ9, "max", "(II)I"⟩
abbrev cJ9_min_7cf53 : ByteArray := prog_14_method_69_code
def yJ9_min_7cf53 : MethodName := ⟨RJ9, "min", "(II)I"⟩
def RJ0 : String := "java/lang/String"
def TJ0 : u_T := fun k => match k with
  | 0 => ("java/lang/String", "value", "[B", true)
  | 1 => ("java/lang/String", "coder", "B", true)
  | 2 => ("java/lang/String", "hash", "I", false)
  | _ => ("java/lang/String", "hashIsZero", "Z", false)
def tyJ0 : Nat → FieldType := fun k => match k with
  | 0 => .array .byte
  | 1 => .byte
  | 2 => .int
  | _ => .boolean
abbrev wsJ00 : List Cond := u_ws RJ0 TJ0 4
theorem nmJ0 : ∀ a, a < 4 → ∀ b, b < 4 → a ≠ b → (TJ0 a).2.1 ≠ (TJ0 b).2.1 := by decide +kernel
theorem tyJ0_ok : ∀ k, k < 4 → parseFieldDescriptor (TJ0 k).2.2.1 = some (tyJ0 k) := by decide +kernel
abbrev cJ0_init_81219 : ByteArray := prog_15_method_53_code
def yJ0_init_81219 : MethodName := ⟨RJ0, "<init>", "(Ljava/lang/StringBuilder;)V"⟩
abbrev cJ0_length_8abf5 : ByteArray := prog_15_method_54_code
def yJ0_length_8abf5 : MethodName := ⟨RJ0, "length", "()I"⟩
abbrev cJ0_charAt_5068e : ByteArray := prog_15_method_56_code
def yJ0_charAt_5068e : MethodName := ⟨RJ0, "charAt", "(I)C"⟩
abbrev cJ0_getBytes_840e7 : ByteArray := prog_15_method_147_code
def yJ0_getBytes_840e7 : MethodName := ⟨RJ0, "getBytes", "([BIB)V"⟩
abbrev cJ0_init_db425 : ByteArray := prog_15_method_150_code
def yJ0_init_db425 : MethodName := ⟨RJ0, "<init>", "(Ljava/lang/AbstractStringBuilder;Ljava/lang/Void;)V"⟩
abbrev cJ0_coder_7d493 : ByteArray := prog_15_method_152_code
def yJ0_coder_7d493 : MethodName := ⟨RJ0, "coder", "()B"⟩
abbrev cJ0_isLatin1_aae02 : ByteArray := prog_15_method_154_code
def yJ0_isLatin1_aae02 : MethodName := ⟨RJ0, "isLatin1", "()Z"⟩
abbrev cJ0_checkIndex_df160 : ByteArray := prog_15_method_155_code
def yJ0_checkIndex_df160 : MethodName := ⟨RJ0, "checkIndex", "(II)V"⟩
abbrev cJ0_checkBoundsOffCount_cabcc : ByteArray := prog_15_method_157_code
def yJ0_checkBoundsOffCount_cabcc : MethodName := ⟨RJ0, "checkBoundsOffCount", "(III)I"⟩
abbrev cJ0_checkBoundsBeginEnd_23922 : ByteArray := prog_15_method_158_code
def yJ0_checkBoundsBeginEnd_23922 : MethodName := ⟨RJ0, "checkBoundsBeginEnd", "(III)V"⟩
def RJ4 : String := "java/lang/StringBuilder"
def TJ4 : u_T := fun k => match k with
  | 0 => ("java/lang/AbstractStringBuilder", "value", "[B", false)
  | 1 => ("java/lang/AbstractStringBuilder", "coder", "B", false)
  | 2 => ("java/lang/AbstractStringBuilder", "maybeLatin1", "Z", false)
  | _ => ("java/lang/AbstractStringBuilder", "count", "I", false)
def tyJ4 : Nat → FieldType := fun k => match k with
  | 0 => .array .byte
  | 1 => .byte
  | 2 => .boolean
  | _ => .int
abbrev wsJ40 : List Cond := u_ws RJ4 TJ4 4
theorem nmJ4 : ∀ a, a < 4 → ∀ b, b < 4 → a ≠ b → (TJ4 a).2.1 ≠ (TJ4 b).2.1 := by decide +kernel
theorem tyJ4_ok : ∀ k, k < 4 → parseFieldDescriptor (TJ4 k).2.2.1 = some (tyJ4 k) := by decide +kernel
abbrev cJ4_init_da8c8 : ByteArray := prog_16_method_1_code
def yJ4_init_da8c8 : MethodName := ⟨RJ4, "<init>", "()V"⟩
abbrev cJ4_init_a7421 : ByteArray := prog_16_method_3_code
def yJ4_init_a7421 : MethodName := ⟨RJ4, "<init>", "(Ljava/lang/String;)V"⟩
abbrev cJ4_append_15ec4 : ByteArray := prog_16_method_7_code
def yJ4_append_15ec4 : MethodName := ⟨RJ4, "append", "(Ljava/lang/String;)Ljava/lang/StringBuilder;"⟩
abbrev cJ4_append_cf468 : ByteArray := prog_16_method_14_code
def yJ4_append_cf468 : MethodName := ⟨RJ4, "append", "(C)Ljava/lang/StringBuilder;"⟩
abbrev cJ4_append_bf812 : ByteArray := prog_16_method_15_code
def yJ4_append_bf812 : MethodName := ⟨RJ4, "append", "(I)Ljava/lang/StringBuilder;"⟩
abbrev cJ4_toString_0e30d : ByteArray := prog_16_method_42_code
def yJ4_toString_0e30d : MethodName := ⟨RJ4, "toString", "()Ljava/lang/String;"⟩
abbrev cJ4_append_cf1ce : ByteArray := prog_16_method_80_code
def yJ4_append_cf1ce : MethodName := ⟨RJ4, "append", "(Ljava/lang/String;)Ljava/lang/AbstractStringBuilder;"⟩
abbrev cJ4_length_8abf5 : ByteArray := prog_16_method_93_code
def yJ4_length_8abf5 : MethodName := ⟨RJ4, "length", "()I"⟩
def RJ1 : String := "java/lang/StringLatin1"
def TJ1 : u_T := fun k => match k with
  | _ => ("", "", "", false)
def tyJ1 : Nat → FieldType := fun k => match k with
  | _ => .int
abbrev wsJ10 : List Cond := u_ws RJ1 TJ1 0
theorem nmJ1 : ∀ a, a < 0 → ∀ b, b < 0 → a ≠ b → (TJ1 a).2.1 ≠ (TJ1 b).2.1 := by decide +kernel
theorem tyJ1_ok : ∀ k, k < 0 → parseFieldDescriptor (TJ1 k).2.2.1 = some (tyJ1 k) := by decide +kernel
abbrev cJ1_charAt_3b067 : ByteArray := prog_17_method_2_code
def yJ1_charAt_3b067 : MethodName := ⟨RJ1, "charAt", "([BI)C"⟩
abbrev cJ1_canEncode_fc78d : ByteArray := prog_17_method_3_code
def yJ1_canEncode_fc78d : MethodName := ⟨RJ1, "canEncode", "(C)Z"⟩
abbrev cJ1_inflate_0e8fd : ByteArray := prog_17_method_50_code
def yJ1_inflate_0e8fd : MethodName := ⟨RJ1, "inflate", "([BI[BII)V"⟩
def RJ2 : String := "java/lang/StringUTF16"
def TJ2 : u_T := fun k => match k with
  | _ => ("", "", "", false)
def tyJ2 : Nat → FieldType := fun k => match k with
  | _ => .int
abbrev wsJ20 : List Cond := u_ws RJ2 TJ2 0
theorem nmJ2 : ∀ a, a < 0 → ∀ b, b < 0 → a ≠ b → (TJ2 a).2.1 ≠ (TJ2 b).2.1 := by decide +kernel
theorem tyJ2_ok : ∀ k, k < 0 → parseFieldDescriptor (TJ2 k).2.2.1 = some (tyJ2 k) := by decide +kernel
abbrev cJ2_newBytesFor_77867 : ByteArray := prog_18_method_2_code
def yJ2_newBytesFor_77867 : MethodName := ⟨RJ2, "newBytesFor", "(I)[B"⟩
abbrev cJ2_newBytesLength_0f7a4 : ByteArray := prog_18_method_3_code
def yJ2_newBytesLength_0f7a4 : MethodName := ⟨RJ2, "newBytesLength", "(I)I"⟩
abbrev cJ2_putChar_b72d1 : ByteArray := prog_18_method_4_code
def yJ2_putChar_b72d1 : MethodName := ⟨RJ2, "putChar", "([BII)V"⟩
abbrev cJ2_getChar_3b067 : ByteArray := prog_18_method_5_code
def yJ2_getChar_3b067 : MethodName := ⟨RJ2, "getChar", "([BI)C"⟩
abbrev cJ2_length_9d52b : ByteArray := prog_18_method_6_code
def yJ2_length_9d52b : MethodName := ⟨RJ2, "length", "([B)I"⟩
abbrev cJ2_coderFromArrayLen_85cad : ByteArray := prog_18_method_15_code
def yJ2_coderFromArrayLen_85cad : MethodName := ⟨RJ2, "coderFromArrayLen", "([BI)B"⟩
abbrev cJ2_compress_39247 : ByteArray := prog_18_method_17_code
def yJ2_compress_39247 : MethodName := ⟨RJ2, "compress", "([BII)[B"⟩
abbrev cJ2_compress_5af95 : ByteArray := prog_18_method_22_code
def yJ2_compress_5af95 : MethodName := ⟨RJ2, "compress", "([BI[BII)I"⟩
abbrev cJ2_putCharSB_b72d1 : ByteArray := prog_18_method_71_code
def yJ2_putCharSB_b72d1 : MethodName := ⟨RJ2, "putCharSB", "([BII)V"⟩
abbrev cJ2_getChars_46870 : ByteArray := prog_18_method_77_code
def yJ2_getChars_46870 : MethodName := ⟨RJ2, "getChars", "(III[B)I"⟩
abbrev cJ2_putCharsAt_cd4e5 : ByteArray := prog_18_method_81_code
def yJ2_putCharsAt_cd4e5 : MethodName := ⟨RJ2, "putCharsAt", "([BICCCC)I"⟩
abbrev cJ2_charAt_3b067 : ByteArray := prog_18_method_83_code
def yJ2_charAt_3b067 : MethodName := ⟨RJ2, "charAt", "([BI)C"⟩
abbrev cJ2_inflate_0e8fd : ByteArray := prog_18_method_86_code
def yJ2_inflate_0e8fd : MethodName := ⟨RJ2, "inflate", "([BI[BII)V"⟩
abbrev cJ2_getChars_ba4f3 : ByteArray := prog_18_method_89_code
def yJ2_getChars_ba4f3 : MethodName := ⟨RJ2, "getChars", "(II[B)I"⟩
abbrev cJ2_checkIndex_2214a : ByteArray := prog_18_method_91_code
def yJ2_checkIndex_2214a : MethodName := ⟨RJ2, "checkIndex", "(I[B)V"⟩
abbrev cJ2_checkBoundsBeginEnd_d044e : ByteArray := prog_18_method_93_code
def yJ2_checkBoundsBeginEnd_d044e : MethodName := ⟨RJ2, "checkBoundsBeginEnd", "(II[B)V"⟩
abbrev cJ2_checkBoundsOffCount_d044e : ByteArray := prog_18_method_94_code
def yJ2_checkBoundsOffCount_d044e : MethodName := ⟨RJ2, "checkBoundsOffCount", "(II[B)V"⟩
def RJ10 : String := "java/lang/System"
def TJ10 : u_T := fun k => match k with
  | _ => ("", "", "", false)
def tyJ10 : Nat → FieldType := fun k => match k with
  | _ => .int
abbrev wsJ100 : List Cond := u_ws RJ10 TJ10 0
theorem nmJ10 : ∀ a, a < 0 → ∀ b, b < 0 → a ≠ b → (TJ10 a).2.1 ≠ (TJ10 b).2.1 := by decide +kernel
theorem tyJ10_ok : ∀ k, k < 0 → parseFieldDescriptor (TJ10 k).2.2.1 = some (tyJ10 k) := by decide +kernel
def RJ7 : String := "java/util/Arrays"
def TJ7 : u_T := fun k => match k with
  | _ => ("", "", "", false)
def tyJ7 : Nat → FieldType := fun k => match k with
  | _ => .int
abbrev wsJ70 : List Cond := u_ws RJ7 TJ7 0
theorem nmJ7 : ∀ a, a < 0 → ∀ b, b < 0 → a ≠ b → (TJ7 a).2.1 ≠ (TJ7 b).2.1 := by decide +kernel
theorem tyJ7_ok : ∀ k, k < 0 → parseFieldDescriptor (TJ7 k).2.2.1 = some (tyJ7 k) := by decide +kernel
abbrev cJ7_copyOf_9075b : ByteArray := prog_20_method_121_code
def yJ7_copyOf_9075b : MethodName := ⟨RJ7, "copyOf", "([BI)[B"⟩
abbrev cJ7_checkLength_df160 : ByteArray := prog_20_method_131_code
def yJ7_checkLength_df160 : MethodName := ⟨RJ7, "checkLength", "(II)V"⟩
abbrev cJ7_copyOfRange_39247 : ByteArray := prog_20_method_132_code
def yJ7_copyOfRange_39247 : MethodName := ⟨RJ7, "copyOfRange", "([BII)[B"⟩
abbrev cJ7_copyOfRangeByte_39247 : ByteArray := prog_20_method_133_code
def yJ7_copyOfRangeByte_39247 : MethodName := ⟨RJ7, "copyOfRangeByte", "([BII)[B"⟩
def RJ8 : String := "jdk/internal/util/ArraysSupport"
def TJ8 : u_T := fun k => match k with
  | _ => ("", "", "", false)
def tyJ8 : Nat → FieldType := fun k => match k with
  | _ => .int
abbrev wsJ80 : List Cond := u_ws RJ8 TJ8 0
theorem nmJ8 : ∀ a, a < 0 → ∀ b, b < 0 → a ≠ b → (TJ8 a).2.1 ≠ (TJ8 b).2.1 := by decide +kernel
theorem tyJ8_ok : ∀ k, k < 0 → parseFieldDescriptor (TJ8 k).2.2.1 = some (tyJ8 k) := by decide +kernel
abbrev cJ8_newLength_cabcc : ByteArray := prog_21_method_27_code
def yJ8_newLength_cabcc : MethodName := ⟨RJ8, "newLength", "(III)I"⟩
abbrev cJ8_hugeLength_7cf53 : ByteArray := prog_21_method_28_code
def yJ8_hugeLength_7cf53 : MethodName := ⟨RJ8, "hugeLength", "(II)I"⟩
def RJ3 : String := "jdk/internal/util/Preconditions"
def TJ3 : u_T := fun k => match k with
  | _ => ("", "", "", false)
def tyJ3 : Nat → FieldType := fun k => match k with
  | _ => .int
abbrev wsJ30 : List Cond := u_ws RJ3 TJ3 0
theorem nmJ3 : ∀ a, a < 0 → ∀ b, b < 0 → a ≠ b → (TJ3 a).2.1 ≠ (TJ3 b).2.1 := by decide +kernel
theorem tyJ3_ok : ∀ k, k < 0 → parseFieldDescriptor (TJ3 k).2.2.1 = some (tyJ3 k) := by decide +kernel
abbrev cJ3_checkIndex_8e157 : ByteArray := prog_22_method_11_code
def yJ3_checkIndex_8e157 : MethodName := ⟨RJ3, "checkIndex", "(IILjava/util/function/BiFunction;)I"⟩
abbrev cJ3_checkFromToIndex_8c36e : ByteArray := prog_22_method_12_code
def yJ3_checkFromToIndex_8c36e : MethodName := ⟨RJ3, "checkFromToIndex", "(IIILjava/util/function/BiFunction;)I"⟩
abbrev cJ3_checkFromIndexSize_8c36e : ByteArray := prog_22_method_13_code
def yJ3_checkFromIndexSize_8c36e : MethodName := ⟨RJ3, "checkFromIndexSize", "(IIILjava/util/function/BiFunction;)I"⟩
def RL : String := "SeatSwapLaw"
abbrev cL_feeds : ByteArray := method_2_code
def yL_feeds : MethodName := ⟨RL, "feeds", "(LSeatSwap;Ljava/lang/String;)Z"⟩
abbrev cL_train : ByteArray := method_3_code
def yL_train : MethodName := ⟨RL, "train", "(II)Ljava/lang/String;"⟩
abbrev cL_setup : ByteArray := method_4_code
def yL_setup : MethodName := ⟨RL, "setup", "(LSeatSwap;)Ljava/lang/String;"⟩
abbrev cL_state : ByteArray := method_5_code
def yL_state : MethodName := ⟨RL, "state", "(LSeatSwap;)J"⟩
abbrev cL_seats : ByteArray := method_6_code
def yL_seats : MethodName := ⟨RL, "seats", "(LSeatSwap;)Z"⟩
abbrev cL_swaps : ByteArray := method_7_code
def yL_swaps : MethodName := ⟨RL, "swaps", "(LSeatSwap;II)Z"⟩
abbrev cL_moves : ByteArray := method_8_code
def yL_moves : MethodName := ⟨RL, "moves", "(LSeatSwap;I)Z"⟩
abbrev cL_rings : ByteArray := method_9_code
def yL_rings : MethodName := ⟨RL, "rings", "(LSeatSwap;)Z"⟩
abbrev cL_settles : ByteArray := method_10_code
def yL_settles : MethodName := ⟨RL, "settles", "(LSeatSwap;)Z"⟩
abbrev cL_stations : ByteArray := method_11_code
def yL_stations : MethodName := ⟨RL, "stations", "(LSeatSwap;I)Z"⟩
abbrev cL_does : ByteArray := method_12_code
def yL_does : MethodName := ⟨RL, "does", "(LSeatSwap;II)Z"⟩
abbrev cL_law : ByteArray := code
def yL_law : MethodName := ⟨RL, "law", "([I)Z"⟩
abbrev vwCl : List vw_C := [(RJ0, TJ0, 4), (RJ4, TJ4, 4), (RX0, TX0, 3), (RX1, TX1, 3), (RX2, TX2, 6), (RX3, TX3, 3), (RX4, TX4, 2), (RX5, TX5, 13), (RX6, TX6, 10), (RX7, TX7, 10)]
end
section
theorem zz1 : True := by
  have h := @Cond.arrayOver_specA
  trivial
theorem zz2 : True := by
  have h := @Jvm.Stand.multianewarray2
  trivial
theorem zz3 : True := by
  have h := @Jvm.Stand.multianewarray2K
  trivial
theorem zz4 : True := by
  have h := @Jvm.Free.Multi.fill_facts
  trivial
theorem zz5 : True := by
  have h := @Jvm.Stand.multianewarray2K'
  trivial
end
